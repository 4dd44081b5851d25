def fpL_X10_shift_124_x_x_x_x_x : List (Nat × Nat × Nat) := []
def fp_X10_shift_124_x_x_x_x_x (q k : Nat) : Bool := pvfp fpL_X10_shift_124_x_x_x_x_x q k
set_option maxHeartbeats 4000000 in
set_option maxRecDepth 10000 in
theorem sf_X10_shift_124_x_x_x_x_x (M : pvM) (hok : pvOk M) (n1 : Int32) (n2 : Int32) (n3 : Int32) (n4 : Int32) (n5 : Int32) (d : Nat) : PW 73 d (0, [some (pvR 124), some (pvI n1), some (pvI n2), some (pvI n3), some (pvI n4), some (pvI n5), none], [], M) (fun r X => (∃ x : Int32, r = some (pvI x) ∧ (-13) ≤ Int32.toInt x ∧ Int32.toInt x ≤ 60) ∧ pvOk X ∧ pvFr fp_X10_shift_124_x_x_x_x_x M X) := by
  have hT : pvdom 73 = pvD_73 := rfl
  refine pw_blk hT 2 (S' := (2, [some (pvR 124), some (pvI n1), some (pvI n2), some (pvI n3), some (pvI n4), some (pvI n5), none], [pvI n1, pvR 124], M)) rfl ⟨trivial, trivial, trivial⟩ ?_
  refine pw_callT hT (as := [pvR 124, pvI n1]) (lo1 := [some (pvR 124), some (pvI n1)]) (d1 := d) (rest := []) rfl rfl rfl rfl rfl (fun _ => rfl) (Nat.zero_le _) rfl rfl rfl (sf_X10_isTape_124_x M hok n1 d) ?_
  by_cases c6_ : n1 < 0
  · refine pw_eqI (if_pos c6_) ?_
    have b7_ : (-2147483648) ≤ Int32.toInt n1 ∧ Int32.toInt n1 ≤ (-1) := zr_lt_l (-1) c6_ (zbnd n1) (show 0 ≤ Int32.toInt 0 ∧ Int32.toInt 0 ≤ 0 from (by decide)) (by decide)
    show PW 73 d (5, [some (pvR 124), some (pvI n1), some (pvI n2), some (pvI n3), some (pvI n4), some (pvI n5), none], [pvI 0], M) _
    refine pw_if hT (c := 0 = 0) rfl rfl (fun c8_ => ?_) (fun c8_ => absurd (by decide) c8_)
    refine pw_blk hT 1 (S' := (17, [some (pvR 124), some (pvI n1), some (pvI n2), some (pvI n3), some (pvI n4), some (pvI n5), none], [pvI (-1)], M)) rfl ⟨trivial, trivial⟩ ?_
    exact pw_ret hT rfl (r := some (pvI (-1))) (M' := M) ⟨rfl, rfl⟩ ⟨⟨_, rfl, (zr_wide (show (-1) ≤ Int32.toInt (-1) ∧ Int32.toInt (-1) ≤ (-1) from (by decide)) (by decide) (by decide))⟩, hok, pvfr_0⟩
  · refine pw_eqI (if_neg c6_) ?_
    have b9_ : 0 ≤ Int32.toInt n1 ∧ Int32.toInt n1 ≤ 2147483647 := zr_nlt_l 0 c6_ (zbnd n1) (show 0 ≤ Int32.toInt 0 ∧ Int32.toInt 0 ≤ 0 from (by decide)) (by decide)
    by_cases c10_ : 5 < n1
    · refine pw_eqI (if_pos c10_) ?_
      have b11_ : 6 ≤ Int32.toInt n1 ∧ Int32.toInt n1 ≤ 2147483647 := zr_lt_r 6 c10_ b9_ (show 5 ≤ Int32.toInt 5 ∧ Int32.toInt 5 ≤ 5 from (by decide)) (by decide)
      show PW 73 d (5, [some (pvR 124), some (pvI n1), some (pvI n2), some (pvI n3), some (pvI n4), some (pvI n5), none], [pvI 0], M) _
      refine pw_if hT (c := 0 = 0) rfl rfl (fun c12_ => ?_) (fun c12_ => absurd (by decide) c12_)
      refine pw_blk hT 1 (S' := (17, [some (pvR 124), some (pvI n1), some (pvI n2), some (pvI n3), some (pvI n4), some (pvI n5), none], [pvI (-1)], M)) rfl ⟨trivial, trivial⟩ ?_
      exact pw_ret hT rfl (r := some (pvI (-1))) (M' := M) ⟨rfl, rfl⟩ ⟨⟨_, rfl, (zr_wide (show (-1) ≤ Int32.toInt (-1) ∧ Int32.toInt (-1) ≤ (-1) from (by decide)) (by decide) (by decide))⟩, hok, pvfr_0⟩
    · refine pw_eqI (if_neg c10_) ?_
      have b13_ : 0 ≤ Int32.toInt n1 ∧ Int32.toInt n1 ≤ 5 := zr_nlt_r 5 c10_ b9_ (show 5 ≤ Int32.toInt 5 ∧ Int32.toInt 5 ≤ 5 from (by decide)) (by decide)
      show PW 73 d (5, [some (pvR 124), some (pvI n1), some (pvI n2), some (pvI n3), some (pvI n4), some (pvI n5), none], [pvI 1], M) _
      refine pw_if hT (c := 1 = 0) rfl rfl (fun c14_ => absurd c14_ (by decide)) (fun c14_ => ?_)
      refine pw_blk hT 2 (S' := (10, [some (pvR 124), some (pvI n1), some (pvI n2), some (pvI n3), some (pvI n4), some (pvI n5), none], [pvI n3, pvR 124], M)) rfl ⟨trivial, trivial, trivial⟩ ?_
      refine pw_callT hT (as := [pvR 124, pvI n3]) (lo1 := [some (pvR 124), some (pvI n3)]) (d1 := d) (rest := []) rfl rfl rfl rfl rfl (fun _ => rfl) (Nat.zero_le _) rfl rfl rfl (sf_X10_isTape_124_x M hok n3 d) ?_
      by_cases c20_ : n3 < 0
      · refine pw_eqI (if_pos c20_) ?_
        have b21_ : (-2147483648) ≤ Int32.toInt n3 ∧ Int32.toInt n3 ≤ (-1) := zr_lt_l (-1) c20_ (zbnd n3) (show 0 ≤ Int32.toInt 0 ∧ Int32.toInt 0 ≤ 0 from (by decide)) (by decide)
        show PW 73 d (13, [some (pvR 124), some (pvI n1), some (pvI n2), some (pvI n3), some (pvI n4), some (pvI n5), none], [pvI 0], M) _
        refine pw_ifn hT (c := 0 = 0) rfl rfl (fun c22_ => absurd (by decide) c22_) (fun c22_ => ?_)
        refine pw_blk hT 1 (S' := (17, [some (pvR 124), some (pvI n1), some (pvI n2), some (pvI n3), some (pvI n4), some (pvI n5), none], [pvI (-1)], M)) rfl ⟨trivial, trivial⟩ ?_
        exact pw_ret hT rfl (r := some (pvI (-1))) (M' := M) ⟨rfl, rfl⟩ ⟨⟨_, rfl, (zr_wide (show (-1) ≤ Int32.toInt (-1) ∧ Int32.toInt (-1) ≤ (-1) from (by decide)) (by decide) (by decide))⟩, hok, pvfr_0⟩
      · refine pw_eqI (if_neg c20_) ?_
        have b23_ : 0 ≤ Int32.toInt n3 ∧ Int32.toInt n3 ≤ 2147483647 := zr_nlt_l 0 c20_ (zbnd n3) (show 0 ≤ Int32.toInt 0 ∧ Int32.toInt 0 ≤ 0 from (by decide)) (by decide)
        by_cases c24_ : 5 < n3
        · refine pw_eqI (if_pos c24_) ?_
          have b25_ : 6 ≤ Int32.toInt n3 ∧ Int32.toInt n3 ≤ 2147483647 := zr_lt_r 6 c24_ b23_ (show 5 ≤ Int32.toInt 5 ∧ Int32.toInt 5 ≤ 5 from (by decide)) (by decide)
          show PW 73 d (13, [some (pvR 124), some (pvI n1), some (pvI n2), some (pvI n3), some (pvI n4), some (pvI n5), none], [pvI 0], M) _
          refine pw_ifn hT (c := 0 = 0) rfl rfl (fun c26_ => absurd (by decide) c26_) (fun c26_ => ?_)
          refine pw_blk hT 1 (S' := (17, [some (pvR 124), some (pvI n1), some (pvI n2), some (pvI n3), some (pvI n4), some (pvI n5), none], [pvI (-1)], M)) rfl ⟨trivial, trivial⟩ ?_
          exact pw_ret hT rfl (r := some (pvI (-1))) (M' := M) ⟨rfl, rfl⟩ ⟨⟨_, rfl, (zr_wide (show (-1) ≤ Int32.toInt (-1) ∧ Int32.toInt (-1) ≤ (-1) from (by decide)) (by decide) (by decide))⟩, hok, pvfr_0⟩
        · refine pw_eqI (if_neg c24_) ?_
          have b27_ : 0 ≤ Int32.toInt n3 ∧ Int32.toInt n3 ≤ 5 := zr_nlt_r 5 c24_ b23_ (show 5 ≤ Int32.toInt 5 ∧ Int32.toInt 5 ≤ 5 from (by decide)) (by decide)
          show PW 73 d (13, [some (pvR 124), some (pvI n1), some (pvI n2), some (pvI n3), some (pvI n4), some (pvI n5), none], [pvI 1], M) _
          refine pw_ifn hT (c := 1 = 0) rfl rfl (fun c28_ => ?_) (fun c28_ => absurd c28_ (by decide))
          have b29_ : (-1) ≤ Int32.toInt (M.1 164 (Int32.toNatClampNeg n1)) ∧ Int32.toInt (M.1 164 (Int32.toNatClampNeg n1)) ≤ 4 := pvok_r hok 164 (Int32.toNatClampNeg n1) rfl
          refine pw_blk hT 4 (S' := (24, [some (pvR 124), some (pvI n1), some (pvI n2), some (pvI n3), some (pvI n4), some (pvI n5), none], [pvI (M.1 164 (Int32.toNatClampNeg n1))], M)) rfl ⟨trivial, rfl, trivial, ⟨rfl, (zr_in (n := 6) b13_ (by decide) (by decide))⟩, trivial⟩ ?_
          refine pw_if hT (c := (M.1 164 (Int32.toNatClampNeg n1)) < 0) rfl rfl (fun c30_ => ?_) (fun c30_ => ?_)
          · have b31_ : (-1) ≤ Int32.toInt (M.1 164 (Int32.toNatClampNeg n1)) ∧ Int32.toInt (M.1 164 (Int32.toNatClampNeg n1)) ≤ (-1) := zr_lt_l (-1) c30_ b29_ (show 0 ≤ Int32.toInt 0 ∧ Int32.toInt 0 ≤ 0 from (by decide)) (by decide)
            refine pw_blk hT 1 (S' := (38, [some (pvR 124), some (pvI n1), some (pvI n2), some (pvI n3), some (pvI n4), some (pvI n5), none], [pvI (-11)], M)) rfl ⟨trivial, trivial⟩ ?_
            exact pw_ret hT rfl (r := some (pvI (-11))) (M' := M) ⟨rfl, rfl⟩ ⟨⟨_, rfl, (zr_wide (show (-11) ≤ Int32.toInt (-11) ∧ Int32.toInt (-11) ≤ (-11) from (by decide)) (by decide) (by decide))⟩, hok, pvfr_0⟩
          · have b32_ : 0 ≤ Int32.toInt (M.1 164 (Int32.toNatClampNeg n1)) ∧ Int32.toInt (M.1 164 (Int32.toNatClampNeg n1)) ≤ 4 := zr_nlt_l 0 c30_ b29_ (show 0 ≤ Int32.toInt 0 ∧ Int32.toInt 0 ≤ 0 from (by decide)) (by decide)
            have b33_ : (-1) ≤ Int32.toInt (M.1 164 (Int32.toNatClampNeg n3)) ∧ Int32.toInt (M.1 164 (Int32.toNatClampNeg n3)) ≤ 4 := pvok_r hok 164 (Int32.toNatClampNeg n3) rfl
            refine pw_blk hT 4 (S' := (33, [some (pvR 124), some (pvI n1), some (pvI n2), some (pvI n3), some (pvI n4), some (pvI n5), none], [pvI (M.1 164 (Int32.toNatClampNeg n3))], M)) rfl ⟨trivial, rfl, trivial, ⟨rfl, (zr_in (n := 6) b27_ (by decide) (by decide))⟩, trivial⟩ ?_
            refine pw_if hT (c := 0 ≤ (M.1 164 (Int32.toNatClampNeg n3))) rfl rfl (fun c34_ => ?_) (fun c34_ => ?_)
            · have b35_ : 0 ≤ Int32.toInt (M.1 164 (Int32.toNatClampNeg n3)) ∧ Int32.toInt (M.1 164 (Int32.toNatClampNeg n3)) ≤ 4 := zr_le_r 0 c34_ b33_ (show 0 ≤ Int32.toInt 0 ∧ Int32.toInt 0 ≤ 0 from (by decide)) (by decide)
              refine pw_blk hT 8 (S' := (51, [some (pvR 124), some (pvI n1), some (pvI n2), some (pvI n3), some (pvI n4), some (pvI n5), none], [pvI (M.1 164 (Int32.toNatClampNeg n3)), pvI (M.1 164 (Int32.toNatClampNeg n1))], M)) rfl ⟨trivial, rfl, trivial, ⟨rfl, (zr_in (n := 6) b13_ (by decide) (by decide))⟩, trivial, rfl, trivial, ⟨rfl, (zr_in (n := 6) b27_ (by decide) (by decide))⟩, trivial⟩ ?_
              refine pw_ic hT (c := (M.1 164 (Int32.toNatClampNeg n1)) = (M.1 164 (Int32.toNatClampNeg n3))) rfl rfl (fun c36_ => ?_) (fun c36_ => ?_)
              · have d37_ : Int32.toInt (M.1 164 (Int32.toNatClampNeg n1)) = Int32.toInt (M.1 164 (Int32.toNatClampNeg n3)) := (zi_eq _ _).mp c36_
                refine pw_blk hT 1 (S' := (59, [some (pvR 124), some (pvI n1), some (pvI n2), some (pvI n3), some (pvI n4), some (pvI n5), none], [pvI n5], M)) rfl ⟨trivial, trivial⟩ ?_
                refine pw_if hT (c := n5 < 0) rfl rfl (fun c38_ => ?_) (fun c38_ => ?_)
                · have b39_ : (-2147483648) ≤ Int32.toInt n5 ∧ Int32.toInt n5 ≤ (-1) := zr_lt_l (-1) c38_ (zbnd n5) (show 0 ≤ Int32.toInt 0 ∧ Int32.toInt 0 ≤ 0 from (by decide)) (by decide)
                  refine pw_blk hT 1 (S' := (100, [some (pvR 124), some (pvI n1), some (pvI n2), some (pvI n3), some (pvI n4), some (pvI n5), none], [pvI (-13)], M)) rfl ⟨trivial, trivial⟩ ?_
                  exact pw_ret hT rfl (r := some (pvI (-13))) (M' := M) ⟨rfl, rfl⟩ ⟨⟨_, rfl, (zr_wide (show (-13) ≤ Int32.toInt (-13) ∧ Int32.toInt (-13) ≤ (-13) from (by decide)) (by decide) (by decide))⟩, hok, pvfr_0⟩
                · have b40_ : 0 ≤ Int32.toInt n5 ∧ Int32.toInt n5 ≤ 2147483647 := zr_nlt_l 0 c38_ (zbnd n5) (show 0 ≤ Int32.toInt 0 ∧ Int32.toInt 0 ≤ 0 from (by decide)) (by decide)
                  refine pw_blk hT 1 (S' := (63, [some (pvR 124), some (pvI n1), some (pvI n2), some (pvI n3), some (pvI n4), some (pvI n5), none], [pvI n2], M)) rfl ⟨trivial, trivial⟩ ?_
                  refine pw_if hT (c := n2 < 0) rfl rfl (fun c41_ => ?_) (fun c41_ => ?_)
                  · have b42_ : (-2147483648) ≤ Int32.toInt n2 ∧ Int32.toInt n2 ≤ (-1) := zr_lt_l (-1) c41_ (zbnd n2) (show 0 ≤ Int32.toInt 0 ∧ Int32.toInt 0 ≤ 0 from (by decide)) (by decide)
                    refine pw_blk hT 1 (S' := (100, [some (pvR 124), some (pvI n1), some (pvI n2), some (pvI n3), some (pvI n4), some (pvI n5), none], [pvI (-13)], M)) rfl ⟨trivial, trivial⟩ ?_
                    exact pw_ret hT rfl (r := some (pvI (-13))) (M' := M) ⟨rfl, rfl⟩ ⟨⟨_, rfl, (zr_wide (show (-13) ≤ Int32.toInt (-13) ∧ Int32.toInt (-13) ≤ (-13) from (by decide)) (by decide) (by decide))⟩, hok, pvfr_0⟩
                  · have b43_ : 0 ≤ Int32.toInt n2 ∧ Int32.toInt n2 ≤ 2147483647 := zr_nlt_l 0 c41_ (zbnd n2) (show 0 ≤ Int32.toInt 0 ∧ Int32.toInt 0 ≤ 0 from (by decide)) (by decide)
                    refine pw_blk hT 1 (S' := (68, [some (pvR 124), some (pvI n1), some (pvI n2), some (pvI n3), some (pvI n4), some (pvI n5), none], [pvI n4], M)) rfl ⟨trivial, trivial⟩ ?_
                    refine pw_if hT (c := n4 < 0) rfl rfl (fun c44_ => ?_) (fun c44_ => ?_)
                    · have b45_ : (-2147483648) ≤ Int32.toInt n4 ∧ Int32.toInt n4 ≤ (-1) := zr_lt_l (-1) c44_ (zbnd n4) (show 0 ≤ Int32.toInt 0 ∧ Int32.toInt 0 ≤ 0 from (by decide)) (by decide)
                      refine pw_blk hT 1 (S' := (100, [some (pvR 124), some (pvI n1), some (pvI n2), some (pvI n3), some (pvI n4), some (pvI n5), none], [pvI (-13)], M)) rfl ⟨trivial, trivial⟩ ?_
                      exact pw_ret hT rfl (r := some (pvI (-13))) (M' := M) ⟨rfl, rfl⟩ ⟨⟨_, rfl, (zr_wide (show (-13) ≤ Int32.toInt (-13) ∧ Int32.toInt (-13) ≤ (-13) from (by decide)) (by decide) (by decide))⟩, hok, pvfr_0⟩
                    · have b46_ : 0 ≤ Int32.toInt n4 ∧ Int32.toInt n4 ≤ 2147483647 := zr_nlt_l 0 c44_ (zbnd n4) (show 0 ≤ Int32.toInt 0 ∧ Int32.toInt 0 ≤ 0 from (by decide)) (by decide)
                      have b47_ : 0 ≤ Int32.toInt (M.1 165 (Int32.toNatClampNeg n1)) ∧ Int32.toInt (M.1 165 (Int32.toNatClampNeg n1)) ≤ 60 := pvok_r hok 165 (Int32.toNatClampNeg n1) rfl
                      obtain ⟨q49_, b48_⟩ : (Int32.toInt ((M.1 165 (Int32.toNatClampNeg n1)) - n5) = Int32.toInt (M.1 165 (Int32.toNatClampNeg n1)) - Int32.toInt n5) ∧ ((-2147483647) ≤ Int32.toInt ((M.1 165 (Int32.toNatClampNeg n1)) - n5) ∧ Int32.toInt ((M.1 165 (Int32.toNatClampNeg n1)) - n5) ≤ 60) := zsub_r (M.1 165 (Int32.toNatClampNeg n1)) n5 (-2147483647) 60 b47_ b40_ (by decide) (by decide) (by decide) (by decide)
                      refine pw_blk hT 7 (S' := (81, [some (pvR 124), some (pvI n1), some (pvI n2), some (pvI n3), some (pvI n4), some (pvI n5), none], [pvI ((M.1 165 (Int32.toNatClampNeg n1)) - n5), pvI n2], M)) rfl ⟨trivial, trivial, rfl, trivial, ⟨rfl, (zr_in (n := 6) b13_ (by decide) (by decide))⟩, trivial, trivial, trivial⟩ ?_
                      refine pw_ic hT (c := ((M.1 165 (Int32.toNatClampNeg n1)) - n5) < n2) rfl rfl (fun c50_ => ?_) (fun c50_ => ?_)
                      · have d51_ : Int32.toInt ((M.1 165 (Int32.toNatClampNeg n1)) - n5) < Int32.toInt n2 := (zi_lt _ _).mp c50_
                        refine pw_blk hT 1 (S' := (100, [some (pvR 124), some (pvI n1), some (pvI n2), some (pvI n3), some (pvI n4), some (pvI n5), none], [pvI (-13)], M)) rfl ⟨trivial, trivial⟩ ?_
                        exact pw_ret hT rfl (r := some (pvI (-13))) (M' := M) ⟨rfl, rfl⟩ ⟨⟨_, rfl, (zr_wide (show (-13) ≤ Int32.toInt (-13) ∧ Int32.toInt (-13) ≤ (-13) from (by decide)) (by decide) (by decide))⟩, hok, pvfr_0⟩
                      · have b52_ : 0 ≤ Int32.toInt ((M.1 165 (Int32.toNatClampNeg n1)) - n5) ∧ Int32.toInt ((M.1 165 (Int32.toNatClampNeg n1)) - n5) ≤ 60 := zr_nlt_l 0 c50_ b48_ b43_ (by decide)
                        have b53_ : 0 ≤ Int32.toInt n2 ∧ Int32.toInt n2 ≤ 60 := zr_nlt_r 60 c50_ b43_ b52_ (by decide)
                        have d54_ : Int32.toInt ((M.1 165 (Int32.toNatClampNeg n1)) - n5) ≥ Int32.toInt n2 := Int.not_lt.mp ((not_congr (zi_lt _ _)).mp c50_)
                        have b55_ : 0 ≤ Int32.toInt (M.1 165 (Int32.toNatClampNeg n3)) ∧ Int32.toInt (M.1 165 (Int32.toNatClampNeg n3)) ≤ 60 := pvok_r hok 165 (Int32.toNatClampNeg n3) rfl
                        obtain ⟨q57_, b56_⟩ : (Int32.toInt ((M.1 165 (Int32.toNatClampNeg n3)) - n5) = Int32.toInt (M.1 165 (Int32.toNatClampNeg n3)) - Int32.toInt n5) ∧ ((-2147483647) ≤ Int32.toInt ((M.1 165 (Int32.toNatClampNeg n3)) - n5) ∧ Int32.toInt ((M.1 165 (Int32.toNatClampNeg n3)) - n5) ≤ 60) := zsub_r (M.1 165 (Int32.toNatClampNeg n3)) n5 (-2147483647) 60 b55_ b40_ (by decide) (by decide) (by decide) (by decide)
                        refine pw_blk hT 7 (S' := (95, [some (pvR 124), some (pvI n1), some (pvI n2), some (pvI n3), some (pvI n4), some (pvI n5), none], [pvI ((M.1 165 (Int32.toNatClampNeg n3)) - n5), pvI n4], M)) rfl ⟨trivial, trivial, rfl, trivial, ⟨rfl, (zr_in (n := 6) b27_ (by decide) (by decide))⟩, trivial, trivial, trivial⟩ ?_
                        refine pw_ic hT (c := n4 ≤ ((M.1 165 (Int32.toNatClampNeg n3)) - n5)) rfl rfl (fun c58_ => ?_) (fun c58_ => ?_)
                        · have b59_ : 0 ≤ Int32.toInt n4 ∧ Int32.toInt n4 ≤ 60 := zr_le_l 60 c58_ b46_ b56_ (by decide)
                          have b60_ : 0 ≤ Int32.toInt ((M.1 165 (Int32.toNatClampNeg n3)) - n5) ∧ Int32.toInt ((M.1 165 (Int32.toNatClampNeg n3)) - n5) ≤ 60 := zr_le_r 0 c58_ b56_ b59_ (by decide)
                          have d61_ : Int32.toInt n4 ≤ Int32.toInt ((M.1 165 (Int32.toNatClampNeg n3)) - n5) := (zi_le _ _).mp c58_
                          have b62_ : 0 ≤ Int32.toInt n5 ∧ Int32.toInt n5 ≤ 60 := (by omega)
                          refine pw_blk hT 2 (S' := (104, [some (pvR 124), some (pvI n1), some (pvI n2), some (pvI n3), some (pvI n4), some (pvI n5), some (pvI 0)], [], M)) rfl ⟨trivial, trivial, trivial⟩ ?_
                          have hlz323_ : ∀ (nz323_ : Nat) (i6z323_ : Int32) (Mz323_ : pvM), (pvOk Mz323_) → (pvFr fp_X10_shift_124_x_x_x_x_x M Mz323_) → (0 ≤ Int32.toInt i6z323_ ∧ Int32.toInt i6z323_ ≤ 60) → (zhide ((61 - Int32.toInt i6z323_).toNat < nz323_)) → PW 73 d (104, [some (pvR 124), some (pvI n1), some (pvI n2), some (pvI n3), some (pvI n4), some (pvI n5), some (pvI i6z323_)], [], Mz323_) (fun r X => (∃ x : Int32, r = some (pvI x) ∧ (-13) ≤ Int32.toInt x ∧ Int32.toInt x ≤ 60) ∧ pvOk X ∧ pvFr fp_X10_shift_124_x_x_x_x_x M X) := by
                            intro nz323_
                            induction nz323_ with
                            | zero => intro i6z323_ Mz323_ oz323_ fz323_ h6z323_ hmz323_; exact absurd (zshow hmz323_) (Nat.not_lt_zero _)
                            | succ nz323_ ihz323_ =>
                              intro i6z323_ Mz323_ oz323_ fz323_ h6z323_ hmz323_
                              refine pw_blk hT 2 (S' := (108, [some (pvR 124), some (pvI n1), some (pvI n2), some (pvI n3), some (pvI n4), some (pvI n5), some (pvI i6z323_)], [pvI n5, pvI i6z323_], Mz323_)) rfl ⟨trivial, trivial, trivial⟩ ?_
                              refine pw_ic hT (c := n5 ≤ i6z323_) rfl rfl (fun c324_ => ?_) (fun c324_ => ?_)
                              · have d325_ : Int32.toInt n5 ≤ Int32.toInt i6z323_ := (zi_le _ _).mp c324_
                                refine pw_blk hT 2 (S' := (141, [some (pvR 124), some (pvI n1), some (pvI n2), some (pvI n3), some (pvI n4), some (pvI n5), some (pvI 0)], [], Mz323_)) rfl ⟨trivial, trivial, trivial⟩ ?_
                                have hlz398_ : ∀ (nz398_ : Nat) (i6z398_ : Int32) (Mz398_ : pvM), (pvOk Mz398_) → (pvFr fp_X10_shift_124_x_x_x_x_x M Mz398_) → (0 ≤ Int32.toInt i6z398_ ∧ Int32.toInt i6z398_ ≤ 60) → (zhide ((61 - Int32.toInt i6z398_).toNat < nz398_)) → PW 73 d (141, [some (pvR 124), some (pvI n1), some (pvI n2), some (pvI n3), some (pvI n4), some (pvI n5), some (pvI i6z398_)], [], Mz398_) (fun r X => (∃ x : Int32, r = some (pvI x) ∧ (-13) ≤ Int32.toInt x ∧ Int32.toInt x ≤ 60) ∧ pvOk X ∧ pvFr fp_X10_shift_124_x_x_x_x_x M X) := by
                                  intro nz398_
                                  induction nz398_ with
                                  | zero => intro i6z398_ Mz398_ oz398_ fz398_ h6z398_ hmz398_; exact absurd (zshow hmz398_) (Nat.not_lt_zero _)
                                  | succ nz398_ ihz398_ =>
                                    intro i6z398_ Mz398_ oz398_ fz398_ h6z398_ hmz398_
                                    refine pw_blk hT 2 (S' := (145, [some (pvR 124), some (pvI n1), some (pvI n2), some (pvI n3), some (pvI n4), some (pvI n5), some (pvI i6z398_)], [pvI n5, pvI i6z398_], Mz398_)) rfl ⟨trivial, trivial, trivial⟩ ?_
                                    refine pw_ic hT (c := n5 ≤ i6z398_) rfl rfl (fun c399_ => ?_) (fun c399_ => ?_)
                                    · have d400_ : Int32.toInt n5 ≤ Int32.toInt i6z398_ := (zi_le _ _).mp c399_
                                      refine pw_blk hT 1 (S' := (178, [some (pvR 124), some (pvI n1), some (pvI n2), some (pvI n3), some (pvI n4), some (pvI n5), some (pvI i6z398_)], [pvI n5], Mz398_)) rfl ⟨trivial, trivial⟩ ?_
                                      exact pw_ret hT rfl (r := some (pvI n5)) (M' := Mz398_) ⟨rfl, rfl⟩ ⟨⟨_, rfl, (zr_wide b62_ (by decide) (by decide))⟩, oz398_, fz398_⟩
                                    · have b401_ : 1 ≤ Int32.toInt n5 ∧ Int32.toInt n5 ≤ 60 := zr_nle_l 1 c399_ b62_ h6z398_ (by decide)
                                      have b402_ : 0 ≤ Int32.toInt i6z398_ ∧ Int32.toInt i6z398_ ≤ 59 := zr_nle_r 59 c399_ h6z398_ b401_ (by decide)
                                      have d403_ : Int32.toInt n5 > Int32.toInt i6z398_ := Int.not_le.mp ((not_congr (zi_le _ _)).mp c399_)
                                      have q404_ : Int32.toInt (60 * n3) = 60 * Int32.toInt n3 := by have u0 : Int32.toInt 60 = 60 := (by decide); have u1 := b27_; have u2 := zmul 60 n3 (by rw [u0]; omega) (by rw [u0]; omega); rw [u0] at u2; omega
                                      have b405_ : 0 ≤ Int32.toInt (60 * n3) ∧ Int32.toInt (60 * n3) ≤ 300 := (by have u1 := b27_; omega)
                                      obtain ⟨q407_, b406_⟩ : (Int32.toInt ((60 * n3) + n4) = Int32.toInt (60 * n3) + Int32.toInt n4) ∧ (0 ≤ Int32.toInt ((60 * n3) + n4) ∧ Int32.toInt ((60 * n3) + n4) ≤ 360) := zadd_r (60 * n3) n4 0 360 b405_ b59_ (by decide) (by decide) (by decide) (by decide)
                                      obtain ⟨q409_, b408_⟩ : (Int32.toInt (((60 * n3) + n4) + i6z398_) = Int32.toInt ((60 * n3) + n4) + Int32.toInt i6z398_) ∧ (0 ≤ Int32.toInt (((60 * n3) + n4) + i6z398_) ∧ Int32.toInt (((60 * n3) + n4) + i6z398_) ≤ 419) := zadd_r ((60 * n3) + n4) i6z398_ 0 419 b406_ b402_ (by decide) (by decide) (by decide) (by decide)
                                      refine pw_blkw hT 14 (pc := 170) (lo := [some (pvR 124), some (pvI n1), some (pvI n2), some (pvI n3), some (pvI n4), some (pvI n5), some (pvI i6z398_)]) (st := []) (M := pvw Mz398_ 166 (Int32.toNatClampNeg (((60 * n3) + n4) + i6z398_)) (Mz398_.2 167 (Int32.toNatClampNeg i6z398_))) rfl ⟨trivial, rfl, trivial, trivial, trivial, trivial, trivial, trivial, trivial, trivial, rfl, trivial, ⟨rfl, (zr_in (n := 60) b402_ (by decide) (by decide))⟩, ⟨rfl, (vp_in_iff.mpr (show 0 ≤ Int32.toInt (((60 * n3) + n4) + i6z398_) ∧ Int32.toInt (((60 * n3) + n4) + i6z398_) < ((360 : Nat) : Int) from (by have u0 := b408_; omega)))⟩, trivial⟩ (fun M410_ e411_ => ?_)
                                      have o412_ : pvOk M410_ := pvok_w e411_ oz398_
                                      have f413_ : pvFr fp_X10_shift_124_x_x_x_x_x M M410_ := pvfr_w e411_ fz398_
                                      obtain ⟨q415_, b414_⟩ : (Int32.toInt (i6z398_ + 1) = Int32.toInt i6z398_ + 1) ∧ (1 ≤ Int32.toInt (i6z398_ + 1) ∧ Int32.toInt (i6z398_ + 1) ≤ 60) := zadd_k i6z398_ 1 1 1 60 b402_ (by decide) (by decide) (by decide) (by decide) (by decide)
                                      refine pw_blk hT 2 (S' := (141, [some (pvR 124), some (pvI n1), some (pvI n2), some (pvI n3), some (pvI n4), some (pvI n5), some (pvI (i6z398_ + 1))], [], M410_)) rfl ⟨trivial, trivial, trivial⟩ ?_
                                      exact ihz398_ (i6z398_ + 1) M410_ o412_ f413_ (zr_wide b414_ (by decide) (by decide)) (zhid (pvms_up (zshow hmz398_) h6z398_ q415_ (by decide) (by decide)))
                                exact hlz398_ _ 0 Mz323_ oz323_ fz323_ (zr_wide (show 0 ≤ Int32.toInt 0 ∧ Int32.toInt 0 ≤ 0 from (by decide)) (by decide) (by decide)) (zhid (Nat.lt_succ_self _))
                              · have b416_ : 1 ≤ Int32.toInt n5 ∧ Int32.toInt n5 ≤ 60 := zr_nle_l 1 c324_ b62_ h6z323_ (by decide)
                                have b417_ : 0 ≤ Int32.toInt i6z323_ ∧ Int32.toInt i6z323_ ≤ 59 := zr_nle_r 59 c324_ h6z323_ b416_ (by decide)
                                have d418_ : Int32.toInt n5 > Int32.toInt i6z323_ := Int.not_le.mp ((not_congr (zi_le _ _)).mp c324_)
                                have q419_ : Int32.toInt (60 * n1) = 60 * Int32.toInt n1 := by have u0 : Int32.toInt 60 = 60 := (by decide); have u1 := b13_; have u2 := zmul 60 n1 (by rw [u0]; omega) (by rw [u0]; omega); rw [u0] at u2; omega
                                have b420_ : 0 ≤ Int32.toInt (60 * n1) ∧ Int32.toInt (60 * n1) ≤ 300 := (by have u1 := b13_; omega)
                                obtain ⟨q422_, b421_⟩ : (Int32.toInt ((60 * n1) + n2) = Int32.toInt (60 * n1) + Int32.toInt n2) ∧ (0 ≤ Int32.toInt ((60 * n1) + n2) ∧ Int32.toInt ((60 * n1) + n2) ≤ 360) := zadd_r (60 * n1) n2 0 360 b420_ b53_ (by decide) (by decide) (by decide) (by decide)
                                obtain ⟨q424_, b423_⟩ : (Int32.toInt (((60 * n1) + n2) + i6z323_) = Int32.toInt ((60 * n1) + n2) + Int32.toInt i6z323_) ∧ (0 ≤ Int32.toInt (((60 * n1) + n2) + i6z323_) ∧ Int32.toInt (((60 * n1) + n2) + i6z323_) ≤ 419) := zadd_r ((60 * n1) + n2) i6z323_ 0 419 b421_ b417_ (by decide) (by decide) (by decide) (by decide)
                                refine pw_blkw hT 14 (pc := 132) (lo := [some (pvR 124), some (pvI n1), some (pvI n2), some (pvI n3), some (pvI n4), some (pvI n5), some (pvI i6z323_)]) (st := []) (M := pvw Mz323_ 167 (Int32.toNatClampNeg i6z323_) (Mz323_.2 166 (Int32.toNatClampNeg (((60 * n1) + n2) + i6z323_)))) rfl ⟨trivial, rfl, trivial, trivial, rfl, trivial, trivial, trivial, trivial, trivial, trivial, trivial, ⟨rfl, (vp_in_iff.mpr (show 0 ≤ Int32.toInt (((60 * n1) + n2) + i6z323_) ∧ Int32.toInt (((60 * n1) + n2) + i6z323_) < ((360 : Nat) : Int) from (by have u0 := b423_; omega)))⟩, ⟨rfl, (zr_in (n := 60) b417_ (by decide) (by decide))⟩, trivial⟩ (fun M425_ e426_ => ?_)
                                have o427_ : pvOk M425_ := pvok_w e426_ oz323_
                                have f428_ : pvFr fp_X10_shift_124_x_x_x_x_x M M425_ := pvfr_w e426_ fz323_
                                obtain ⟨q430_, b429_⟩ : (Int32.toInt (i6z323_ + 1) = Int32.toInt i6z323_ + 1) ∧ (1 ≤ Int32.toInt (i6z323_ + 1) ∧ Int32.toInt (i6z323_ + 1) ≤ 60) := zadd_k i6z323_ 1 1 1 60 b417_ (by decide) (by decide) (by decide) (by decide) (by decide)
                                refine pw_blk hT 2 (S' := (104, [some (pvR 124), some (pvI n1), some (pvI n2), some (pvI n3), some (pvI n4), some (pvI n5), some (pvI (i6z323_ + 1))], [], M425_)) rfl ⟨trivial, trivial, trivial⟩ ?_
                                exact ihz323_ (i6z323_ + 1) M425_ o427_ f428_ (zr_wide b429_ (by decide) (by decide)) (zhid (pvms_up (zshow hmz323_) h6z323_ q430_ (by decide) (by decide)))
                          exact hlz323_ _ 0 M hok pvfr_0 (zr_wide (show 0 ≤ Int32.toInt 0 ∧ Int32.toInt 0 ≤ 0 from (by decide)) (by decide) (by decide)) (zhid (Nat.lt_succ_self _))
                        · have d431_ : Int32.toInt n4 > Int32.toInt ((M.1 165 (Int32.toNatClampNeg n3)) - n5) := Int.not_le.mp ((not_congr (zi_le _ _)).mp c58_)
                          refine pw_blk hT 1 (S' := (100, [some (pvR 124), some (pvI n1), some (pvI n2), some (pvI n3), some (pvI n4), some (pvI n5), none], [pvI (-13)], M)) rfl ⟨trivial, trivial⟩ ?_
                          exact pw_ret hT rfl (r := some (pvI (-13))) (M' := M) ⟨rfl, rfl⟩ ⟨⟨_, rfl, (zr_wide (show (-13) ≤ Int32.toInt (-13) ∧ Int32.toInt (-13) ≤ (-13) from (by decide)) (by decide) (by decide))⟩, hok, pvfr_0⟩
              · refine pw_blk hT 1 (S' := (56, [some (pvR 124), some (pvI n1), some (pvI n2), some (pvI n3), some (pvI n4), some (pvI n5), none], [pvI (-12)], M)) rfl ⟨trivial, trivial⟩ ?_
                exact pw_ret hT rfl (r := some (pvI (-12))) (M' := M) ⟨rfl, rfl⟩ ⟨⟨_, rfl, (zr_wide (show (-12) ≤ Int32.toInt (-12) ∧ Int32.toInt (-12) ≤ (-12) from (by decide)) (by decide) (by decide))⟩, hok, pvfr_0⟩
            · have b432_ : (-1) ≤ Int32.toInt (M.1 164 (Int32.toNatClampNeg n3)) ∧ Int32.toInt (M.1 164 (Int32.toNatClampNeg n3)) ≤ (-1) := zr_nle_r (-1) c34_ b33_ (show 0 ≤ Int32.toInt 0 ∧ Int32.toInt 0 ≤ 0 from (by decide)) (by decide)
              refine pw_blk hT 1 (S' := (38, [some (pvR 124), some (pvI n1), some (pvI n2), some (pvI n3), some (pvI n4), some (pvI n5), none], [pvI (-11)], M)) rfl ⟨trivial, trivial⟩ ?_
              exact pw_ret hT rfl (r := some (pvI (-11))) (M' := M) ⟨rfl, rfl⟩ ⟨⟨_, rfl, (zr_wide (show (-11) ≤ Int32.toInt (-11) ∧ Int32.toInt (-11) ≤ (-11) from (by decide)) (by decide) (by decide))⟩, hok, pvfr_0⟩
def fpL_X10_shut_124_x : List (Nat × Nat × Nat) := [(0, 124, 2), (0, 124, 3), (0, 124, 33), (0, 124, 6), (0, 124, 7), (0, 131, 0), (0, 141, 0), (0, 142, 0), (0, 143, 0)]
def fp_X10_shut_124_x (q k : Nat) : Bool := pvfp fpL_X10_shut_124_x q k
theorem fp_X10_shut_124_x_fp_X10_goMinutes_124_x (a b : Nat) (h : fp_X10_goMinutes_124_x a b = true) : fp_X10_shut_124_x a b = true := pvfp_sub (l1 := fpL_X10_goMinutes_124_x) (l2 := fpL_X10_shut_124_x) (by decide) a b h
set_option maxHeartbeats 4000000 in
set_option maxRecDepth 10000 in
theorem sf_X10_shut_124_x (M : pvM) (hok : pvOk M) (n1 : Int32) (hz : pvWF M) (d : Nat) : PW 74 d (0, [some (pvR 124), some (pvI n1), none, none], [], M) (fun r X => (∃ x : Int32, r = some (pvI x) ∧ (-3) ≤ Int32.toInt x ∧ Int32.toInt x ≤ 319) ∧ pvOk X ∧ pvFr fp_X10_shut_124_x M X) := by
  have hT : pvdom 74 = pvD_74 := rfl
  refine pw_blk hT 2 (S' := (2, [some (pvR 124), some (pvI n1), none, none], [pvI n1, pvR 124], M)) rfl ⟨trivial, trivial, trivial⟩ ?_
  refine pw_callT hT (as := [pvR 124, pvI n1]) (lo1 := [some (pvR 124), some (pvI n1)]) (d1 := d) (rest := []) rfl rfl rfl rfl rfl (fun _ => rfl) (Nat.zero_le _) rfl rfl rfl (sf_X10_isWindow_124_x M hok n1 d) ?_
  by_cases c6_ : n1 < 0
  · refine pw_eqI (if_pos c6_) ?_
    have b7_ : (-2147483648) ≤ Int32.toInt n1 ∧ Int32.toInt n1 ≤ (-1) := zr_lt_l (-1) c6_ (zbnd n1) (show 0 ≤ Int32.toInt 0 ∧ Int32.toInt 0 ≤ 0 from (by decide)) (by decide)
    show PW 74 d (5, [some (pvR 124), some (pvI n1), none, none], [pvI 0], M) _
    refine pw_ifn hT (c := 0 = 0) rfl rfl (fun c8_ => absurd (by decide) c8_) (fun c8_ => ?_)
    refine pw_blk hT 1 (S' := (9, [some (pvR 124), some (pvI n1), none, none], [pvI (-1)], M)) rfl ⟨trivial, trivial⟩ ?_
    exact pw_ret hT rfl (r := some (pvI (-1))) (M' := M) ⟨rfl, rfl⟩ ⟨⟨_, rfl, (zr_wide (show (-1) ≤ Int32.toInt (-1) ∧ Int32.toInt (-1) ≤ (-1) from (by decide)) (by decide) (by decide))⟩, hok, pvfr_0⟩
  · refine pw_eqI (if_neg c6_) ?_
    have b9_ : 0 ≤ Int32.toInt n1 ∧ Int32.toInt n1 ≤ 2147483647 := zr_nlt_l 0 c6_ (zbnd n1) (show 0 ≤ Int32.toInt 0 ∧ Int32.toInt 0 ≤ 0 from (by decide)) (by decide)
    have b10_ : 0 ≤ Int32.toInt (M.1 124 0) ∧ Int32.toInt (M.1 124 0) ≤ 7 := pvok_r hok 124 0 rfl
    obtain ⟨q12_, b11_⟩ : (Int32.toInt ((M.1 124 0) - 1) = Int32.toInt (M.1 124 0) - 1) ∧ ((-1) ≤ Int32.toInt ((M.1 124 0) - 1) ∧ Int32.toInt ((M.1 124 0) - 1) ≤ 6) := zsub_k (M.1 124 0) 1 1 (-1) 6 b10_ (by decide) (by decide) (by decide) (by decide) (by decide)
    by_cases c13_ : ((M.1 124 0) - 1) < n1
    · refine pw_eqI (if_pos c13_) ?_
      have d14_ : Int32.toInt ((M.1 124 0) - 1) < Int32.toInt n1 := (zi_lt _ _).mp c13_
      show PW 74 d (5, [some (pvR 124), some (pvI n1), none, none], [pvI 0], M) _
      refine pw_ifn hT (c := 0 = 0) rfl rfl (fun c15_ => absurd (by decide) c15_) (fun c15_ => ?_)
      refine pw_blk hT 1 (S' := (9, [some (pvR 124), some (pvI n1), none, none], [pvI (-1)], M)) rfl ⟨trivial, trivial⟩ ?_
      exact pw_ret hT rfl (r := some (pvI (-1))) (M' := M) ⟨rfl, rfl⟩ ⟨⟨_, rfl, (zr_wide (show (-1) ≤ Int32.toInt (-1) ∧ Int32.toInt (-1) ≤ (-1) from (by decide)) (by decide) (by decide))⟩, hok, pvfr_0⟩
    · refine pw_eqI (if_neg c13_) ?_
      have b16_ : 0 ≤ Int32.toInt ((M.1 124 0) - 1) ∧ Int32.toInt ((M.1 124 0) - 1) ≤ 6 := zr_nlt_l 0 c13_ b11_ b9_ (by decide)
      have b17_ : 0 ≤ Int32.toInt n1 ∧ Int32.toInt n1 ≤ 6 := zr_nlt_r 6 c13_ b9_ b16_ (by decide)
      have d18_ : Int32.toInt ((M.1 124 0) - 1) ≥ Int32.toInt n1 := Int.not_lt.mp ((not_congr (zi_lt _ _)).mp c13_)
      show PW 74 d (5, [some (pvR 124), some (pvI n1), none, none], [pvI 1], M) _
      refine pw_ifn hT (c := 1 = 0) rfl rfl (fun c19_ => ?_) (fun c19_ => absurd c19_ (by decide))
      have b20_ : 0 ≤ Int32.toInt (M.1 124 5) ∧ Int32.toInt (M.1 124 5) ≤ 3 := pvok_r hok 124 5 rfl
      have b21_ : 0 ≤ Int32.toInt (M.1 124 6) ∧ Int32.toInt (M.1 124 6) ≤ 4 := pvok_r hok 124 6 rfl
      refine pw_blk hT 6 (S' := (20, [some (pvR 124), some (pvI n1), none, none], [pvI n1, pvI (M.1 124 6), pvI (M.1 124 5), pvR 124], M)) rfl ⟨trivial, trivial, rfl, trivial, rfl, trivial, trivial⟩ ?_
      refine pw_callGp hT (as := [pvR 124, pvI (M.1 124 5), pvI (M.1 124 6), pvI n1]) (lo1 := [some (pvR 124), some (pvI (M.1 124 5)), some (pvI (M.1 124 6)), some (pvI n1)]) (d1 := d) (rest := []) rfl rfl rfl rfl rfl (fun _ => rfl) (Nat.zero_le _) rfl rfl rfl (sf_X10_way_124_x_x_x M hok (M.1 124 5) (M.1 124 6) n1 b20_ b21_ b17_ d) (fun x22_ b24_ => ?_)
      refine pw_blk hT 2 (S' := (25, [some (pvR 124), some (pvI n1), none, none], [pvI n1, pvR 124, pvI x22_], M)) rfl ⟨trivial, trivial, trivial⟩ ?_
      refine pw_callT hT (as := [pvR 124, pvI n1]) (lo1 := [some (pvR 124), some (pvI n1)]) (d1 := d) (rest := [pvI x22_]) rfl rfl rfl rfl rfl (fun _ => rfl) (Nat.zero_le _) rfl rfl rfl (sf_X10_shutting_124_x M hok n1 b17_ d) ?_
      have b32_ : 0 ≤ Int32.toInt (M.1 125 (Int32.toNatClampNeg n1)) ∧ Int32.toInt (M.1 125 (Int32.toNatClampNeg n1)) ≤ 6 := pvok_r hok 125 (Int32.toNatClampNeg n1) rfl
      by_cases c33_ : (M.1 125 (Int32.toNatClampNeg n1)) = 1
      · refine pw_eqI (if_pos c33_) ?_
        have b34_ : 1 ≤ Int32.toInt (M.1 125 (Int32.toNatClampNeg n1)) ∧ Int32.toInt (M.1 125 (Int32.toNatClampNeg n1)) ≤ 1 := (by have u0 := b32_; have u1 := (zi_eq _ _).mp c33_; have u2 := (show 1 ≤ Int32.toInt 1 ∧ Int32.toInt 1 ≤ 1 from (by decide)); omega)
        have b35_ : 0 ≤ Int32.toInt (M.1 129 (Int32.toNatClampNeg n1)) ∧ Int32.toInt (M.1 129 (Int32.toNatClampNeg n1)) ≤ 9 := pvok_r hok 129 (Int32.toNatClampNeg n1) rfl
        have q36_ : Int32.toInt (2 * (M.1 129 (Int32.toNatClampNeg n1))) = 2 * Int32.toInt (M.1 129 (Int32.toNatClampNeg n1)) := by have u0 : Int32.toInt 2 = 2 := (by decide); have u1 := b35_; have u2 := zmul 2 (M.1 129 (Int32.toNatClampNeg n1)) (by rw [u0]; omega) (by rw [u0]; omega); rw [u0] at u2; omega
        have b37_ : 0 ≤ Int32.toInt (2 * (M.1 129 (Int32.toNatClampNeg n1))) ∧ Int32.toInt (2 * (M.1 129 (Int32.toNatClampNeg n1))) ≤ 18 := (by have u1 := b35_; omega)
        show PW 74 d (28, [some (pvR 124), some (pvI n1), none, none], [pvI (2 * (M.1 129 (Int32.toNatClampNeg n1))), pvI x22_], M) _
        obtain ⟨q39_, b38_⟩ : (Int32.toInt (x22_ + (2 * (M.1 129 (Int32.toNatClampNeg n1)))) = Int32.toInt x22_ + Int32.toInt (2 * (M.1 129 (Int32.toNatClampNeg n1)))) ∧ (0 ≤ Int32.toInt (x22_ + (2 * (M.1 129 (Int32.toNatClampNeg n1)))) ∧ Int32.toInt (x22_ + (2 * (M.1 129 (Int32.toNatClampNeg n1)))) ≤ 319) := zadd_r x22_ (2 * (M.1 129 (Int32.toNatClampNeg n1))) 0 319 b24_ b37_ (by decide) (by decide) (by decide) (by decide)
        have b40_ : 0 ≤ Int32.toInt (M.1 131 (Int32.toNatClampNeg n1)) ∧ Int32.toInt (M.1 131 (Int32.toNatClampNeg n1)) ≤ 1 := pvok_r hok 131 (Int32.toNatClampNeg n1) rfl
        refine pw_blk hT 6 (S' := (36, [some (pvR 124), some (pvI n1), some (pvI (x22_ + (2 * (M.1 129 (Int32.toNatClampNeg n1))))), none], [pvI (M.1 131 (Int32.toNatClampNeg n1))], M)) rfl ⟨trivial, trivial, trivial, rfl, trivial, ⟨rfl, (zr_in (n := 7) b17_ (by decide) (by decide))⟩, trivial⟩ ?_
        refine pw_ifn hT (c := (M.1 131 (Int32.toNatClampNeg n1)) = 0) rfl rfl (fun c41_ => ?_) (fun c41_ => ?_)
        · have b42_ : 1 ≤ Int32.toInt (M.1 131 (Int32.toNatClampNeg n1)) ∧ Int32.toInt (M.1 131 (Int32.toNatClampNeg n1)) ≤ 1 := (by have u0 := b40_; have u1 := (not_congr (zi_eq _ _)).mp c41_; have u2 := (show 0 ≤ Int32.toInt 0 ∧ Int32.toInt 0 ≤ 0 from (by decide)); omega)
          refine pw_blk hT 1 (S' := (53, [some (pvR 124), some (pvI n1), some (pvI (x22_ + (2 * (M.1 129 (Int32.toNatClampNeg n1))))), none], [pvI (-3)], M)) rfl ⟨trivial, trivial⟩ ?_
          exact pw_ret hT rfl (r := some (pvI (-3))) (M' := M) ⟨rfl, rfl⟩ ⟨⟨_, rfl, (zr_wide (show (-3) ≤ Int32.toInt (-3) ∧ Int32.toInt (-3) ≤ (-3) from (by decide)) (by decide) (by decide))⟩, hok, pvfr_0⟩
        · have b43_ : 0 ≤ Int32.toInt (M.1 131 (Int32.toNatClampNeg n1)) ∧ Int32.toInt (M.1 131 (Int32.toNatClampNeg n1)) ≤ 0 := (by have u0 := b40_; have u1 := (zi_eq _ _).mp c41_; have u2 := (show 0 ≤ Int32.toInt 0 ∧ Int32.toInt 0 ≤ 0 from (by decide)); omega)
          have b44_ : 0 ≤ Int32.toInt (M.1 124 1) ∧ Int32.toInt (M.1 124 1) ≤ 9999 := pvok_r hok 124 1 rfl
          obtain ⟨q46_, b45_⟩ : (Int32.toInt ((M.1 124 1) + (x22_ + (2 * (M.1 129 (Int32.toNatClampNeg n1))))) = Int32.toInt (M.1 124 1) + Int32.toInt (x22_ + (2 * (M.1 129 (Int32.toNatClampNeg n1))))) ∧ (0 ≤ Int32.toInt ((M.1 124 1) + (x22_ + (2 * (M.1 129 (Int32.toNatClampNeg n1))))) ∧ Int32.toInt ((M.1 124 1) + (x22_ + (2 * (M.1 129 (Int32.toNatClampNeg n1))))) ≤ 10318) := zadd_r (M.1 124 1) (x22_ + (2 * (M.1 129 (Int32.toNatClampNeg n1)))) 0 10318 b44_ b38_ (by decide) (by decide) (by decide) (by decide)
          refine pw_blk hT 5 (S' := (48, [some (pvR 124), some (pvI n1), some (pvI (x22_ + (2 * (M.1 129 (Int32.toNatClampNeg n1))))), none], [pvI 9999, pvI ((M.1 124 1) + (x22_ + (2 * (M.1 129 (Int32.toNatClampNeg n1)))))], M)) rfl ⟨trivial, rfl, trivial, trivial, trivial, trivial⟩ ?_
          refine pw_ic hT (c := ((M.1 124 1) + (x22_ + (2 * (M.1 129 (Int32.toNatClampNeg n1))))) ≤ 9999) rfl rfl (fun c47_ => ?_) (fun c47_ => ?_)
          · have b48_ : 0 ≤ Int32.toInt ((M.1 124 1) + (x22_ + (2 * (M.1 129 (Int32.toNatClampNeg n1))))) ∧ Int32.toInt ((M.1 124 1) + (x22_ + (2 * (M.1 129 (Int32.toNatClampNeg n1))))) ≤ 9999 := zr_le_l 9999 c47_ b45_ (show 9999 ≤ Int32.toInt 9999 ∧ Int32.toInt 9999 ≤ 9999 from (by decide)) (by decide)
            refine pw_blk hT 2 (S' := (56, [some (pvR 124), some (pvI n1), some (pvI (x22_ + (2 * (M.1 129 (Int32.toNatClampNeg n1))))), none], [pvI (x22_ + (2 * (M.1 129 (Int32.toNatClampNeg n1)))), pvR 124], M)) rfl ⟨trivial, trivial, trivial⟩ ?_
            refine pw_callG hT (as := [pvR 124, pvI (x22_ + (2 * (M.1 129 (Int32.toNatClampNeg n1))))]) (lo1 := [some (pvR 124), some (pvI (x22_ + (2 * (M.1 129 (Int32.toNatClampNeg n1))))), none]) (d1 := d) (rest := []) rfl rfl rfl rfl rfl (fun _ => rfl) (Nat.zero_le _) rfl rfl rfl (sf_X10_goMinutes_124_x M hok (x22_ + (2 * (M.1 129 (Int32.toNatClampNeg n1)))) (zr_wide b38_ (by decide) (by decide)) hz (show Int32.toInt (M.1 124 1) + Int32.toInt (x22_ + (2 * (M.1 129 (Int32.toNatClampNeg n1)))) ≤ 9999 from (by omega)) d) (fun x49_ M50_ b51_ o52_ g53_ => ?_)
            have f54_ : pvFr fp_X10_shut_124_x M M50_ := pvfr_t g53_ pvfr_0 fp_X10_shut_124_x_fp_X10_goMinutes_124_x
            refine pw_blkw hT 6 (pc := 67) (lo := [some (pvR 124), some (pvI n1), some (pvI (x22_ + (2 * (M.1 129 (Int32.toNatClampNeg n1))))), some (pvI x49_)]) (st := []) (M := pvu M50_ 131 (Int32.toNatClampNeg n1) (vp_nar .boolean 1)) rfl ⟨trivial, trivial, rfl, trivial, trivial, ⟨rfl, (zr_in (n := 7) b17_ (by decide) (by decide))⟩, trivial⟩ (fun M55_ e56_ => ?_)
            have o57_ : pvOk M55_ := pvok_u2 e56_ o52_ rfl (zboolr 1)
            have f58_ : pvFr fp_X10_shut_124_x M M55_ := pvfr_u e56_ f54_ rfl
            have b59_ : 0 ≤ Int32.toInt (M55_.1 127 (Int32.toNatClampNeg n1)) ∧ Int32.toInt (M55_.1 127 (Int32.toNatClampNeg n1)) ≤ 3 := pvok_r o57_ 127 (Int32.toNatClampNeg n1) rfl
            refine pw_blkw hT 6 (pc := 77) (lo := [some (pvR 124), some (pvI n1), some (pvI (x22_ + (2 * (M.1 129 (Int32.toNatClampNeg n1))))), some (pvI x49_)]) (st := []) (M := pvu M55_ 124 5 (M55_.1 127 (Int32.toNatClampNeg n1))) rfl ⟨trivial, trivial, rfl, trivial, ⟨rfl, (zr_in (n := 7) b17_ (by decide) (by decide))⟩, rfl, trivial⟩ (fun M60_ e61_ => ?_)
            have o62_ : pvOk M60_ := pvok_u2 e61_ o57_ rfl b59_
            have f63_ : pvFr fp_X10_shut_124_x M M60_ := pvfr_u e61_ f58_ rfl
            have b64_ : 0 ≤ Int32.toInt (M60_.1 128 (Int32.toNatClampNeg n1)) ∧ Int32.toInt (M60_.1 128 (Int32.toNatClampNeg n1)) ≤ 4 := pvok_r o62_ 128 (Int32.toNatClampNeg n1) rfl
            refine pw_blkw hT 6 (pc := 87) (lo := [some (pvR 124), some (pvI n1), some (pvI (x22_ + (2 * (M.1 129 (Int32.toNatClampNeg n1))))), some (pvI x49_)]) (st := []) (M := pvu M60_ 124 6 (M60_.1 128 (Int32.toNatClampNeg n1))) rfl ⟨trivial, trivial, rfl, trivial, ⟨rfl, (zr_in (n := 7) b17_ (by decide) (by decide))⟩, rfl, trivial⟩ (fun M65_ e66_ => ?_)
            have o67_ : pvOk M65_ := pvok_u2 e66_ o62_ rfl b64_
            have f68_ : pvFr fp_X10_shut_124_x M M65_ := pvfr_u e66_ f63_ rfl
            refine pw_blk hT 1 (S' := (88, [some (pvR 124), some (pvI n1), some (pvI (x22_ + (2 * (M.1 129 (Int32.toNatClampNeg n1))))), some (pvI x49_)], [pvI (x22_ + (2 * (M.1 129 (Int32.toNatClampNeg n1))))], M65_)) rfl ⟨trivial, trivial⟩ ?_
            exact pw_ret hT rfl (r := some (pvI (x22_ + (2 * (M.1 129 (Int32.toNatClampNeg n1)))))) (M' := M65_) ⟨rfl, rfl⟩ ⟨⟨_, rfl, (zr_wide b38_ (by decide) (by decide))⟩, o67_, f68_⟩
          · have b69_ : 10000 ≤ Int32.toInt ((M.1 124 1) + (x22_ + (2 * (M.1 129 (Int32.toNatClampNeg n1))))) ∧ Int32.toInt ((M.1 124 1) + (x22_ + (2 * (M.1 129 (Int32.toNatClampNeg n1))))) ≤ 10318 := zr_nle_l 10000 c47_ b45_ (show 9999 ≤ Int32.toInt 9999 ∧ Int32.toInt 9999 ≤ 9999 from (by decide)) (by decide)
            refine pw_blk hT 1 (S' := (53, [some (pvR 124), some (pvI n1), some (pvI (x22_ + (2 * (M.1 129 (Int32.toNatClampNeg n1))))), none], [pvI (-3)], M)) rfl ⟨trivial, trivial⟩ ?_
            exact pw_ret hT rfl (r := some (pvI (-3))) (M' := M) ⟨rfl, rfl⟩ ⟨⟨_, rfl, (zr_wide (show (-3) ≤ Int32.toInt (-3) ∧ Int32.toInt (-3) ≤ (-3) from (by decide)) (by decide) (by decide))⟩, hok, pvfr_0⟩
      · refine pw_eqI (if_neg c33_) ?_
        by_cases c70_ : (M.1 125 (Int32.toNatClampNeg n1)) = 4
        · refine pw_eqI (if_pos c70_) ?_
          have b71_ : 4 ≤ Int32.toInt (M.1 125 (Int32.toNatClampNeg n1)) ∧ Int32.toInt (M.1 125 (Int32.toNatClampNeg n1)) ≤ 4 := (by have u0 := b32_; have u1 := (zi_eq _ _).mp c70_; have u2 := (show 4 ≤ Int32.toInt 4 ∧ Int32.toInt 4 ≤ 4 from (by decide)); omega)
          have b72_ : 0 ≤ Int32.toInt (M.1 129 (Int32.toNatClampNeg n1)) ∧ Int32.toInt (M.1 129 (Int32.toNatClampNeg n1)) ≤ 9 := pvok_r hok 129 (Int32.toNatClampNeg n1) rfl
          have q73_ : Int32.toInt (2 * (M.1 129 (Int32.toNatClampNeg n1))) = 2 * Int32.toInt (M.1 129 (Int32.toNatClampNeg n1)) := by have u0 : Int32.toInt 2 = 2 := (by decide); have u1 := b72_; have u2 := zmul 2 (M.1 129 (Int32.toNatClampNeg n1)) (by rw [u0]; omega) (by rw [u0]; omega); rw [u0] at u2; omega
          have b74_ : 0 ≤ Int32.toInt (2 * (M.1 129 (Int32.toNatClampNeg n1))) ∧ Int32.toInt (2 * (M.1 129 (Int32.toNatClampNeg n1))) ≤ 18 := (by have u1 := b72_; omega)
          show PW 74 d (28, [some (pvR 124), some (pvI n1), none, none], [pvI (2 * (M.1 129 (Int32.toNatClampNeg n1))), pvI x22_], M) _
          obtain ⟨q76_, b75_⟩ : (Int32.toInt (x22_ + (2 * (M.1 129 (Int32.toNatClampNeg n1)))) = Int32.toInt x22_ + Int32.toInt (2 * (M.1 129 (Int32.toNatClampNeg n1)))) ∧ (0 ≤ Int32.toInt (x22_ + (2 * (M.1 129 (Int32.toNatClampNeg n1)))) ∧ Int32.toInt (x22_ + (2 * (M.1 129 (Int32.toNatClampNeg n1)))) ≤ 319) := zadd_r x22_ (2 * (M.1 129 (Int32.toNatClampNeg n1))) 0 319 b24_ b74_ (by decide) (by decide) (by decide) (by decide)
          have b77_ : 0 ≤ Int32.toInt (M.1 131 (Int32.toNatClampNeg n1)) ∧ Int32.toInt (M.1 131 (Int32.toNatClampNeg n1)) ≤ 1 := pvok_r hok 131 (Int32.toNatClampNeg n1) rfl
          refine pw_blk hT 6 (S' := (36, [some (pvR 124), some (pvI n1), some (pvI (x22_ + (2 * (M.1 129 (Int32.toNatClampNeg n1))))), none], [pvI (M.1 131 (Int32.toNatClampNeg n1))], M)) rfl ⟨trivial, trivial, trivial, rfl, trivial, ⟨rfl, (zr_in (n := 7) b17_ (by decide) (by decide))⟩, trivial⟩ ?_
          refine pw_ifn hT (c := (M.1 131 (Int32.toNatClampNeg n1)) = 0) rfl rfl (fun c78_ => ?_) (fun c78_ => ?_)
          · have b79_ : 1 ≤ Int32.toInt (M.1 131 (Int32.toNatClampNeg n1)) ∧ Int32.toInt (M.1 131 (Int32.toNatClampNeg n1)) ≤ 1 := (by have u0 := b77_; have u1 := (not_congr (zi_eq _ _)).mp c78_; have u2 := (show 0 ≤ Int32.toInt 0 ∧ Int32.toInt 0 ≤ 0 from (by decide)); omega)
            refine pw_blk hT 1 (S' := (53, [some (pvR 124), some (pvI n1), some (pvI (x22_ + (2 * (M.1 129 (Int32.toNatClampNeg n1))))), none], [pvI (-3)], M)) rfl ⟨trivial, trivial⟩ ?_
            exact pw_ret hT rfl (r := some (pvI (-3))) (M' := M) ⟨rfl, rfl⟩ ⟨⟨_, rfl, (zr_wide (show (-3) ≤ Int32.toInt (-3) ∧ Int32.toInt (-3) ≤ (-3) from (by decide)) (by decide) (by decide))⟩, hok, pvfr_0⟩
          · have b80_ : 0 ≤ Int32.toInt (M.1 131 (Int32.toNatClampNeg n1)) ∧ Int32.toInt (M.1 131 (Int32.toNatClampNeg n1)) ≤ 0 := (by have u0 := b77_; have u1 := (zi_eq _ _).mp c78_; have u2 := (show 0 ≤ Int32.toInt 0 ∧ Int32.toInt 0 ≤ 0 from (by decide)); omega)
            have b81_ : 0 ≤ Int32.toInt (M.1 124 1) ∧ Int32.toInt (M.1 124 1) ≤ 9999 := pvok_r hok 124 1 rfl
            obtain ⟨q83_, b82_⟩ : (Int32.toInt ((M.1 124 1) + (x22_ + (2 * (M.1 129 (Int32.toNatClampNeg n1))))) = Int32.toInt (M.1 124 1) + Int32.toInt (x22_ + (2 * (M.1 129 (Int32.toNatClampNeg n1))))) ∧ (0 ≤ Int32.toInt ((M.1 124 1) + (x22_ + (2 * (M.1 129 (Int32.toNatClampNeg n1))))) ∧ Int32.toInt ((M.1 124 1) + (x22_ + (2 * (M.1 129 (Int32.toNatClampNeg n1))))) ≤ 10318) := zadd_r (M.1 124 1) (x22_ + (2 * (M.1 129 (Int32.toNatClampNeg n1)))) 0 10318 b81_ b75_ (by decide) (by decide) (by decide) (by decide)
            refine pw_blk hT 5 (S' := (48, [some (pvR 124), some (pvI n1), some (pvI (x22_ + (2 * (M.1 129 (Int32.toNatClampNeg n1))))), none], [pvI 9999, pvI ((M.1 124 1) + (x22_ + (2 * (M.1 129 (Int32.toNatClampNeg n1)))))], M)) rfl ⟨trivial, rfl, trivial, trivial, trivial, trivial⟩ ?_
            refine pw_ic hT (c := ((M.1 124 1) + (x22_ + (2 * (M.1 129 (Int32.toNatClampNeg n1))))) ≤ 9999) rfl rfl (fun c84_ => ?_) (fun c84_ => ?_)
            · have b85_ : 0 ≤ Int32.toInt ((M.1 124 1) + (x22_ + (2 * (M.1 129 (Int32.toNatClampNeg n1))))) ∧ Int32.toInt ((M.1 124 1) + (x22_ + (2 * (M.1 129 (Int32.toNatClampNeg n1))))) ≤ 9999 := zr_le_l 9999 c84_ b82_ (show 9999 ≤ Int32.toInt 9999 ∧ Int32.toInt 9999 ≤ 9999 from (by decide)) (by decide)
              refine pw_blk hT 2 (S' := (56, [some (pvR 124), some (pvI n1), some (pvI (x22_ + (2 * (M.1 129 (Int32.toNatClampNeg n1))))), none], [pvI (x22_ + (2 * (M.1 129 (Int32.toNatClampNeg n1)))), pvR 124], M)) rfl ⟨trivial, trivial, trivial⟩ ?_
              refine pw_callG hT (as := [pvR 124, pvI (x22_ + (2 * (M.1 129 (Int32.toNatClampNeg n1))))]) (lo1 := [some (pvR 124), some (pvI (x22_ + (2 * (M.1 129 (Int32.toNatClampNeg n1))))), none]) (d1 := d) (rest := []) rfl rfl rfl rfl rfl (fun _ => rfl) (Nat.zero_le _) rfl rfl rfl (sf_X10_goMinutes_124_x M hok (x22_ + (2 * (M.1 129 (Int32.toNatClampNeg n1)))) (zr_wide b75_ (by decide) (by decide)) hz (show Int32.toInt (M.1 124 1) + Int32.toInt (x22_ + (2 * (M.1 129 (Int32.toNatClampNeg n1)))) ≤ 9999 from (by omega)) d) (fun x86_ M87_ b88_ o89_ g90_ => ?_)
              have f91_ : pvFr fp_X10_shut_124_x M M87_ := pvfr_t g90_ pvfr_0 fp_X10_shut_124_x_fp_X10_goMinutes_124_x
              refine pw_blkw hT 6 (pc := 67) (lo := [some (pvR 124), some (pvI n1), some (pvI (x22_ + (2 * (M.1 129 (Int32.toNatClampNeg n1))))), some (pvI x86_)]) (st := []) (M := pvu M87_ 131 (Int32.toNatClampNeg n1) (vp_nar .boolean 1)) rfl ⟨trivial, trivial, rfl, trivial, trivial, ⟨rfl, (zr_in (n := 7) b17_ (by decide) (by decide))⟩, trivial⟩ (fun M92_ e93_ => ?_)
              have o94_ : pvOk M92_ := pvok_u2 e93_ o89_ rfl (zboolr 1)
              have f95_ : pvFr fp_X10_shut_124_x M M92_ := pvfr_u e93_ f91_ rfl
              have b96_ : 0 ≤ Int32.toInt (M92_.1 127 (Int32.toNatClampNeg n1)) ∧ Int32.toInt (M92_.1 127 (Int32.toNatClampNeg n1)) ≤ 3 := pvok_r o94_ 127 (Int32.toNatClampNeg n1) rfl
              refine pw_blkw hT 6 (pc := 77) (lo := [some (pvR 124), some (pvI n1), some (pvI (x22_ + (2 * (M.1 129 (Int32.toNatClampNeg n1))))), some (pvI x86_)]) (st := []) (M := pvu M92_ 124 5 (M92_.1 127 (Int32.toNatClampNeg n1))) rfl ⟨trivial, trivial, rfl, trivial, ⟨rfl, (zr_in (n := 7) b17_ (by decide) (by decide))⟩, rfl, trivial⟩ (fun M97_ e98_ => ?_)
              have o99_ : pvOk M97_ := pvok_u2 e98_ o94_ rfl b96_
              have f100_ : pvFr fp_X10_shut_124_x M M97_ := pvfr_u e98_ f95_ rfl
              have b101_ : 0 ≤ Int32.toInt (M97_.1 128 (Int32.toNatClampNeg n1)) ∧ Int32.toInt (M97_.1 128 (Int32.toNatClampNeg n1)) ≤ 4 := pvok_r o99_ 128 (Int32.toNatClampNeg n1) rfl
              refine pw_blkw hT 6 (pc := 87) (lo := [some (pvR 124), some (pvI n1), some (pvI (x22_ + (2 * (M.1 129 (Int32.toNatClampNeg n1))))), some (pvI x86_)]) (st := []) (M := pvu M97_ 124 6 (M97_.1 128 (Int32.toNatClampNeg n1))) rfl ⟨trivial, trivial, rfl, trivial, ⟨rfl, (zr_in (n := 7) b17_ (by decide) (by decide))⟩, rfl, trivial⟩ (fun M102_ e103_ => ?_)
              have o104_ : pvOk M102_ := pvok_u2 e103_ o99_ rfl b101_
              have f105_ : pvFr fp_X10_shut_124_x M M102_ := pvfr_u e103_ f100_ rfl
              refine pw_blk hT 1 (S' := (88, [some (pvR 124), some (pvI n1), some (pvI (x22_ + (2 * (M.1 129 (Int32.toNatClampNeg n1))))), some (pvI x86_)], [pvI (x22_ + (2 * (M.1 129 (Int32.toNatClampNeg n1))))], M102_)) rfl ⟨trivial, trivial⟩ ?_
              exact pw_ret hT rfl (r := some (pvI (x22_ + (2 * (M.1 129 (Int32.toNatClampNeg n1)))))) (M' := M102_) ⟨rfl, rfl⟩ ⟨⟨_, rfl, (zr_wide b75_ (by decide) (by decide))⟩, o104_, f105_⟩
            · have b106_ : 10000 ≤ Int32.toInt ((M.1 124 1) + (x22_ + (2 * (M.1 129 (Int32.toNatClampNeg n1))))) ∧ Int32.toInt ((M.1 124 1) + (x22_ + (2 * (M.1 129 (Int32.toNatClampNeg n1))))) ≤ 10318 := zr_nle_l 10000 c84_ b82_ (show 9999 ≤ Int32.toInt 9999 ∧ Int32.toInt 9999 ≤ 9999 from (by decide)) (by decide)
              refine pw_blk hT 1 (S' := (53, [some (pvR 124), some (pvI n1), some (pvI (x22_ + (2 * (M.1 129 (Int32.toNatClampNeg n1))))), none], [pvI (-3)], M)) rfl ⟨trivial, trivial⟩ ?_
              exact pw_ret hT rfl (r := some (pvI (-3))) (M' := M) ⟨rfl, rfl⟩ ⟨⟨_, rfl, (zr_wide (show (-3) ≤ Int32.toInt (-3) ∧ Int32.toInt (-3) ≤ (-3) from (by decide)) (by decide) (by decide))⟩, hok, pvfr_0⟩
        · refine pw_eqI (if_neg c70_) ?_
          have b107_ : 0 ≤ Int32.toInt (M.1 129 (Int32.toNatClampNeg n1)) ∧ Int32.toInt (M.1 129 (Int32.toNatClampNeg n1)) ≤ 9 := pvok_r hok 129 (Int32.toNatClampNeg n1) rfl
          show PW 74 d (28, [some (pvR 124), some (pvI n1), none, none], [pvI (M.1 129 (Int32.toNatClampNeg n1)), pvI x22_], M) _
          obtain ⟨q109_, b108_⟩ : (Int32.toInt (x22_ + (M.1 129 (Int32.toNatClampNeg n1))) = Int32.toInt x22_ + Int32.toInt (M.1 129 (Int32.toNatClampNeg n1))) ∧ (0 ≤ Int32.toInt (x22_ + (M.1 129 (Int32.toNatClampNeg n1))) ∧ Int32.toInt (x22_ + (M.1 129 (Int32.toNatClampNeg n1))) ≤ 310) := zadd_r x22_ (M.1 129 (Int32.toNatClampNeg n1)) 0 310 b24_ b107_ (by decide) (by decide) (by decide) (by decide)
          have b110_ : 0 ≤ Int32.toInt (M.1 131 (Int32.toNatClampNeg n1)) ∧ Int32.toInt (M.1 131 (Int32.toNatClampNeg n1)) ≤ 1 := pvok_r hok 131 (Int32.toNatClampNeg n1) rfl
          refine pw_blk hT 6 (S' := (36, [some (pvR 124), some (pvI n1), some (pvI (x22_ + (M.1 129 (Int32.toNatClampNeg n1)))), none], [pvI (M.1 131 (Int32.toNatClampNeg n1))], M)) rfl ⟨trivial, trivial, trivial, rfl, trivial, ⟨rfl, (zr_in (n := 7) b17_ (by decide) (by decide))⟩, trivial⟩ ?_
          refine pw_ifn hT (c := (M.1 131 (Int32.toNatClampNeg n1)) = 0) rfl rfl (fun c111_ => ?_) (fun c111_ => ?_)
          · have b112_ : 1 ≤ Int32.toInt (M.1 131 (Int32.toNatClampNeg n1)) ∧ Int32.toInt (M.1 131 (Int32.toNatClampNeg n1)) ≤ 1 := (by have u0 := b110_; have u1 := (not_congr (zi_eq _ _)).mp c111_; have u2 := (show 0 ≤ Int32.toInt 0 ∧ Int32.toInt 0 ≤ 0 from (by decide)); omega)
            refine pw_blk hT 1 (S' := (53, [some (pvR 124), some (pvI n1), some (pvI (x22_ + (M.1 129 (Int32.toNatClampNeg n1)))), none], [pvI (-3)], M)) rfl ⟨trivial, trivial⟩ ?_
            exact pw_ret hT rfl (r := some (pvI (-3))) (M' := M) ⟨rfl, rfl⟩ ⟨⟨_, rfl, (zr_wide (show (-3) ≤ Int32.toInt (-3) ∧ Int32.toInt (-3) ≤ (-3) from (by decide)) (by decide) (by decide))⟩, hok, pvfr_0⟩
          · have b113_ : 0 ≤ Int32.toInt (M.1 131 (Int32.toNatClampNeg n1)) ∧ Int32.toInt (M.1 131 (Int32.toNatClampNeg n1)) ≤ 0 := (by have u0 := b110_; have u1 := (zi_eq _ _).mp c111_; have u2 := (show 0 ≤ Int32.toInt 0 ∧ Int32.toInt 0 ≤ 0 from (by decide)); omega)
            have b114_ : 0 ≤ Int32.toInt (M.1 124 1) ∧ Int32.toInt (M.1 124 1) ≤ 9999 := pvok_r hok 124 1 rfl
            obtain ⟨q116_, b115_⟩ : (Int32.toInt ((M.1 124 1) + (x22_ + (M.1 129 (Int32.toNatClampNeg n1)))) = Int32.toInt (M.1 124 1) + Int32.toInt (x22_ + (M.1 129 (Int32.toNatClampNeg n1)))) ∧ (0 ≤ Int32.toInt ((M.1 124 1) + (x22_ + (M.1 129 (Int32.toNatClampNeg n1)))) ∧ Int32.toInt ((M.1 124 1) + (x22_ + (M.1 129 (Int32.toNatClampNeg n1)))) ≤ 10309) := zadd_r (M.1 124 1) (x22_ + (M.1 129 (Int32.toNatClampNeg n1))) 0 10309 b114_ b108_ (by decide) (by decide) (by decide) (by decide)
            refine pw_blk hT 5 (S' := (48, [some (pvR 124), some (pvI n1), some (pvI (x22_ + (M.1 129 (Int32.toNatClampNeg n1)))), none], [pvI 9999, pvI ((M.1 124 1) + (x22_ + (M.1 129 (Int32.toNatClampNeg n1))))], M)) rfl ⟨trivial, rfl, trivial, trivial, trivial, trivial⟩ ?_
            refine pw_ic hT (c := ((M.1 124 1) + (x22_ + (M.1 129 (Int32.toNatClampNeg n1)))) ≤ 9999) rfl rfl (fun c117_ => ?_) (fun c117_ => ?_)
            · have b118_ : 0 ≤ Int32.toInt ((M.1 124 1) + (x22_ + (M.1 129 (Int32.toNatClampNeg n1)))) ∧ Int32.toInt ((M.1 124 1) + (x22_ + (M.1 129 (Int32.toNatClampNeg n1)))) ≤ 9999 := zr_le_l 9999 c117_ b115_ (show 9999 ≤ Int32.toInt 9999 ∧ Int32.toInt 9999 ≤ 9999 from (by decide)) (by decide)
              refine pw_blk hT 2 (S' := (56, [some (pvR 124), some (pvI n1), some (pvI (x22_ + (M.1 129 (Int32.toNatClampNeg n1)))), none], [pvI (x22_ + (M.1 129 (Int32.toNatClampNeg n1))), pvR 124], M)) rfl ⟨trivial, trivial, trivial⟩ ?_
              refine pw_callG hT (as := [pvR 124, pvI (x22_ + (M.1 129 (Int32.toNatClampNeg n1)))]) (lo1 := [some (pvR 124), some (pvI (x22_ + (M.1 129 (Int32.toNatClampNeg n1)))), none]) (d1 := d) (rest := []) rfl rfl rfl rfl rfl (fun _ => rfl) (Nat.zero_le _) rfl rfl rfl (sf_X10_goMinutes_124_x M hok (x22_ + (M.1 129 (Int32.toNatClampNeg n1))) (zr_wide b108_ (by decide) (by decide)) hz (show Int32.toInt (M.1 124 1) + Int32.toInt (x22_ + (M.1 129 (Int32.toNatClampNeg n1))) ≤ 9999 from (by omega)) d) (fun x119_ M120_ b121_ o122_ g123_ => ?_)
              have f124_ : pvFr fp_X10_shut_124_x M M120_ := pvfr_t g123_ pvfr_0 fp_X10_shut_124_x_fp_X10_goMinutes_124_x
              refine pw_blkw hT 6 (pc := 67) (lo := [some (pvR 124), some (pvI n1), some (pvI (x22_ + (M.1 129 (Int32.toNatClampNeg n1)))), some (pvI x119_)]) (st := []) (M := pvu M120_ 131 (Int32.toNatClampNeg n1) (vp_nar .boolean 1)) rfl ⟨trivial, trivial, rfl, trivial, trivial, ⟨rfl, (zr_in (n := 7) b17_ (by decide) (by decide))⟩, trivial⟩ (fun M125_ e126_ => ?_)
              have o127_ : pvOk M125_ := pvok_u2 e126_ o122_ rfl (zboolr 1)
              have f128_ : pvFr fp_X10_shut_124_x M M125_ := pvfr_u e126_ f124_ rfl
              have b129_ : 0 ≤ Int32.toInt (M125_.1 127 (Int32.toNatClampNeg n1)) ∧ Int32.toInt (M125_.1 127 (Int32.toNatClampNeg n1)) ≤ 3 := pvok_r o127_ 127 (Int32.toNatClampNeg n1) rfl
              refine pw_blkw hT 6 (pc := 77) (lo := [some (pvR 124), some (pvI n1), some (pvI (x22_ + (M.1 129 (Int32.toNatClampNeg n1)))), some (pvI x119_)]) (st := []) (M := pvu M125_ 124 5 (M125_.1 127 (Int32.toNatClampNeg n1))) rfl ⟨trivial, trivial, rfl, trivial, ⟨rfl, (zr_in (n := 7) b17_ (by decide) (by decide))⟩, rfl, trivial⟩ (fun M130_ e131_ => ?_)
              have o132_ : pvOk M130_ := pvok_u2 e131_ o127_ rfl b129_
              have f133_ : pvFr fp_X10_shut_124_x M M130_ := pvfr_u e131_ f128_ rfl
              have b134_ : 0 ≤ Int32.toInt (M130_.1 128 (Int32.toNatClampNeg n1)) ∧ Int32.toInt (M130_.1 128 (Int32.toNatClampNeg n1)) ≤ 4 := pvok_r o132_ 128 (Int32.toNatClampNeg n1) rfl
              refine pw_blkw hT 6 (pc := 87) (lo := [some (pvR 124), some (pvI n1), some (pvI (x22_ + (M.1 129 (Int32.toNatClampNeg n1)))), some (pvI x119_)]) (st := []) (M := pvu M130_ 124 6 (M130_.1 128 (Int32.toNatClampNeg n1))) rfl ⟨trivial, trivial, rfl, trivial, ⟨rfl, (zr_in (n := 7) b17_ (by decide) (by decide))⟩, rfl, trivial⟩ (fun M135_ e136_ => ?_)
              have o137_ : pvOk M135_ := pvok_u2 e136_ o132_ rfl b134_
              have f138_ : pvFr fp_X10_shut_124_x M M135_ := pvfr_u e136_ f133_ rfl
              refine pw_blk hT 1 (S' := (88, [some (pvR 124), some (pvI n1), some (pvI (x22_ + (M.1 129 (Int32.toNatClampNeg n1)))), some (pvI x119_)], [pvI (x22_ + (M.1 129 (Int32.toNatClampNeg n1)))], M135_)) rfl ⟨trivial, trivial⟩ ?_
              exact pw_ret hT rfl (r := some (pvI (x22_ + (M.1 129 (Int32.toNatClampNeg n1))))) (M' := M135_) ⟨rfl, rfl⟩ ⟨⟨_, rfl, (zr_wide b108_ (by decide) (by decide))⟩, o137_, f138_⟩
            · have b139_ : 10000 ≤ Int32.toInt ((M.1 124 1) + (x22_ + (M.1 129 (Int32.toNatClampNeg n1)))) ∧ Int32.toInt ((M.1 124 1) + (x22_ + (M.1 129 (Int32.toNatClampNeg n1)))) ≤ 10309 := zr_nle_l 10000 c117_ b115_ (show 9999 ≤ Int32.toInt 9999 ∧ Int32.toInt 9999 ≤ 9999 from (by decide)) (by decide)
              refine pw_blk hT 1 (S' := (53, [some (pvR 124), some (pvI n1), some (pvI (x22_ + (M.1 129 (Int32.toNatClampNeg n1)))), none], [pvI (-3)], M)) rfl ⟨trivial, trivial⟩ ?_
              exact pw_ret hT rfl (r := some (pvI (-3))) (M' := M) ⟨rfl, rfl⟩ ⟨⟨_, rfl, (zr_wide (show (-3) ≤ Int32.toInt (-3) ∧ Int32.toInt (-3) ≤ (-3) from (by decide)) (by decide) (by decide))⟩, hok, pvfr_0⟩
def fpL_X10_stand_124_x_x : List (Nat × Nat × Nat) := [(0, 124, 6), (0, 124, 7)]
def fp_X10_stand_124_x_x (q k : Nat) : Bool := pvfp fpL_X10_stand_124_x_x q k
set_option maxHeartbeats 4000000 in
set_option maxRecDepth 10000 in
theorem sf_X10_stand_124_x_x (M : pvM) (hok : pvOk M) (n1 : Int32) (n2 : Int32) (d : Nat) : PW 78 d (0, [some (pvR 124), some (pvI n1), some (pvI n2)], [], M) (fun r X => (∃ x : Int32, r = some (pvI x) ∧ ((-2) ≤ Int32.toInt x ∧ Int32.toInt x ≤ 1) ∧ x = (if n1 < 0 then (-2) else (if 3 < n1 then (-2) else (if n2 < 0 then (-2) else (if 4 < n2 then (-2) else 1))))) ∧ pvOk X ∧ pvFr fp_X10_stand_124_x_x M X) := by
  have hT : pvdom 78 = pvD_78 := rfl
  refine pw_blk hT 3 (S' := (3, [some (pvR 124), some (pvI n1), some (pvI n2)], [pvI n2, pvI n1, pvR 124], M)) rfl ⟨trivial, trivial, trivial, trivial⟩ ?_
  refine pw_callT hT (as := [pvR 124, pvI n1, pvI n2]) (lo1 := [some (pvR 124), some (pvI n1), some (pvI n2)]) (d1 := d) (rest := []) rfl rfl rfl rfl rfl (fun _ => rfl) (Nat.zero_le _) rfl rfl rfl (sf_X10_isPlace_124_x_x M hok n1 n2 d) ?_
  by_cases c6_ : n1 < 0
  · refine pw_eqI (if_pos c6_) ?_
    have b7_ : (-2147483648) ≤ Int32.toInt n1 ∧ Int32.toInt n1 ≤ (-1) := zr_lt_l (-1) c6_ (zbnd n1) (show 0 ≤ Int32.toInt 0 ∧ Int32.toInt 0 ≤ 0 from (by decide)) (by decide)
    show PW 78 d (6, [some (pvR 124), some (pvI n1), some (pvI n2)], [pvI 0], M) _
    refine pw_ifn hT (c := 0 = 0) rfl rfl (fun c8_ => absurd (by decide) c8_) (fun c8_ => ?_)
    refine pw_blk hT 1 (S' := (11, [some (pvR 124), some (pvI n1), some (pvI n2)], [pvI (-2)], M)) rfl ⟨trivial, trivial⟩ ?_
    exact pw_ret hT rfl (r := some (pvI (-2))) (M' := M) ⟨rfl, rfl⟩ ⟨⟨_, rfl, (zr_wide (show (-2) ≤ Int32.toInt (-2) ∧ Int32.toInt (-2) ≤ (-2) from (by decide)) (by decide) (by decide)), (by rw [if_pos c6_])⟩, hok, pvfr_0⟩
  · refine pw_eqI (if_neg c6_) ?_
    have b9_ : 0 ≤ Int32.toInt n1 ∧ Int32.toInt n1 ≤ 2147483647 := zr_nlt_l 0 c6_ (zbnd n1) (show 0 ≤ Int32.toInt 0 ∧ Int32.toInt 0 ≤ 0 from (by decide)) (by decide)
    by_cases c10_ : 3 < n1
    · refine pw_eqI (if_pos c10_) ?_
      have b11_ : 4 ≤ Int32.toInt n1 ∧ Int32.toInt n1 ≤ 2147483647 := zr_lt_r 4 c10_ b9_ (show 3 ≤ Int32.toInt 3 ∧ Int32.toInt 3 ≤ 3 from (by decide)) (by decide)
      show PW 78 d (6, [some (pvR 124), some (pvI n1), some (pvI n2)], [pvI 0], M) _
      refine pw_ifn hT (c := 0 = 0) rfl rfl (fun c12_ => absurd (by decide) c12_) (fun c12_ => ?_)
      refine pw_blk hT 1 (S' := (11, [some (pvR 124), some (pvI n1), some (pvI n2)], [pvI (-2)], M)) rfl ⟨trivial, trivial⟩ ?_
      exact pw_ret hT rfl (r := some (pvI (-2))) (M' := M) ⟨rfl, rfl⟩ ⟨⟨_, rfl, (zr_wide (show (-2) ≤ Int32.toInt (-2) ∧ Int32.toInt (-2) ≤ (-2) from (by decide)) (by decide) (by decide)), (by rw [if_neg c6_, if_pos c10_])⟩, hok, pvfr_0⟩
    · refine pw_eqI (if_neg c10_) ?_
      have b13_ : 0 ≤ Int32.toInt n1 ∧ Int32.toInt n1 ≤ 3 := zr_nlt_r 3 c10_ b9_ (show 3 ≤ Int32.toInt 3 ∧ Int32.toInt 3 ≤ 3 from (by decide)) (by decide)
      by_cases c14_ : n2 < 0
      · refine pw_eqI (if_pos c14_) ?_
        have b15_ : (-2147483648) ≤ Int32.toInt n2 ∧ Int32.toInt n2 ≤ (-1) := zr_lt_l (-1) c14_ (zbnd n2) (show 0 ≤ Int32.toInt 0 ∧ Int32.toInt 0 ≤ 0 from (by decide)) (by decide)
        show PW 78 d (6, [some (pvR 124), some (pvI n1), some (pvI n2)], [pvI 0], M) _
        refine pw_ifn hT (c := 0 = 0) rfl rfl (fun c16_ => absurd (by decide) c16_) (fun c16_ => ?_)
        refine pw_blk hT 1 (S' := (11, [some (pvR 124), some (pvI n1), some (pvI n2)], [pvI (-2)], M)) rfl ⟨trivial, trivial⟩ ?_
        exact pw_ret hT rfl (r := some (pvI (-2))) (M' := M) ⟨rfl, rfl⟩ ⟨⟨_, rfl, (zr_wide (show (-2) ≤ Int32.toInt (-2) ∧ Int32.toInt (-2) ≤ (-2) from (by decide)) (by decide) (by decide)), (by rw [if_neg c6_, if_neg c10_, if_pos c14_])⟩, hok, pvfr_0⟩
      · refine pw_eqI (if_neg c14_) ?_
        have b17_ : 0 ≤ Int32.toInt n2 ∧ Int32.toInt n2 ≤ 2147483647 := zr_nlt_l 0 c14_ (zbnd n2) (show 0 ≤ Int32.toInt 0 ∧ Int32.toInt 0 ≤ 0 from (by decide)) (by decide)
        by_cases c18_ : 4 < n2
        · refine pw_eqI (if_pos c18_) ?_
          have b19_ : 5 ≤ Int32.toInt n2 ∧ Int32.toInt n2 ≤ 2147483647 := zr_lt_r 5 c18_ b17_ (show 4 ≤ Int32.toInt 4 ∧ Int32.toInt 4 ≤ 4 from (by decide)) (by decide)
          show PW 78 d (6, [some (pvR 124), some (pvI n1), some (pvI n2)], [pvI 0], M) _
          refine pw_ifn hT (c := 0 = 0) rfl rfl (fun c20_ => absurd (by decide) c20_) (fun c20_ => ?_)
          refine pw_blk hT 1 (S' := (11, [some (pvR 124), some (pvI n1), some (pvI n2)], [pvI (-2)], M)) rfl ⟨trivial, trivial⟩ ?_
          exact pw_ret hT rfl (r := some (pvI (-2))) (M' := M) ⟨rfl, rfl⟩ ⟨⟨_, rfl, (zr_wide (show (-2) ≤ Int32.toInt (-2) ∧ Int32.toInt (-2) ≤ (-2) from (by decide)) (by decide) (by decide)), (by rw [if_neg c6_, if_neg c10_, if_neg c14_, if_pos c18_])⟩, hok, pvfr_0⟩
        · refine pw_eqI (if_neg c18_) ?_
          have b21_ : 0 ≤ Int32.toInt n2 ∧ Int32.toInt n2 ≤ 4 := zr_nlt_r 4 c18_ b17_ (show 4 ≤ Int32.toInt 4 ∧ Int32.toInt 4 ≤ 4 from (by decide)) (by decide)
          show PW 78 d (6, [some (pvR 124), some (pvI n1), some (pvI n2)], [pvI 1], M) _
          refine pw_ifn hT (c := 1 = 0) rfl rfl (fun c22_ => ?_) (fun c22_ => absurd c22_ (by decide))
          refine pw_blkw hT 3 (pc := 17) (lo := [some (pvR 124), some (pvI n1), some (pvI n2)]) (st := []) (M := pvu M 124 5 n1) rfl ⟨trivial, trivial, rfl, trivial⟩ (fun M23_ e24_ => ?_)
          have o25_ : pvOk M23_ := pvok_u2 e24_ hok rfl b13_
          have f26_ : pvFr fp_X10_stand_124_x_x M M23_ := pvfr_u e24_ pvfr_0 rfl
          refine pw_blkw hT 3 (pc := 22) (lo := [some (pvR 124), some (pvI n1), some (pvI n2)]) (st := []) (M := pvu M23_ 124 6 n2) rfl ⟨trivial, trivial, rfl, trivial⟩ (fun M27_ e28_ => ?_)
          have o29_ : pvOk M27_ := pvok_u2 e28_ o25_ rfl b21_
          have f30_ : pvFr fp_X10_stand_124_x_x M M27_ := pvfr_u e28_ f26_ rfl
          refine pw_blk hT 1 (S' := (23, [some (pvR 124), some (pvI n1), some (pvI n2)], [pvI 1], M27_)) rfl ⟨trivial, trivial⟩ ?_
          exact pw_ret hT rfl (r := some (pvI 1)) (M' := M27_) ⟨rfl, rfl⟩ ⟨⟨_, rfl, (zr_wide (show 1 ≤ Int32.toInt 1 ∧ Int32.toInt 1 ≤ 1 from (by decide)) (by decide) (by decide)), (by rw [if_neg c6_, if_neg c10_, if_neg c14_, if_neg c18_])⟩, o29_, f30_⟩
set_option maxHeartbeats 4000000 in
set_option maxRecDepth 10000 in
theorem sf_X10_told_124_x (M : pvM) (hok : pvOk M) (n1 : Int32) (d : Nat) : PW 91 d (0, [some (pvR 124), some (pvI n1)], [], M) (fun r X => (∃ x : Int32, r = some (pvI x) ∧ (-1) ≤ Int32.toInt x ∧ Int32.toInt x ≤ 999999) ∧ X = M) := by
  have hT : pvdom 91 = pvD_91 := rfl
  refine pw_blk hT 1 (S' := (1, [some (pvR 124), some (pvI n1)], [pvI n1], M)) rfl ⟨trivial, trivial⟩ ?_
  refine pw_sw hT rfl rfl ?_
  refine And.intro (fun c1_ => ?_) (fun c1_ => ?_)
  · show PW 91 d (52, [some (pvR 124), some (pvI n1)], [], M) _
    have b2_ : 0 ≤ Int32.toInt n1 ∧ Int32.toInt n1 ≤ 0 := (by have u0 := (zbnd n1); have u1 := (zi_eq _ _).mp c1_; have u2 := (show 0 ≤ Int32.toInt 0 ∧ Int32.toInt 0 ≤ 0 from (by decide)); omega)
    have b3_ : 0 ≤ Int32.toInt (M.1 124 1) ∧ Int32.toInt (M.1 124 1) ≤ 9999 := pvok_r hok 124 1 rfl
    refine pw_blk hT 2 (S' := (56, [some (pvR 124), some (pvI n1)], [pvI (M.1 124 1)], M)) rfl ⟨trivial, rfl, trivial⟩ ?_
    exact pw_ret hT rfl (r := some (pvI (M.1 124 1))) (M' := M) ⟨rfl, rfl⟩ ⟨⟨_, rfl, (zr_wide b3_ (by decide) (by decide))⟩, rfl⟩
  · refine And.intro (fun c4_ => ?_) (fun c4_ => ?_)
    · show PW 91 d (57, [some (pvR 124), some (pvI n1)], [], M) _
      have b5_ : 1 ≤ Int32.toInt n1 ∧ Int32.toInt n1 ≤ 1 := (by have u0 := (zbnd n1); have u1 := (zi_eq _ _).mp c4_; have u2 := (show 1 ≤ Int32.toInt 1 ∧ Int32.toInt 1 ≤ 1 from (by decide)); omega)
      have b6_ : 0 ≤ Int32.toInt (M.1 124 2) ∧ Int32.toInt (M.1 124 2) ≤ 999999 := pvok_r hok 124 2 rfl
      refine pw_blk hT 2 (S' := (61, [some (pvR 124), some (pvI n1)], [pvI (M.1 124 2)], M)) rfl ⟨trivial, rfl, trivial⟩ ?_
      exact pw_ret hT rfl (r := some (pvI (M.1 124 2))) (M' := M) ⟨rfl, rfl⟩ ⟨⟨_, rfl, (zr_wide b6_ (by decide) (by decide))⟩, rfl⟩
    · refine And.intro (fun c7_ => ?_) (fun c7_ => ?_)
      · show PW 91 d (62, [some (pvR 124), some (pvI n1)], [], M) _
        have b8_ : 2 ≤ Int32.toInt n1 ∧ Int32.toInt n1 ≤ 2 := (by have u0 := (zbnd n1); have u1 := (zi_eq _ _).mp c7_; have u2 := (show 2 ≤ Int32.toInt 2 ∧ Int32.toInt 2 ≤ 2 from (by decide)); omega)
        have b9_ : 0 ≤ Int32.toInt (M.1 124 3) ∧ Int32.toInt (M.1 124 3) ≤ 108 := pvok_r hok 124 3 rfl
        refine pw_blk hT 2 (S' := (66, [some (pvR 124), some (pvI n1)], [pvI (M.1 124 3)], M)) rfl ⟨trivial, rfl, trivial⟩ ?_
        exact pw_ret hT rfl (r := some (pvI (M.1 124 3))) (M' := M) ⟨rfl, rfl⟩ ⟨⟨_, rfl, (zr_wide b9_ (by decide) (by decide))⟩, rfl⟩
      · refine And.intro (fun c10_ => ?_) (fun c10_ => ?_)
        · show PW 91 d (67, [some (pvR 124), some (pvI n1)], [], M) _
          have b11_ : 3 ≤ Int32.toInt n1 ∧ Int32.toInt n1 ≤ 3 := (by have u0 := (zbnd n1); have u1 := (zi_eq _ _).mp c10_; have u2 := (show 3 ≤ Int32.toInt 3 ∧ Int32.toInt 3 ≤ 3 from (by decide)); omega)
          have b12_ : 0 ≤ Int32.toInt (M.1 124 4) ∧ Int32.toInt (M.1 124 4) ≤ 4 := pvok_r hok 124 4 rfl
          refine pw_blk hT 2 (S' := (71, [some (pvR 124), some (pvI n1)], [pvI (M.1 124 4)], M)) rfl ⟨trivial, rfl, trivial⟩ ?_
          exact pw_ret hT rfl (r := some (pvI (M.1 124 4))) (M' := M) ⟨rfl, rfl⟩ ⟨⟨_, rfl, (zr_wide b12_ (by decide) (by decide))⟩, rfl⟩
        · refine And.intro (fun c13_ => ?_) (fun c13_ => ?_)
          · show PW 91 d (72, [some (pvR 124), some (pvI n1)], [], M) _
            have b14_ : 4 ≤ Int32.toInt n1 ∧ Int32.toInt n1 ≤ 4 := (by have u0 := (zbnd n1); have u1 := (zi_eq _ _).mp c13_; have u2 := (show 4 ≤ Int32.toInt 4 ∧ Int32.toInt 4 ≤ 4 from (by decide)); omega)
            refine pw_blk hT 3 (S' := (75, [some (pvR 124), some (pvI n1)], [pvI 2, pvI 2, pvR 124], M)) rfl ⟨trivial, trivial, trivial, trivial⟩ ?_
            refine pw_callGp hT (as := [pvR 124, pvI 2, pvI 2]) (lo1 := [some (pvR 124), some (pvI 2), some (pvI 2), none, none]) (d1 := d) (rest := []) rfl rfl rfl rfl rfl (fun _ => rfl) (Nat.zero_le _) rfl rfl rfl (sf_X10_lastOf_124_x_x M hok 2 2 (zr_wide (show 2 ≤ Int32.toInt 2 ∧ Int32.toInt 2 ≤ 2 from (by decide)) (by decide) (by decide)) (zr_wide (show 2 ≤ Int32.toInt 2 ∧ Int32.toInt 2 ≤ 2 from (by decide)) (by decide) (by decide)) d) (fun x15_ b17_ => ?_)
            exact pw_ret hT rfl (r := some (pvI x15_)) (M' := M) ⟨rfl, rfl⟩ ⟨⟨_, rfl, (zr_wide b17_ (by decide) (by decide))⟩, rfl⟩
          · refine And.intro (fun c20_ => ?_) (fun c20_ => ?_)
            · show PW 91 d (79, [some (pvR 124), some (pvI n1)], [], M) _
              have b21_ : 5 ≤ Int32.toInt n1 ∧ Int32.toInt n1 ≤ 5 := (by have u0 := (zbnd n1); have u1 := (zi_eq _ _).mp c20_; have u2 := (show 5 ≤ Int32.toInt 5 ∧ Int32.toInt 5 ≤ 5 from (by decide)); omega)
              refine pw_blk hT 1 (S' := (80, [some (pvR 124), some (pvI n1)], [pvR 124], M)) rfl ⟨trivial, trivial⟩ ?_
              refine pw_callGp hT (as := [pvR 124]) (lo1 := [some (pvR 124)]) (d1 := d) (rest := []) rfl rfl rfl rfl rfl (fun _ => rfl) (Nat.zero_le _) rfl rfl rfl (sf_X10_lastNow_124 M hok d) (fun x22_ b24_ => ?_)
              exact pw_ret hT rfl (r := some (pvI x22_)) (M' := M) ⟨rfl, rfl⟩ ⟨⟨_, rfl, (zr_wide b24_ (by decide) (by decide))⟩, rfl⟩
            · refine And.intro (fun c27_ => ?_) (fun c27_ => ?_)
              · show PW 91 d (84, [some (pvR 124), some (pvI n1)], [], M) _
                have b28_ : 6 ≤ Int32.toInt n1 ∧ Int32.toInt n1 ≤ 6 := (by have u0 := (zbnd n1); have u1 := (zi_eq _ _).mp c27_; have u2 := (show 6 ≤ Int32.toInt 6 ∧ Int32.toInt 6 ≤ 6 from (by decide)); omega)
                have b29_ : 0 ≤ Int32.toInt (M.1 124 5) ∧ Int32.toInt (M.1 124 5) ≤ 3 := pvok_r hok 124 5 rfl
                refine pw_blk hT 2 (S' := (88, [some (pvR 124), some (pvI n1)], [pvI (M.1 124 5)], M)) rfl ⟨trivial, rfl, trivial⟩ ?_
                exact pw_ret hT rfl (r := some (pvI (M.1 124 5))) (M' := M) ⟨rfl, rfl⟩ ⟨⟨_, rfl, (zr_wide b29_ (by decide) (by decide))⟩, rfl⟩
              · refine And.intro (fun c30_ => ?_) (fun c30_ => ?_)
                · show PW 91 d (89, [some (pvR 124), some (pvI n1)], [], M) _
                  have b31_ : 7 ≤ Int32.toInt n1 ∧ Int32.toInt n1 ≤ 7 := (by have u0 := (zbnd n1); have u1 := (zi_eq _ _).mp c30_; have u2 := (show 7 ≤ Int32.toInt 7 ∧ Int32.toInt 7 ≤ 7 from (by decide)); omega)
                  have b32_ : 0 ≤ Int32.toInt (M.1 124 6) ∧ Int32.toInt (M.1 124 6) ≤ 4 := pvok_r hok 124 6 rfl
                  refine pw_blk hT 2 (S' := (93, [some (pvR 124), some (pvI n1)], [pvI (M.1 124 6)], M)) rfl ⟨trivial, rfl, trivial⟩ ?_
                  exact pw_ret hT rfl (r := some (pvI (M.1 124 6))) (M' := M) ⟨rfl, rfl⟩ ⟨⟨_, rfl, (zr_wide b32_ (by decide) (by decide))⟩, rfl⟩
                · refine And.intro (fun c33_ => ?_) (fun c33_ => ?_)
                  · show PW 91 d (94, [some (pvR 124), some (pvI n1)], [], M) _
                    have b34_ : 8 ≤ Int32.toInt n1 ∧ Int32.toInt n1 ≤ 8 := (by have u0 := (zbnd n1); have u1 := (zi_eq _ _).mp c33_; have u2 := (show 8 ≤ Int32.toInt 8 ∧ Int32.toInt 8 ≤ 8 from (by decide)); omega)
                    refine pw_blk hT 1 (S' := (95, [some (pvR 124), some (pvI n1)], [pvR 124], M)) rfl ⟨trivial, trivial⟩ ?_
                    refine pw_callGp hT (as := [pvR 124]) (lo1 := [some (pvR 124), none, none]) (d1 := d) (rest := []) rfl rfl rfl rfl rfl (fun _ => rfl) (Nat.zero_le _) rfl rfl rfl (sf_X10_openSet_124 M hok d) (fun x35_ b37_ => ?_)
                    exact pw_ret hT rfl (r := some (pvI x35_)) (M' := M) ⟨rfl, rfl⟩ ⟨⟨_, rfl, (zr_wide b37_ (by decide) (by decide))⟩, rfl⟩
                  · show PW 91 d (99, [some (pvR 124), some (pvI n1)], [], M) _
                    refine pw_blk hT 1 (S' := (100, [some (pvR 124), some (pvI n1)], [pvI (-1)], M)) rfl ⟨trivial, trivial⟩ ?_
                    exact pw_ret hT rfl (r := some (pvI (-1))) (M' := M) ⟨rfl, rfl⟩ ⟨⟨_, rfl, (zr_wide (show (-1) ≤ Int32.toInt (-1) ∧ Int32.toInt (-1) ≤ (-1) from (by decide)) (by decide) (by decide))⟩, rfl⟩
def fpL_X10_two_124_x : List (Nat × Nat × Nat) := [(0, 124, 33), (0, 124, 36), (0, 141, 0), (0, 142, 0), (0, 143, 0), (0, 144, 0)]
def fp_X10_two_124_x (q k : Nat) : Bool := pvfp fpL_X10_two_124_x q k
theorem fp_X10_two_124_x_fp_X10_goes_124_x_x_x (a b : Nat) (h : fp_X10_goes_124_x_x_x a b = true) : fp_X10_two_124_x a b = true := pvfp_sub (l1 := fpL_X10_goes_124_x_x_x) (l2 := fpL_X10_two_124_x) (by decide) a b h
theorem fp_X10_two_124_x_fp_X10_layOpen_124 (a b : Nat) (h : fp_X10_layOpen_124 a b = true) : fp_X10_two_124_x a b = true := pvfp_sub (l1 := fpL_X10_layOpen_124) (l2 := fpL_X10_two_124_x) (by decide) a b h
theorem fp_X10_two_124_x_fp_X10_layRain_124 (a b : Nat) (h : fp_X10_layRain_124 a b = true) : fp_X10_two_124_x a b = true := pvfp_sub (l1 := fpL_X10_layRain_124) (l2 := fpL_X10_two_124_x) (by decide) a b h
theorem fp_X10_two_124_x_fp_X10_layRound_124 (a b : Nat) (h : fp_X10_layRound_124 a b = true) : fp_X10_two_124_x a b = true := pvfp_sub (l1 := fpL_X10_layRound_124) (l2 := fpL_X10_two_124_x) (by decide) a b h
set_option maxHeartbeats 4000000 in
set_option maxRecDepth 10000 in
theorem sf_X10_two_124_x (M : pvM) (hok : pvOk M) (n1 : Int32) (hz : pvWF M) (d : Nat) : PW 93 d (0, [some (pvR 124), some (pvI n1), none, none, none], [], M) (fun r X => (∃ x : Int32, r = some (pvI x) ∧ (-1) ≤ Int32.toInt x ∧ Int32.toInt x ≤ 9000000) ∧ pvOk X ∧ pvFr fp_X10_two_124_x M X) := by
  have hT : pvdom 93 = pvD_93 := rfl
  refine pw_blk hT 4 (S' := (4, [some (pvR 124), some (pvI n1), none, none, none], [pvI 1, pvI 0, pvI n1, pvR 124], M)) rfl ⟨trivial, trivial, trivial, trivial, trivial⟩ ?_
  refine pw_callT hT (as := [pvR 124, pvI n1, pvI 0, pvI 1]) (lo1 := [some (pvR 124), some (pvI n1), some (pvI 0), some (pvI 1)]) (d1 := d) (rest := []) rfl rfl rfl rfl rfl (fun _ => rfl) (Nat.zero_le _) rfl rfl rfl (sf_X10_in_124_x_x_x M hok n1 0 1 d) ?_
  by_cases c6_ : n1 < 0
  · refine pw_eqI (if_pos c6_) ?_
    have b7_ : (-2147483648) ≤ Int32.toInt n1 ∧ Int32.toInt n1 ≤ (-1) := zr_lt_l (-1) c6_ (zbnd n1) (show 0 ≤ Int32.toInt 0 ∧ Int32.toInt 0 ≤ 0 from (by decide)) (by decide)
    show PW 93 d (7, [some (pvR 124), some (pvI n1), none, none, none], [pvI 0], M) _
    refine pw_ifn hT (c := 0 = 0) rfl rfl (fun c8_ => absurd (by decide) c8_) (fun c8_ => ?_)
    refine pw_blk hT 1 (S' := (11, [some (pvR 124), some (pvI n1), none, none, none], [pvI (-1)], M)) rfl ⟨trivial, trivial⟩ ?_
    exact pw_ret hT rfl (r := some (pvI (-1))) (M' := M) ⟨rfl, rfl⟩ ⟨⟨_, rfl, (zr_wide (show (-1) ≤ Int32.toInt (-1) ∧ Int32.toInt (-1) ≤ (-1) from (by decide)) (by decide) (by decide))⟩, hok, pvfr_0⟩
  · refine pw_eqI (if_neg c6_) ?_
    have b9_ : 0 ≤ Int32.toInt n1 ∧ Int32.toInt n1 ≤ 2147483647 := zr_nlt_l 0 c6_ (zbnd n1) (show 0 ≤ Int32.toInt 0 ∧ Int32.toInt 0 ≤ 0 from (by decide)) (by decide)
    by_cases c10_ : 1 < n1
    · refine pw_eqI (if_pos c10_) ?_
      have b11_ : 2 ≤ Int32.toInt n1 ∧ Int32.toInt n1 ≤ 2147483647 := zr_lt_r 2 c10_ b9_ (show 1 ≤ Int32.toInt 1 ∧ Int32.toInt 1 ≤ 1 from (by decide)) (by decide)
      show PW 93 d (7, [some (pvR 124), some (pvI n1), none, none, none], [pvI 0], M) _
      refine pw_ifn hT (c := 0 = 0) rfl rfl (fun c12_ => absurd (by decide) c12_) (fun c12_ => ?_)
      refine pw_blk hT 1 (S' := (11, [some (pvR 124), some (pvI n1), none, none, none], [pvI (-1)], M)) rfl ⟨trivial, trivial⟩ ?_
      exact pw_ret hT rfl (r := some (pvI (-1))) (M' := M) ⟨rfl, rfl⟩ ⟨⟨_, rfl, (zr_wide (show (-1) ≤ Int32.toInt (-1) ∧ Int32.toInt (-1) ≤ (-1) from (by decide)) (by decide) (by decide))⟩, hok, pvfr_0⟩
    · refine pw_eqI (if_neg c10_) ?_
      have b13_ : 0 ≤ Int32.toInt n1 ∧ Int32.toInt n1 ≤ 1 := zr_nlt_r 1 c10_ b9_ (show 1 ≤ Int32.toInt 1 ∧ Int32.toInt 1 ≤ 1 from (by decide)) (by decide)
      show PW 93 d (7, [some (pvR 124), some (pvI n1), none, none, none], [pvI 1], M) _
      refine pw_ifn hT (c := 1 = 0) rfl rfl (fun c14_ => ?_) (fun c14_ => absurd c14_ (by decide))
      refine pw_blk hT 1 (S' := (13, [some (pvR 124), some (pvI n1), none, none, none], [pvR 124], M)) rfl ⟨trivial, trivial⟩ ?_
      refine pw_callV hT (as := [pvR 124]) (lo1 := [some (pvR 124), none, none]) (d1 := d) (rest := []) rfl rfl rfl rfl rfl (fun _ => rfl) (Nat.zero_le _) rfl rfl rfl (sf_X10_layRain_124 M hok hz d) (fun M16_ o18_ g19_ => ?_)
      have f20_ : pvFr fp_X10_two_124_x M M16_ := pvfr_t g19_ pvfr_0 fp_X10_two_124_x_fp_X10_layRain_124
      refine pw_blk hT 1 (S' := (17, [some (pvR 124), some (pvI n1), none, none, none], [pvR 124], M16_)) rfl ⟨trivial, trivial⟩ ?_
      refine pw_callV hT (as := [pvR 124]) (lo1 := [some (pvR 124), none]) (d1 := d) (rest := []) rfl rfl rfl rfl rfl (fun _ => rfl) (Nat.zero_le _) rfl rfl rfl (sf_X10_layRound_124 M16_ o18_ d) (fun M22_ o24_ g25_ => ?_)
      have f26_ : pvFr fp_X10_two_124_x M M22_ := pvfr_t g25_ f20_ fp_X10_two_124_x_fp_X10_layRound_124
      refine pw_blk hT 1 (S' := (21, [some (pvR 124), some (pvI n1), none, none, none], [pvR 124], M22_)) rfl ⟨trivial, trivial⟩ ?_
      refine pw_callV hT (as := [pvR 124]) (lo1 := [some (pvR 124), none]) (d1 := d) (rest := []) rfl rfl rfl rfl rfl (fun _ => rfl) (Nat.zero_le _) rfl rfl rfl (sf_X10_layOpen_124 M22_ o24_ d) (fun M28_ o30_ g31_ => ?_)
      have f32_ : pvFr fp_X10_two_124_x M M28_ := pvfr_t g31_ f26_ fp_X10_two_124_x_fp_X10_layOpen_124
      have b33_ : 0 ≤ Int32.toInt (M28_.1 124 37) ∧ Int32.toInt (M28_.1 124 37) ≤ 7 := pvok_r o30_ 124 37 rfl
      have q34_ : Int32.toInt ((M28_.1 124 37) / 2) = Int32.toInt (M28_.1 124 37) / 2 := by have u0 := b33_; have u := zdiv_p (M28_.1 124 37) 2 (by omega) (by decide) (by decide); have e0 : nI 2 = (2 : Int32) := rfl; rw [e0] at u; omega
      have b35_ : 0 ≤ Int32.toInt ((M28_.1 124 37) / 2) ∧ Int32.toInt ((M28_.1 124 37) / 2) ≤ 3 := (by have u0 := b33_; omega)
      obtain ⟨q37_, b36_⟩ : (Int32.toInt ((M28_.1 124 37) - ((M28_.1 124 37) / 2)) = Int32.toInt (M28_.1 124 37) - Int32.toInt ((M28_.1 124 37) / 2)) ∧ ((-3) ≤ Int32.toInt ((M28_.1 124 37) - ((M28_.1 124 37) / 2)) ∧ Int32.toInt ((M28_.1 124 37) - ((M28_.1 124 37) / 2)) ≤ 7) := zsub_r (M28_.1 124 37) ((M28_.1 124 37) / 2) (-3) 7 b33_ b35_ (by decide) (by decide) (by decide) (by decide)
      have b38_ : 0 ≤ Int32.toInt (M28_.1 124 1) ∧ Int32.toInt (M28_.1 124 1) ≤ 9999 := pvok_r o30_ 124 1 rfl
      refine pw_blk hT 13 (S' := (43, [some (pvR 124), some (pvI n1), some (pvI ((M28_.1 124 37) - ((M28_.1 124 37) / 2))), none, none], [pvI (M28_.1 124 1), pvI ((M28_.1 124 37) - ((M28_.1 124 37) / 2)), pvI 0, pvR 124], M28_)) rfl ⟨trivial, rfl, trivial, rfl, trivial, (by decide), trivial, trivial, trivial, trivial, trivial, trivial, rfl, trivial⟩ ?_
      refine pw_callG hT (as := [pvR 124, pvI 0, pvI ((M28_.1 124 37) - ((M28_.1 124 37) / 2)), pvI (M28_.1 124 1)]) (lo1 := [some (pvR 124), some (pvI 0), some (pvI ((M28_.1 124 37) - ((M28_.1 124 37) / 2))), some (pvI (M28_.1 124 1)), none, none, none, none, none]) (d1 := d) (rest := []) rfl rfl rfl rfl rfl (fun _ => rfl) (Nat.zero_le _) rfl rfl rfl (sf_X10_goes_124_x_x_x M28_ o30_ 0 ((M28_.1 124 37) - ((M28_.1 124 37) / 2)) (M28_.1 124 1) (zr_wide (show 0 ≤ Int32.toInt 0 ∧ Int32.toInt 0 ≤ 0 from (by decide)) (by decide) (by decide)) (by have u0 := b36_; omega) (zr_wide b38_ (by decide) (by decide)) d) (fun x39_ M40_ b41_ o42_ g43_ => ?_)
      have f44_ : pvFr fp_X10_two_124_x M M40_ := pvfr_t g43_ f32_ fp_X10_two_124_x_fp_X10_goes_124_x_x_x
      have b45_ : 0 ≤ Int32.toInt (M40_.1 124 37) ∧ Int32.toInt (M40_.1 124 37) ≤ 7 := pvok_r o42_ 124 37 rfl
      have b46_ : 0 ≤ Int32.toInt (M40_.1 124 1) ∧ Int32.toInt (M40_.1 124 1) ≤ 9999 := pvok_r o42_ 124 1 rfl
      refine pw_blk hT 7 (S' := (57, [some (pvR 124), some (pvI n1), some (pvI ((M28_.1 124 37) - ((M28_.1 124 37) / 2))), some (pvI x39_), none], [pvI (M40_.1 124 1), pvI (M40_.1 124 37), pvI ((M28_.1 124 37) - ((M28_.1 124 37) / 2)), pvR 124], M40_)) rfl ⟨trivial, trivial, trivial, trivial, rfl, trivial, rfl, trivial⟩ ?_
      refine pw_callG hT (as := [pvR 124, pvI ((M28_.1 124 37) - ((M28_.1 124 37) / 2)), pvI (M40_.1 124 37), pvI (M40_.1 124 1)]) (lo1 := [some (pvR 124), some (pvI ((M28_.1 124 37) - ((M28_.1 124 37) / 2))), some (pvI (M40_.1 124 37)), some (pvI (M40_.1 124 1)), none, none, none, none, none]) (d1 := d) (rest := []) rfl rfl rfl rfl rfl (fun _ => rfl) (Nat.zero_le _) rfl rfl rfl (sf_X10_goes_124_x_x_x M40_ o42_ ((M28_.1 124 37) - ((M28_.1 124 37) / 2)) (M40_.1 124 37) (M40_.1 124 1) (by have u0 := b36_; omega) b45_ (zr_wide b46_ (by decide) (by decide)) d) (fun x47_ M48_ b49_ o50_ g51_ => ?_)
      have f52_ : pvFr fp_X10_two_124_x M M48_ := pvfr_t g51_ f44_ fp_X10_two_124_x_fp_X10_goes_124_x_x_x
      refine pw_blk hT 2 (S' := (63, [some (pvR 124), some (pvI n1), some (pvI ((M28_.1 124 37) - ((M28_.1 124 37) / 2))), some (pvI x39_), some (pvI x47_)], [pvI n1], M48_)) rfl ⟨trivial, trivial, trivial⟩ ?_
      refine pw_ifn hT (c := n1 = 0) rfl rfl (fun c53_ => ?_) (fun c53_ => ?_)
      · have b54_ : 1 ≤ Int32.toInt n1 ∧ Int32.toInt n1 ≤ 1 := (by have u0 := b13_; have u1 := (not_congr (zi_eq _ _)).mp c53_; have u2 := (show 0 ≤ Int32.toInt 0 ∧ Int32.toInt 0 ≤ 0 from (by decide)); omega)
        refine pw_blk hT 2 (S' := (76, [some (pvR 124), some (pvI n1), some (pvI ((M28_.1 124 37) - ((M28_.1 124 37) / 2))), some (pvI x39_), some (pvI x47_)], [pvI x47_, pvI x39_], M48_)) rfl ⟨trivial, trivial, trivial⟩ ?_
        refine pw_ic hT (c := x39_ ≤ x47_) rfl rfl (fun c55_ => ?_) (fun c55_ => ?_)
        · have d56_ : Int32.toInt x39_ ≤ Int32.toInt x47_ := (zi_le _ _).mp c55_
          refine pw_blk hT 1 (S' := (85, [some (pvR 124), some (pvI n1), some (pvI ((M28_.1 124 37) - ((M28_.1 124 37) / 2))), some (pvI x39_), some (pvI x47_)], [pvI x47_], M48_)) rfl ⟨trivial, trivial⟩ ?_
          exact pw_ret hT rfl (r := some (pvI x47_)) (M' := M48_) ⟨rfl, rfl⟩ ⟨⟨_, rfl, (zr_wide b49_ (by decide) (by decide))⟩, o50_, f52_⟩
        · have b57_ : 1 ≤ Int32.toInt x39_ ∧ Int32.toInt x39_ ≤ 64000 := zr_nle_l 1 c55_ b41_ b49_ (by decide)
          have b58_ : 0 ≤ Int32.toInt x47_ ∧ Int32.toInt x47_ ≤ 63999 := zr_nle_r 63999 c55_ b49_ b57_ (by decide)
          have d59_ : Int32.toInt x39_ > Int32.toInt x47_ := Int.not_le.mp ((not_congr (zi_le _ _)).mp c55_)
          refine pw_blk hT 2 (S' := (85, [some (pvR 124), some (pvI n1), some (pvI ((M28_.1 124 37) - ((M28_.1 124 37) / 2))), some (pvI x39_), some (pvI x47_)], [pvI x39_], M48_)) rfl ⟨trivial, trivial, trivial⟩ ?_
          exact pw_ret hT rfl (r := some (pvI x39_)) (M' := M48_) ⟨rfl, rfl⟩ ⟨⟨_, rfl, (zr_wide b57_ (by decide) (by decide))⟩, o50_, f52_⟩
      · have b60_ : 0 ≤ Int32.toInt n1 ∧ Int32.toInt n1 ≤ 0 := (by have u0 := b13_; have u1 := (zi_eq _ _).mp c53_; have u2 := (show 0 ≤ Int32.toInt 0 ∧ Int32.toInt 0 ≤ 0 from (by decide)); omega)
        refine pw_blk hT 1 (S' := (67, [some (pvR 124), some (pvI n1), some (pvI ((M28_.1 124 37) - ((M28_.1 124 37) / 2))), some (pvI x39_), some (pvI x47_)], [pvR 124], M48_)) rfl ⟨trivial, trivial⟩ ?_
        refine pw_callGp hT (as := [pvR 124]) (lo1 := [some (pvR 124)]) (d1 := d) (rest := []) rfl rfl rfl rfl rfl (fun _ => rfl) (Nat.zero_le _) rfl rfl rfl (sf_X10_harmTillEnd_124 M48_ o50_ d) (fun x61_ b63_ => ?_)
        refine pw_blk hT 1 (S' := (85, [some (pvR 124), some (pvI n1), some (pvI ((M28_.1 124 37) - ((M28_.1 124 37) / 2))), some (pvI x39_), some (pvI x47_)], [pvI x61_], M48_)) rfl ⟨trivial, trivial⟩ ?_
        exact pw_ret hT rfl (r := some (pvI x61_)) (M' := M48_) ⟨rfl, rfl⟩ ⟨⟨_, rfl, (zr_wide b63_ (by decide) (by decide))⟩, o50_, f52_⟩
def fpL_X10_worth_124_x : List (Nat × Nat × Nat) := [(0, 124, 33), (0, 131, 0), (0, 141, 0), (0, 142, 0), (0, 143, 0)]
def fp_X10_worth_124_x (q k : Nat) : Bool := pvfp fpL_X10_worth_124_x q k
theorem fp_X10_worth_124_x_fp_X10_costOfNone_124 (a b : Nat) (h : fp_X10_costOfNone_124 a b = true) : fp_X10_worth_124_x a b = true := pvfp_sub (l1 := fpL_X10_costOfNone_124) (l2 := fpL_X10_worth_124_x) (by decide) a b h
theorem fp_X10_worth_124_x_fp_X10_layRain_124 (a b : Nat) (h : fp_X10_layRain_124 a b = true) : fp_X10_worth_124_x a b = true := pvfp_sub (l1 := fpL_X10_layRain_124) (l2 := fpL_X10_worth_124_x) (by decide) a b h
set_option maxHeartbeats 4000000 in
set_option maxRecDepth 10000 in
theorem sf_X10_worth_124_x (M : pvM) (hok : pvOk M) (n1 : Int32) (hz : pvWF M) (d : Nat) : PW 101 d (0, [some (pvR 124), some (pvI n1), none, none], [], M) (fun r X => (∃ x : Int32, r = some (pvI x) ∧ (-9000000) ≤ Int32.toInt x ∧ Int32.toInt x ≤ 9000000) ∧ pvOk X ∧ pvFr fp_X10_worth_124_x M X) := by
  have hT : pvdom 101 = pvD_101 := rfl
  refine pw_blk hT 2 (S' := (2, [some (pvR 124), some (pvI n1), none, none], [pvI n1, pvR 124], M)) rfl ⟨trivial, trivial, trivial⟩ ?_
  refine pw_callT hT (as := [pvR 124, pvI n1]) (lo1 := [some (pvR 124), some (pvI n1)]) (d1 := d) (rest := []) rfl rfl rfl rfl rfl (fun _ => rfl) (Nat.zero_le _) rfl rfl rfl (sf_X10_isWindow_124_x M hok n1 d) ?_
  by_cases c6_ : n1 < 0
  · refine pw_eqI (if_pos c6_) ?_
    have b7_ : (-2147483648) ≤ Int32.toInt n1 ∧ Int32.toInt n1 ≤ (-1) := zr_lt_l (-1) c6_ (zbnd n1) (show 0 ≤ Int32.toInt 0 ∧ Int32.toInt 0 ≤ 0 from (by decide)) (by decide)
    show PW 101 d (5, [some (pvR 124), some (pvI n1), none, none], [pvI 0], M) _
    refine pw_ifn hT (c := 0 = 0) rfl rfl (fun c8_ => absurd (by decide) c8_) (fun c8_ => ?_)
    refine pw_blk hT 1 (S' := (9, [some (pvR 124), some (pvI n1), none, none], [pvI (-1)], M)) rfl ⟨trivial, trivial⟩ ?_
    exact pw_ret hT rfl (r := some (pvI (-1))) (M' := M) ⟨rfl, rfl⟩ ⟨⟨_, rfl, (zr_wide (show (-1) ≤ Int32.toInt (-1) ∧ Int32.toInt (-1) ≤ (-1) from (by decide)) (by decide) (by decide))⟩, hok, pvfr_0⟩
  · refine pw_eqI (if_neg c6_) ?_
    have b9_ : 0 ≤ Int32.toInt n1 ∧ Int32.toInt n1 ≤ 2147483647 := zr_nlt_l 0 c6_ (zbnd n1) (show 0 ≤ Int32.toInt 0 ∧ Int32.toInt 0 ≤ 0 from (by decide)) (by decide)
    have b10_ : 0 ≤ Int32.toInt (M.1 124 0) ∧ Int32.toInt (M.1 124 0) ≤ 7 := pvok_r hok 124 0 rfl
    obtain ⟨q12_, b11_⟩ : (Int32.toInt ((M.1 124 0) - 1) = Int32.toInt (M.1 124 0) - 1) ∧ ((-1) ≤ Int32.toInt ((M.1 124 0) - 1) ∧ Int32.toInt ((M.1 124 0) - 1) ≤ 6) := zsub_k (M.1 124 0) 1 1 (-1) 6 b10_ (by decide) (by decide) (by decide) (by decide) (by decide)
    by_cases c13_ : ((M.1 124 0) - 1) < n1
    · refine pw_eqI (if_pos c13_) ?_
      have d14_ : Int32.toInt ((M.1 124 0) - 1) < Int32.toInt n1 := (zi_lt _ _).mp c13_
      show PW 101 d (5, [some (pvR 124), some (pvI n1), none, none], [pvI 0], M) _
      refine pw_ifn hT (c := 0 = 0) rfl rfl (fun c15_ => absurd (by decide) c15_) (fun c15_ => ?_)
      refine pw_blk hT 1 (S' := (9, [some (pvR 124), some (pvI n1), none, none], [pvI (-1)], M)) rfl ⟨trivial, trivial⟩ ?_
      exact pw_ret hT rfl (r := some (pvI (-1))) (M' := M) ⟨rfl, rfl⟩ ⟨⟨_, rfl, (zr_wide (show (-1) ≤ Int32.toInt (-1) ∧ Int32.toInt (-1) ≤ (-1) from (by decide)) (by decide) (by decide))⟩, hok, pvfr_0⟩
    · refine pw_eqI (if_neg c13_) ?_
      have b16_ : 0 ≤ Int32.toInt ((M.1 124 0) - 1) ∧ Int32.toInt ((M.1 124 0) - 1) ≤ 6 := zr_nlt_l 0 c13_ b11_ b9_ (by decide)
      have b17_ : 0 ≤ Int32.toInt n1 ∧ Int32.toInt n1 ≤ 6 := zr_nlt_r 6 c13_ b9_ b16_ (by decide)
      have d18_ : Int32.toInt ((M.1 124 0) - 1) ≥ Int32.toInt n1 := Int.not_lt.mp ((not_congr (zi_lt _ _)).mp c13_)
      show PW 101 d (5, [some (pvR 124), some (pvI n1), none, none], [pvI 1], M) _
      refine pw_ifn hT (c := 1 = 0) rfl rfl (fun c19_ => ?_) (fun c19_ => absurd c19_ (by decide))
      refine pw_blk hT 1 (S' := (11, [some (pvR 124), some (pvI n1), none, none], [pvR 124], M)) rfl ⟨trivial, trivial⟩ ?_
      refine pw_callV hT (as := [pvR 124]) (lo1 := [some (pvR 124), none, none]) (d1 := d) (rest := []) rfl rfl rfl rfl rfl (fun _ => rfl) (Nat.zero_le _) rfl rfl rfl (sf_X10_layRain_124 M hok hz d) (fun M21_ o23_ g24_ => ?_)
      have f25_ : pvFr fp_X10_worth_124_x M M21_ := pvfr_t g24_ pvfr_0 fp_X10_worth_124_x_fp_X10_layRain_124
      refine pw_blk hT 1 (S' := (15, [some (pvR 124), some (pvI n1), none, none], [pvR 124], M21_)) rfl ⟨trivial, trivial⟩ ?_
      refine pw_callG hT (as := [pvR 124]) (lo1 := [some (pvR 124)]) (d1 := d) (rest := []) rfl rfl rfl rfl rfl (fun _ => rfl) (Nat.zero_le _) rfl rfl rfl (sf_X10_costOfNone_124 M21_ o23_ d) (fun x26_ M27_ b28_ o29_ g30_ => ?_)
      have f31_ : pvFr fp_X10_worth_124_x M M27_ := pvfr_t g30_ f25_ fp_X10_worth_124_x_fp_X10_costOfNone_124
      have b32_ : 0 ≤ Int32.toInt (M27_.1 131 (Int32.toNatClampNeg n1)) ∧ Int32.toInt (M27_.1 131 (Int32.toNatClampNeg n1)) ≤ 1 := pvok_r o29_ 131 (Int32.toNatClampNeg n1) rfl
      refine pw_blkw hT 11 (pc := 33) (lo := [some (pvR 124), some (pvI n1), some (pvI x26_), some (pvI (M27_.1 131 (Int32.toNatClampNeg n1)))]) (st := []) (M := pvu M27_ 131 (Int32.toNatClampNeg n1) (vp_nar .boolean 1)) rfl ⟨trivial, trivial, rfl, trivial, ⟨rfl, (zr_in (n := 7) b17_ (by decide) (by decide))⟩, trivial, trivial, rfl, trivial, trivial, ⟨rfl, (zr_in (n := 7) b17_ (by decide) (by decide))⟩, trivial⟩ (fun M33_ e34_ => ?_)
      have o35_ : pvOk M33_ := pvok_u2 e34_ o29_ rfl (zboolr 1)
      have f36_ : pvFr fp_X10_worth_124_x M M33_ := pvfr_u e34_ f31_ rfl
      refine pw_blk hT 2 (S' := (35, [some (pvR 124), some (pvI n1), some (pvI x26_), some (pvI (M27_.1 131 (Int32.toNatClampNeg n1)))], [pvR 124, pvI x26_], M33_)) rfl ⟨trivial, trivial, trivial⟩ ?_
      refine pw_callG hT (as := [pvR 124]) (lo1 := [some (pvR 124)]) (d1 := d) (rest := [pvI x26_]) rfl rfl rfl rfl rfl (fun _ => rfl) (Nat.zero_le _) rfl rfl rfl (sf_X10_costOfNone_124 M33_ o35_ d) (fun x37_ M38_ b39_ o40_ g41_ => ?_)
      have f42_ : pvFr fp_X10_worth_124_x M M38_ := pvfr_t g41_ f36_ fp_X10_worth_124_x_fp_X10_costOfNone_124
      obtain ⟨q44_, b43_⟩ : (Int32.toInt (x26_ - x37_) = Int32.toInt x26_ - Int32.toInt x37_) ∧ ((-9000000) ≤ Int32.toInt (x26_ - x37_) ∧ Int32.toInt (x26_ - x37_) ≤ 9000000) := zsub_r x26_ x37_ (-9000000) 9000000 b28_ b39_ (by decide) (by decide) (by decide) (by decide)
      refine pw_blkw hT 7 (pc := 47) (lo := [some (pvR 124), some (pvI n1), some (pvI (x26_ - x37_)), some (pvI (M27_.1 131 (Int32.toNatClampNeg n1)))]) (st := []) (M := pvu M38_ 131 (Int32.toNatClampNeg n1) (vp_nar .boolean (M27_.1 131 (Int32.toNatClampNeg n1)))) rfl ⟨trivial, trivial, trivial, rfl, trivial, trivial, ⟨rfl, (zr_in (n := 7) b17_ (by decide) (by decide))⟩, trivial⟩ (fun M45_ e46_ => ?_)
      have o47_ : pvOk M45_ := pvok_u2 e46_ o40_ rfl (zboolr (M27_.1 131 (Int32.toNatClampNeg n1)))
      have f48_ : pvFr fp_X10_worth_124_x M M45_ := pvfr_u e46_ f42_ rfl
      refine pw_blk hT 1 (S' := (48, [some (pvR 124), some (pvI n1), some (pvI (x26_ - x37_)), some (pvI (M27_.1 131 (Int32.toNatClampNeg n1)))], [pvI (x26_ - x37_)], M45_)) rfl ⟨trivial, trivial⟩ ?_
      exact pw_ret hT rfl (r := some (pvI (x26_ - x37_))) (M' := M45_) ⟨rfl, rfl⟩ ⟨⟨_, rfl, b43_⟩, o47_, f48_⟩
set_option maxHeartbeats 4000000 in
set_option maxRecDepth 10000 in
theorem sf_X7_has_8_x (M : pvM) (hok : pvOk M) (n1 : Int32) (d : Nat) : PW 159 d (0, [some (pvR 8), some (pvI n1)], [], M) (fun r X => r = some (pvI ((if n1 < 0 then 0 else (if (M.1 8 1) ≤ n1 then 0 else 1)))) ∧ X = M) := by
  have hT : pvdom 159 = pvD_159 := rfl
  refine pw_blk hT 1 (S' := (1, [some (pvR 8), some (pvI n1)], [pvI n1], M)) rfl ⟨trivial, trivial⟩ ?_
  refine pw_if hT (c := n1 < 0) rfl rfl (fun c1_ => ?_) (fun c1_ => ?_)
  · have b2_ : (-2147483648) ≤ Int32.toInt n1 ∧ Int32.toInt n1 ≤ (-1) := zr_lt_l (-1) c1_ (zbnd n1) (show 0 ≤ Int32.toInt 0 ∧ Int32.toInt 0 ≤ 0 from (by decide)) (by decide)
    refine pw_blk hT 1 (S' := (17, [some (pvR 8), some (pvI n1)], [pvI 0], M)) rfl ⟨trivial, trivial⟩ ?_
    exact pw_ret hT rfl (r := some (pvI 0)) (M' := M) ⟨Or.inl rfl, rfl, rfl⟩ ⟨(by rw [if_pos c1_]), rfl⟩
  · have b3_ : 0 ≤ Int32.toInt n1 ∧ Int32.toInt n1 ≤ 2147483647 := zr_nlt_l 0 c1_ (zbnd n1) (show 0 ≤ Int32.toInt 0 ∧ Int32.toInt 0 ≤ 0 from (by decide)) (by decide)
    have b4_ : 0 ≤ Int32.toInt (M.1 8 1) ∧ Int32.toInt (M.1 8 1) ≤ 7 := pvok_r hok 8 1 rfl
    refine pw_blk hT 3 (S' := (9, [some (pvR 8), some (pvI n1)], [pvI (M.1 8 1), pvI n1], M)) rfl ⟨trivial, trivial, rfl, trivial⟩ ?_
    refine pw_ic hT (c := (M.1 8 1) ≤ n1) rfl rfl (fun c5_ => ?_) (fun c5_ => ?_)
    · have d6_ : Int32.toInt (M.1 8 1) ≤ Int32.toInt n1 := (zi_le _ _).mp c5_
      refine pw_blk hT 1 (S' := (17, [some (pvR 8), some (pvI n1)], [pvI 0], M)) rfl ⟨trivial, trivial⟩ ?_
      exact pw_ret hT rfl (r := some (pvI 0)) (M' := M) ⟨Or.inl rfl, rfl, rfl⟩ ⟨(by rw [if_neg c1_, if_pos c5_]), rfl⟩
    · have b7_ : 1 ≤ Int32.toInt (M.1 8 1) ∧ Int32.toInt (M.1 8 1) ≤ 7 := zr_nle_l 1 c5_ b4_ b3_ (by decide)
      have b8_ : 0 ≤ Int32.toInt n1 ∧ Int32.toInt n1 ≤ 6 := zr_nle_r 6 c5_ b3_ b7_ (by decide)
      have d9_ : Int32.toInt (M.1 8 1) > Int32.toInt n1 := Int.not_le.mp ((not_congr (zi_le _ _)).mp c5_)
      refine pw_blk hT 2 (S' := (17, [some (pvR 8), some (pvI n1)], [pvI 1], M)) rfl ⟨trivial, trivial, trivial⟩ ?_
      exact pw_ret hT rfl (r := some (pvI 1)) (M' := M) ⟨Or.inr rfl, rfl, rfl⟩ ⟨(by rw [if_neg c1_, if_neg c5_]), rfl⟩
set_option maxHeartbeats 4000000 in
set_option maxRecDepth 10000 in
theorem sf_X9_within_x_x_x (M : pvM) (hok : pvOk M) (n0 : Int32) (n1 : Int32) (n2 : Int32) (d : Nat) : PW 211 d (0, [some (pvI n0), some (pvI n1), some (pvI n2)], [], M) (fun r X => r = some (pvI ((if n0 < n1 then 0 else (if n2 < n0 then 0 else 1)))) ∧ X = M) := by
  have hT : pvdom 211 = pvD_211 := rfl
  refine pw_blk hT 2 (S' := (2, [some (pvI n0), some (pvI n1), some (pvI n2)], [pvI n1, pvI n0], M)) rfl ⟨trivial, trivial, trivial⟩ ?_
  refine pw_ic hT (c := n0 < n1) rfl rfl (fun c1_ => ?_) (fun c1_ => ?_)
  · have b2_ : (-2147483648) ≤ Int32.toInt n0 ∧ Int32.toInt n0 ≤ 2147483646 := zr_lt_l 2147483646 c1_ (zbnd n0) (zbnd n1) (by decide)
    have b3_ : (-2147483647) ≤ Int32.toInt n1 ∧ Int32.toInt n1 ≤ 2147483647 := zr_lt_r (-2147483647) c1_ (zbnd n1) b2_ (by decide)
    have d4_ : Int32.toInt n0 < Int32.toInt n1 := (zi_lt _ _).mp c1_
    refine pw_blk hT 1 (S' := (15, [some (pvI n0), some (pvI n1), some (pvI n2)], [pvI 0], M)) rfl ⟨trivial, trivial⟩ ?_
    exact pw_ret hT rfl (r := some (pvI 0)) (M' := M) ⟨Or.inl rfl, rfl, rfl⟩ ⟨(by rw [if_pos c1_]), rfl⟩
  · have d5_ : Int32.toInt n0 ≥ Int32.toInt n1 := Int.not_lt.mp ((not_congr (zi_lt _ _)).mp c1_)
    refine pw_blk hT 2 (S' := (7, [some (pvI n0), some (pvI n1), some (pvI n2)], [pvI n2, pvI n0], M)) rfl ⟨trivial, trivial, trivial⟩ ?_
    refine pw_ic hT (c := n2 < n0) rfl rfl (fun c6_ => ?_) (fun c6_ => ?_)
    · have b7_ : (-2147483648) ≤ Int32.toInt n2 ∧ Int32.toInt n2 ≤ 2147483646 := zr_lt_l 2147483646 c6_ (zbnd n2) (zbnd n0) (by decide)
      have b8_ : (-2147483647) ≤ Int32.toInt n0 ∧ Int32.toInt n0 ≤ 2147483647 := zr_lt_r (-2147483647) c6_ (zbnd n0) b7_ (by decide)
      have d9_ : Int32.toInt n2 < Int32.toInt n0 := (zi_lt _ _).mp c6_
      refine pw_blk hT 1 (S' := (15, [some (pvI n0), some (pvI n1), some (pvI n2)], [pvI 0], M)) rfl ⟨trivial, trivial⟩ ?_
      exact pw_ret hT rfl (r := some (pvI 0)) (M' := M) ⟨Or.inl rfl, rfl, rfl⟩ ⟨(by rw [if_neg c1_, if_pos c6_]), rfl⟩
    · have d10_ : Int32.toInt n2 ≥ Int32.toInt n0 := Int.not_lt.mp ((not_congr (zi_lt _ _)).mp c6_)
      refine pw_blk hT 2 (S' := (15, [some (pvI n0), some (pvI n1), some (pvI n2)], [pvI 1], M)) rfl ⟨trivial, trivial, trivial⟩ ?_
      exact pw_ret hT rfl (r := some (pvI 1)) (M' := M) ⟨Or.inr rfl, rfl, rfl⟩ ⟨(by rw [if_neg c1_, if_neg c6_]), rfl⟩
set_option maxHeartbeats 4000000 in
set_option maxRecDepth 10000 in
theorem sf_X0_bodyFrom_0_0 (M : pvM) (hok : pvOk M) (d : Nat) : PW 1 d (0, [some (pvI 0), some (pvI 0), none, none, none], [], M) (fun r X => r = some (pvI (((pvstab 1041).getD (Int32.toNatClampNeg ((0 * 3) + 0)) 0))) ∧ X = M) := by
  have hT : pvdom 1 = pvD_1 := rfl
  refine pw_blk hT 4 (S' := (4, [some (pvI 0), some (pvI 0), some (pvI 0), some (pvI 0), none], [], M)) rfl ⟨trivial, trivial, trivial, trivial, trivial⟩ ?_
  refine pw_blk hT 3 (S' := (9, [some (pvI 0), some (pvI 0), some (pvI 0), some (pvI 0), none], [pvI (Int32.ofNat (pvstab 1041).length), pvI 0], M)) rfl ⟨trivial, trivial, (by decide), trivial⟩ ?_
  refine pw_ic hT (c := (Int32.ofNat (pvstab 1041).length) ≤ 0) rfl rfl (fun c1_ => absurd c1_ (by decide)) (fun c1_ => ?_)
  refine pw_blk hT 1 (S' := (13, [some (pvI 0), some (pvI 0), some (pvI 0), some (pvI 0), none], [pvI 0], M)) rfl ⟨trivial, trivial⟩ ?_
  refine pw_if hT (c := 0 < 0) rfl rfl (fun c2_ => absurd c2_ (by decide)) (fun c2_ => ?_)
  refine pw_blk hT 7 (S' := (25, [some (pvI 0), some (pvI 0), some (pvI 0), some (pvI 0), some (pvI ((0 * 3) + 0))], [pvI ((0 * 3) + 0)], M)) rfl ⟨trivial, trivial, trivial, trivial, trivial, trivial, trivial, trivial⟩ ?_
  refine pw_if hT (c := ((0 * 3) + 0) < 0) rfl rfl (fun c3_ => absurd c3_ (by decide)) (fun c3_ => ?_)
  refine pw_blk hT 3 (S' := (34, [some (pvI 0), some (pvI 0), some (pvI 0), some (pvI 0), some (pvI ((0 * 3) + 0))], [pvI (Int32.ofNat (pvstab 1041).length), pvI ((0 * 3) + 0)], M)) rfl ⟨trivial, trivial, (by decide), trivial⟩ ?_
  refine pw_ic hT (c := (Int32.ofNat (pvstab 1041).length) ≤ ((0 * 3) + 0)) rfl rfl (fun c4_ => absurd c4_ (by decide)) (fun c4_ => ?_)
  refine pw_blk hT 3 (S' := (43, [some (pvI 0), some (pvI 0), some (pvI 0), some (pvI 0), some (pvI ((0 * 3) + 0))], [pvI ((pvstab 1041).getD (Int32.toNatClampNeg ((0 * 3) + 0)) 0)], M)) rfl ⟨trivial, trivial, ⟨by decide, (zr_in (n := 21) (show 0 ≤ Int32.toInt ((0 * 3) + 0) ∧ Int32.toInt ((0 * 3) + 0) ≤ 0 from (by decide)) (by decide) (by decide))⟩, trivial⟩ ?_
  refine pw_if hT (c := ((pvstab 1041).getD (Int32.toNatClampNeg ((0 * 3) + 0)) 0) = 0) rfl rfl (fun c5_ => absurd c5_ (by decide)) (fun c5_ => ?_)
  refine pw_blk hT 3 (S' := (52, [some (pvI 0), some (pvI 0), some (pvI 0), some (pvI 0), some (pvI ((0 * 3) + 0))], [pvI ((pvstab 1041).getD (Int32.toNatClampNeg ((0 * 3) + 0)) 0)], M)) rfl ⟨trivial, trivial, ⟨by decide, (zr_in (n := 21) (show 0 ≤ Int32.toInt ((0 * 3) + 0) ∧ Int32.toInt ((0 * 3) + 0) ≤ 0 from (by decide)) (by decide) (by decide))⟩, trivial⟩ ?_
  exact pw_ret hT rfl (r := some (pvI ((pvstab 1041).getD (Int32.toNatClampNeg ((0 * 3) + 0)) 0))) (M' := M) ⟨rfl, rfl⟩ ⟨rfl, rfl⟩
set_option maxHeartbeats 4000000 in
set_option maxRecDepth 10000 in
theorem sf_X0_bodyFrom_0_1 (M : pvM) (hok : pvOk M) (d : Nat) : PW 1 d (0, [some (pvI 0), some (pvI 1), none, none, none], [], M) (fun r X => r = some (pvI (((pvstab 1041).getD (Int32.toNatClampNeg ((0 * 3) + 1)) 0))) ∧ X = M) := by
  have hT : pvdom 1 = pvD_1 := rfl
  refine pw_blk hT 4 (S' := (4, [some (pvI 0), some (pvI 1), some (pvI 0), some (pvI 0), none], [], M)) rfl ⟨trivial, trivial, trivial, trivial, trivial⟩ ?_
  refine pw_blk hT 3 (S' := (9, [some (pvI 0), some (pvI 1), some (pvI 0), some (pvI 0), none], [pvI (Int32.ofNat (pvstab 1041).length), pvI 0], M)) rfl ⟨trivial, trivial, (by decide), trivial⟩ ?_
  refine pw_ic hT (c := (Int32.ofNat (pvstab 1041).length) ≤ 0) rfl rfl (fun c1_ => absurd c1_ (by decide)) (fun c1_ => ?_)
  refine pw_blk hT 1 (S' := (13, [some (pvI 0), some (pvI 1), some (pvI 0), some (pvI 0), none], [pvI 0], M)) rfl ⟨trivial, trivial⟩ ?_
  refine pw_if hT (c := 0 < 0) rfl rfl (fun c2_ => absurd c2_ (by decide)) (fun c2_ => ?_)
  refine pw_blk hT 7 (S' := (25, [some (pvI 0), some (pvI 1), some (pvI 0), some (pvI 0), some (pvI ((0 * 3) + 1))], [pvI ((0 * 3) + 1)], M)) rfl ⟨trivial, trivial, trivial, trivial, trivial, trivial, trivial, trivial⟩ ?_
  refine pw_if hT (c := ((0 * 3) + 1) < 0) rfl rfl (fun c3_ => absurd c3_ (by decide)) (fun c3_ => ?_)
  refine pw_blk hT 3 (S' := (34, [some (pvI 0), some (pvI 1), some (pvI 0), some (pvI 0), some (pvI ((0 * 3) + 1))], [pvI (Int32.ofNat (pvstab 1041).length), pvI ((0 * 3) + 1)], M)) rfl ⟨trivial, trivial, (by decide), trivial⟩ ?_
  refine pw_ic hT (c := (Int32.ofNat (pvstab 1041).length) ≤ ((0 * 3) + 1)) rfl rfl (fun c4_ => absurd c4_ (by decide)) (fun c4_ => ?_)
  refine pw_blk hT 3 (S' := (43, [some (pvI 0), some (pvI 1), some (pvI 0), some (pvI 0), some (pvI ((0 * 3) + 1))], [pvI ((pvstab 1041).getD (Int32.toNatClampNeg ((0 * 3) + 1)) 0)], M)) rfl ⟨trivial, trivial, ⟨by decide, (zr_in (n := 21) (show 1 ≤ Int32.toInt ((0 * 3) + 1) ∧ Int32.toInt ((0 * 3) + 1) ≤ 1 from (by decide)) (by decide) (by decide))⟩, trivial⟩ ?_
  refine pw_if hT (c := ((pvstab 1041).getD (Int32.toNatClampNeg ((0 * 3) + 1)) 0) = 0) rfl rfl (fun c5_ => absurd c5_ (by decide)) (fun c5_ => ?_)
  refine pw_blk hT 3 (S' := (52, [some (pvI 0), some (pvI 1), some (pvI 0), some (pvI 0), some (pvI ((0 * 3) + 1))], [pvI ((pvstab 1041).getD (Int32.toNatClampNeg ((0 * 3) + 1)) 0)], M)) rfl ⟨trivial, trivial, ⟨by decide, (zr_in (n := 21) (show 1 ≤ Int32.toInt ((0 * 3) + 1) ∧ Int32.toInt ((0 * 3) + 1) ≤ 1 from (by decide)) (by decide) (by decide))⟩, trivial⟩ ?_
  exact pw_ret hT rfl (r := some (pvI ((pvstab 1041).getD (Int32.toNatClampNeg ((0 * 3) + 1)) 0))) (M' := M) ⟨rfl, rfl⟩ ⟨rfl, rfl⟩
set_option maxHeartbeats 4000000 in
set_option maxRecDepth 10000 in
theorem sf_X0_bodyFrom_0_2 (M : pvM) (hok : pvOk M) (d : Nat) : PW 1 d (0, [some (pvI 0), some (pvI 2), none, none, none], [], M) (fun r X => r = some (pvI (((pvstab 1041).getD (Int32.toNatClampNeg ((0 * 3) + 2)) 0))) ∧ X = M) := by
  have hT : pvdom 1 = pvD_1 := rfl
  refine pw_blk hT 4 (S' := (4, [some (pvI 0), some (pvI 2), some (pvI 0), some (pvI 0), none], [], M)) rfl ⟨trivial, trivial, trivial, trivial, trivial⟩ ?_
  refine pw_blk hT 3 (S' := (9, [some (pvI 0), some (pvI 2), some (pvI 0), some (pvI 0), none], [pvI (Int32.ofNat (pvstab 1041).length), pvI 0], M)) rfl ⟨trivial, trivial, (by decide), trivial⟩ ?_
  refine pw_ic hT (c := (Int32.ofNat (pvstab 1041).length) ≤ 0) rfl rfl (fun c1_ => absurd c1_ (by decide)) (fun c1_ => ?_)
  refine pw_blk hT 1 (S' := (13, [some (pvI 0), some (pvI 2), some (pvI 0), some (pvI 0), none], [pvI 0], M)) rfl ⟨trivial, trivial⟩ ?_
  refine pw_if hT (c := 0 < 0) rfl rfl (fun c2_ => absurd c2_ (by decide)) (fun c2_ => ?_)
  refine pw_blk hT 7 (S' := (25, [some (pvI 0), some (pvI 2), some (pvI 0), some (pvI 0), some (pvI ((0 * 3) + 2))], [pvI ((0 * 3) + 2)], M)) rfl ⟨trivial, trivial, trivial, trivial, trivial, trivial, trivial, trivial⟩ ?_
  refine pw_if hT (c := ((0 * 3) + 2) < 0) rfl rfl (fun c3_ => absurd c3_ (by decide)) (fun c3_ => ?_)
  refine pw_blk hT 3 (S' := (34, [some (pvI 0), some (pvI 2), some (pvI 0), some (pvI 0), some (pvI ((0 * 3) + 2))], [pvI (Int32.ofNat (pvstab 1041).length), pvI ((0 * 3) + 2)], M)) rfl ⟨trivial, trivial, (by decide), trivial⟩ ?_
  refine pw_ic hT (c := (Int32.ofNat (pvstab 1041).length) ≤ ((0 * 3) + 2)) rfl rfl (fun c4_ => absurd c4_ (by decide)) (fun c4_ => ?_)
  refine pw_blk hT 3 (S' := (43, [some (pvI 0), some (pvI 2), some (pvI 0), some (pvI 0), some (pvI ((0 * 3) + 2))], [pvI ((pvstab 1041).getD (Int32.toNatClampNeg ((0 * 3) + 2)) 0)], M)) rfl ⟨trivial, trivial, ⟨by decide, (zr_in (n := 21) (show 2 ≤ Int32.toInt ((0 * 3) + 2) ∧ Int32.toInt ((0 * 3) + 2) ≤ 2 from (by decide)) (by decide) (by decide))⟩, trivial⟩ ?_
  refine pw_if hT (c := ((pvstab 1041).getD (Int32.toNatClampNeg ((0 * 3) + 2)) 0) = 0) rfl rfl (fun c5_ => absurd c5_ (by decide)) (fun c5_ => ?_)
  refine pw_blk hT 3 (S' := (52, [some (pvI 0), some (pvI 2), some (pvI 0), some (pvI 0), some (pvI ((0 * 3) + 2))], [pvI ((pvstab 1041).getD (Int32.toNatClampNeg ((0 * 3) + 2)) 0)], M)) rfl ⟨trivial, trivial, ⟨by decide, (zr_in (n := 21) (show 2 ≤ Int32.toInt ((0 * 3) + 2) ∧ Int32.toInt ((0 * 3) + 2) ≤ 2 from (by decide)) (by decide) (by decide))⟩, trivial⟩ ?_
  exact pw_ret hT rfl (r := some (pvI ((pvstab 1041).getD (Int32.toNatClampNeg ((0 * 3) + 2)) 0))) (M' := M) ⟨rfl, rfl⟩ ⟨rfl, rfl⟩
set_option maxHeartbeats 4000000 in
set_option maxRecDepth 10000 in
theorem sf_X3_above_1 (M : pvM) (hok : pvOk M) (d : Nat) : PW 131 d (0, [some (pvI 1)], [], M) (fun r X => r = some (pvI (((pvstab 1040).getD (Int32.toNatClampNeg 1) 0))) ∧ X = M) := by
  have hT : pvdom 131 = pvD_131 := rfl
  refine pw_blk hT 1 (S' := (1, [some (pvI 1)], [pvI 1], M)) rfl ⟨trivial, trivial⟩ ?_
  refine pw_if hT (c := 1 < 0) rfl rfl (fun c1_ => absurd c1_ (by decide)) (fun c1_ => ?_)
  refine pw_blk hT 3 (S' := (9, [some (pvI 1)], [pvI (Int32.ofNat (pvstab 1040).length), pvI 1], M)) rfl ⟨trivial, trivial, (by decide), trivial⟩ ?_
  refine pw_ic hT (c := 1 < (Int32.ofNat (pvstab 1040).length)) rfl rfl (fun c2_ => ?_) (fun c2_ => absurd (by decide) c2_)
  refine pw_blk hT 3 (S' := (21, [some (pvI 1)], [pvI ((pvstab 1040).getD (Int32.toNatClampNeg 1) 0)], M)) rfl ⟨trivial, trivial, ⟨by decide, (zr_in (n := 7) (show 1 ≤ Int32.toInt 1 ∧ Int32.toInt 1 ≤ 1 from (by decide)) (by decide) (by decide))⟩, trivial⟩ ?_
  exact pw_ret hT rfl (r := some (pvI ((pvstab 1040).getD (Int32.toNatClampNeg 1) 0))) (M' := M) ⟨rfl, rfl⟩ ⟨rfl, rfl⟩
set_option maxHeartbeats 4000000 in
set_option maxRecDepth 10000 in
theorem sf_X0_bodyFrom_1_0 (M : pvM) (hok : pvOk M) (d : Nat) : PW 1 d (0, [some (pvI 1), some (pvI 0), none, none, none], [], M) (fun r X => r = some (pvI (((pvstab 1041).getD (Int32.toNatClampNeg ((0 * 3) + 0)) 0))) ∧ X = M) := by
  have hT : pvdom 1 = pvD_1 := rfl
  refine pw_blk hT 4 (S' := (4, [some (pvI 1), some (pvI 0), some (pvI 1), some (pvI 0), none], [], M)) rfl ⟨trivial, trivial, trivial, trivial, trivial⟩ ?_
  refine pw_blk hT 3 (S' := (9, [some (pvI 1), some (pvI 0), some (pvI 1), some (pvI 0), none], [pvI (Int32.ofNat (pvstab 1041).length), pvI 0], M)) rfl ⟨trivial, trivial, (by decide), trivial⟩ ?_
  refine pw_ic hT (c := (Int32.ofNat (pvstab 1041).length) ≤ 0) rfl rfl (fun c1_ => absurd c1_ (by decide)) (fun c1_ => ?_)
  refine pw_blk hT 1 (S' := (13, [some (pvI 1), some (pvI 0), some (pvI 1), some (pvI 0), none], [pvI 1], M)) rfl ⟨trivial, trivial⟩ ?_
  refine pw_if hT (c := 1 < 0) rfl rfl (fun c2_ => absurd c2_ (by decide)) (fun c2_ => ?_)
  refine pw_blk hT 7 (S' := (25, [some (pvI 1), some (pvI 0), some (pvI 1), some (pvI 0), some (pvI ((1 * 3) + 0))], [pvI ((1 * 3) + 0)], M)) rfl ⟨trivial, trivial, trivial, trivial, trivial, trivial, trivial, trivial⟩ ?_
  refine pw_if hT (c := ((1 * 3) + 0) < 0) rfl rfl (fun c3_ => absurd c3_ (by decide)) (fun c3_ => ?_)
  refine pw_blk hT 3 (S' := (34, [some (pvI 1), some (pvI 0), some (pvI 1), some (pvI 0), some (pvI ((1 * 3) + 0))], [pvI (Int32.ofNat (pvstab 1041).length), pvI ((1 * 3) + 0)], M)) rfl ⟨trivial, trivial, (by decide), trivial⟩ ?_
  refine pw_ic hT (c := (Int32.ofNat (pvstab 1041).length) ≤ ((1 * 3) + 0)) rfl rfl (fun c4_ => absurd c4_ (by decide)) (fun c4_ => ?_)
  refine pw_blk hT 3 (S' := (43, [some (pvI 1), some (pvI 0), some (pvI 1), some (pvI 0), some (pvI ((1 * 3) + 0))], [pvI ((pvstab 1041).getD (Int32.toNatClampNeg ((1 * 3) + 0)) 0)], M)) rfl ⟨trivial, trivial, ⟨by decide, (zr_in (n := 21) (show 3 ≤ Int32.toInt ((1 * 3) + 0) ∧ Int32.toInt ((1 * 3) + 0) ≤ 3 from (by decide)) (by decide) (by decide))⟩, trivial⟩ ?_
  refine pw_if hT (c := ((pvstab 1041).getD (Int32.toNatClampNeg ((1 * 3) + 0)) 0) = 0) rfl rfl (fun c5_ => ?_) (fun c5_ => absurd (by decide) c5_)
  refine pw_blk hT 1 (S' := (54, [some (pvI 1), some (pvI 0), some (pvI 1), some (pvI 0), some (pvI ((1 * 3) + 0))], [pvI 1], M)) rfl ⟨trivial, trivial⟩ ?_
  refine pw_callT hT (as := [pvI 1]) (lo1 := [some (pvI 1)]) (d1 := d) (rest := []) rfl rfl rfl rfl rfl (fun h => absurd h (by decide)) (Nat.zero_le _) rfl rfl rfl (sf_X3_above_1 M hok d) ?_
  refine pw_eqI (show ((pvstab 1040).getD (Int32.toNatClampNeg 1) 0) = 0 from by decide) ?_
  show PW 1 d (57, [some (pvI 1), some (pvI 0), some (pvI 1), some (pvI 0), some (pvI ((1 * 3) + 0))], [pvI 0], M) _
  refine pw_blk hT 3 (S' := (4, [some (pvI 1), some (pvI 0), some (pvI 0), some (pvI (0 + 1)), some (pvI ((1 * 3) + 0))], [], M)) rfl ⟨trivial, trivial, trivial, trivial⟩ ?_
  refine pw_blk hT 3 (S' := (9, [some (pvI 1), some (pvI 0), some (pvI 0), some (pvI (0 + 1)), some (pvI ((1 * 3) + 0))], [pvI (Int32.ofNat (pvstab 1041).length), pvI (0 + 1)], M)) rfl ⟨trivial, trivial, (by decide), trivial⟩ ?_
  refine pw_ic hT (c := (Int32.ofNat (pvstab 1041).length) ≤ (0 + 1)) rfl rfl (fun c11_ => absurd c11_ (by decide)) (fun c11_ => ?_)
  refine pw_blk hT 1 (S' := (13, [some (pvI 1), some (pvI 0), some (pvI 0), some (pvI (0 + 1)), some (pvI ((1 * 3) + 0))], [pvI 0], M)) rfl ⟨trivial, trivial⟩ ?_
  refine pw_if hT (c := 0 < 0) rfl rfl (fun c12_ => absurd c12_ (by decide)) (fun c12_ => ?_)
  refine pw_blk hT 7 (S' := (25, [some (pvI 1), some (pvI 0), some (pvI 0), some (pvI (0 + 1)), some (pvI ((0 * 3) + 0))], [pvI ((0 * 3) + 0)], M)) rfl ⟨trivial, trivial, trivial, trivial, trivial, trivial, trivial, trivial⟩ ?_
  refine pw_if hT (c := ((0 * 3) + 0) < 0) rfl rfl (fun c13_ => absurd c13_ (by decide)) (fun c13_ => ?_)
  refine pw_blk hT 3 (S' := (34, [some (pvI 1), some (pvI 0), some (pvI 0), some (pvI (0 + 1)), some (pvI ((0 * 3) + 0))], [pvI (Int32.ofNat (pvstab 1041).length), pvI ((0 * 3) + 0)], M)) rfl ⟨trivial, trivial, (by decide), trivial⟩ ?_
  refine pw_ic hT (c := (Int32.ofNat (pvstab 1041).length) ≤ ((0 * 3) + 0)) rfl rfl (fun c14_ => absurd c14_ (by decide)) (fun c14_ => ?_)
  refine pw_blk hT 3 (S' := (43, [some (pvI 1), some (pvI 0), some (pvI 0), some (pvI (0 + 1)), some (pvI ((0 * 3) + 0))], [pvI ((pvstab 1041).getD (Int32.toNatClampNeg ((0 * 3) + 0)) 0)], M)) rfl ⟨trivial, trivial, ⟨by decide, (zr_in (n := 21) (show 0 ≤ Int32.toInt ((0 * 3) + 0) ∧ Int32.toInt ((0 * 3) + 0) ≤ 0 from (by decide)) (by decide) (by decide))⟩, trivial⟩ ?_
  refine pw_if hT (c := ((pvstab 1041).getD (Int32.toNatClampNeg ((0 * 3) + 0)) 0) = 0) rfl rfl (fun c15_ => absurd c15_ (by decide)) (fun c15_ => ?_)
  refine pw_blk hT 3 (S' := (52, [some (pvI 1), some (pvI 0), some (pvI 0), some (pvI (0 + 1)), some (pvI ((0 * 3) + 0))], [pvI ((pvstab 1041).getD (Int32.toNatClampNeg ((0 * 3) + 0)) 0)], M)) rfl ⟨trivial, trivial, ⟨by decide, (zr_in (n := 21) (show 0 ≤ Int32.toInt ((0 * 3) + 0) ∧ Int32.toInt ((0 * 3) + 0) ≤ 0 from (by decide)) (by decide) (by decide))⟩, trivial⟩ ?_
  exact pw_ret hT rfl (r := some (pvI ((pvstab 1041).getD (Int32.toNatClampNeg ((0 * 3) + 0)) 0))) (M' := M) ⟨rfl, rfl⟩ ⟨rfl, rfl⟩
set_option maxHeartbeats 4000000 in
set_option maxRecDepth 10000 in
theorem sf_X0_bodyFrom_1_1 (M : pvM) (hok : pvOk M) (d : Nat) : PW 1 d (0, [some (pvI 1), some (pvI 1), none, none, none], [], M) (fun r X => r = some (pvI (((pvstab 1041).getD (Int32.toNatClampNeg ((1 * 3) + 1)) 0))) ∧ X = M) := by
  have hT : pvdom 1 = pvD_1 := rfl
  refine pw_blk hT 4 (S' := (4, [some (pvI 1), some (pvI 1), some (pvI 1), some (pvI 0), none], [], M)) rfl ⟨trivial, trivial, trivial, trivial, trivial⟩ ?_
  refine pw_blk hT 3 (S' := (9, [some (pvI 1), some (pvI 1), some (pvI 1), some (pvI 0), none], [pvI (Int32.ofNat (pvstab 1041).length), pvI 0], M)) rfl ⟨trivial, trivial, (by decide), trivial⟩ ?_
  refine pw_ic hT (c := (Int32.ofNat (pvstab 1041).length) ≤ 0) rfl rfl (fun c1_ => absurd c1_ (by decide)) (fun c1_ => ?_)
  refine pw_blk hT 1 (S' := (13, [some (pvI 1), some (pvI 1), some (pvI 1), some (pvI 0), none], [pvI 1], M)) rfl ⟨trivial, trivial⟩ ?_
  refine pw_if hT (c := 1 < 0) rfl rfl (fun c2_ => absurd c2_ (by decide)) (fun c2_ => ?_)
  refine pw_blk hT 7 (S' := (25, [some (pvI 1), some (pvI 1), some (pvI 1), some (pvI 0), some (pvI ((1 * 3) + 1))], [pvI ((1 * 3) + 1)], M)) rfl ⟨trivial, trivial, trivial, trivial, trivial, trivial, trivial, trivial⟩ ?_
  refine pw_if hT (c := ((1 * 3) + 1) < 0) rfl rfl (fun c3_ => absurd c3_ (by decide)) (fun c3_ => ?_)
  refine pw_blk hT 3 (S' := (34, [some (pvI 1), some (pvI 1), some (pvI 1), some (pvI 0), some (pvI ((1 * 3) + 1))], [pvI (Int32.ofNat (pvstab 1041).length), pvI ((1 * 3) + 1)], M)) rfl ⟨trivial, trivial, (by decide), trivial⟩ ?_
  refine pw_ic hT (c := (Int32.ofNat (pvstab 1041).length) ≤ ((1 * 3) + 1)) rfl rfl (fun c4_ => absurd c4_ (by decide)) (fun c4_ => ?_)
  refine pw_blk hT 3 (S' := (43, [some (pvI 1), some (pvI 1), some (pvI 1), some (pvI 0), some (pvI ((1 * 3) + 1))], [pvI ((pvstab 1041).getD (Int32.toNatClampNeg ((1 * 3) + 1)) 0)], M)) rfl ⟨trivial, trivial, ⟨by decide, (zr_in (n := 21) (show 4 ≤ Int32.toInt ((1 * 3) + 1) ∧ Int32.toInt ((1 * 3) + 1) ≤ 4 from (by decide)) (by decide) (by decide))⟩, trivial⟩ ?_
  refine pw_if hT (c := ((pvstab 1041).getD (Int32.toNatClampNeg ((1 * 3) + 1)) 0) = 0) rfl rfl (fun c5_ => absurd c5_ (by decide)) (fun c5_ => ?_)
  refine pw_blk hT 3 (S' := (52, [some (pvI 1), some (pvI 1), some (pvI 1), some (pvI 0), some (pvI ((1 * 3) + 1))], [pvI ((pvstab 1041).getD (Int32.toNatClampNeg ((1 * 3) + 1)) 0)], M)) rfl ⟨trivial, trivial, ⟨by decide, (zr_in (n := 21) (show 4 ≤ Int32.toInt ((1 * 3) + 1) ∧ Int32.toInt ((1 * 3) + 1) ≤ 4 from (by decide)) (by decide) (by decide))⟩, trivial⟩ ?_
  exact pw_ret hT rfl (r := some (pvI ((pvstab 1041).getD (Int32.toNatClampNeg ((1 * 3) + 1)) 0))) (M' := M) ⟨rfl, rfl⟩ ⟨rfl, rfl⟩
set_option maxHeartbeats 4000000 in
set_option maxRecDepth 10000 in
theorem sf_X0_bodyFrom_1_2 (M : pvM) (hok : pvOk M) (d : Nat) : PW 1 d (0, [some (pvI 1), some (pvI 2), none, none, none], [], M) (fun r X => r = some (pvI (((pvstab 1041).getD (Int32.toNatClampNeg ((0 * 3) + 2)) 0))) ∧ X = M) := by
  have hT : pvdom 1 = pvD_1 := rfl
  refine pw_blk hT 4 (S' := (4, [some (pvI 1), some (pvI 2), some (pvI 1), some (pvI 0), none], [], M)) rfl ⟨trivial, trivial, trivial, trivial, trivial⟩ ?_
  refine pw_blk hT 3 (S' := (9, [some (pvI 1), some (pvI 2), some (pvI 1), some (pvI 0), none], [pvI (Int32.ofNat (pvstab 1041).length), pvI 0], M)) rfl ⟨trivial, trivial, (by decide), trivial⟩ ?_
  refine pw_ic hT (c := (Int32.ofNat (pvstab 1041).length) ≤ 0) rfl rfl (fun c1_ => absurd c1_ (by decide)) (fun c1_ => ?_)
  refine pw_blk hT 1 (S' := (13, [some (pvI 1), some (pvI 2), some (pvI 1), some (pvI 0), none], [pvI 1], M)) rfl ⟨trivial, trivial⟩ ?_
  refine pw_if hT (c := 1 < 0) rfl rfl (fun c2_ => absurd c2_ (by decide)) (fun c2_ => ?_)
  refine pw_blk hT 7 (S' := (25, [some (pvI 1), some (pvI 2), some (pvI 1), some (pvI 0), some (pvI ((1 * 3) + 2))], [pvI ((1 * 3) + 2)], M)) rfl ⟨trivial, trivial, trivial, trivial, trivial, trivial, trivial, trivial⟩ ?_
  refine pw_if hT (c := ((1 * 3) + 2) < 0) rfl rfl (fun c3_ => absurd c3_ (by decide)) (fun c3_ => ?_)
  refine pw_blk hT 3 (S' := (34, [some (pvI 1), some (pvI 2), some (pvI 1), some (pvI 0), some (pvI ((1 * 3) + 2))], [pvI (Int32.ofNat (pvstab 1041).length), pvI ((1 * 3) + 2)], M)) rfl ⟨trivial, trivial, (by decide), trivial⟩ ?_
  refine pw_ic hT (c := (Int32.ofNat (pvstab 1041).length) ≤ ((1 * 3) + 2)) rfl rfl (fun c4_ => absurd c4_ (by decide)) (fun c4_ => ?_)
  refine pw_blk hT 3 (S' := (43, [some (pvI 1), some (pvI 2), some (pvI 1), some (pvI 0), some (pvI ((1 * 3) + 2))], [pvI ((pvstab 1041).getD (Int32.toNatClampNeg ((1 * 3) + 2)) 0)], M)) rfl ⟨trivial, trivial, ⟨by decide, (zr_in (n := 21) (show 5 ≤ Int32.toInt ((1 * 3) + 2) ∧ Int32.toInt ((1 * 3) + 2) ≤ 5 from (by decide)) (by decide) (by decide))⟩, trivial⟩ ?_
  refine pw_if hT (c := ((pvstab 1041).getD (Int32.toNatClampNeg ((1 * 3) + 2)) 0) = 0) rfl rfl (fun c5_ => ?_) (fun c5_ => absurd (by decide) c5_)
  refine pw_blk hT 1 (S' := (54, [some (pvI 1), some (pvI 2), some (pvI 1), some (pvI 0), some (pvI ((1 * 3) + 2))], [pvI 1], M)) rfl ⟨trivial, trivial⟩ ?_
  refine pw_callT hT (as := [pvI 1]) (lo1 := [some (pvI 1)]) (d1 := d) (rest := []) rfl rfl rfl rfl rfl (fun h => absurd h (by decide)) (Nat.zero_le _) rfl rfl rfl (sf_X3_above_1 M hok d) ?_
  refine pw_eqI (show ((pvstab 1040).getD (Int32.toNatClampNeg 1) 0) = 0 from by decide) ?_
  show PW 1 d (57, [some (pvI 1), some (pvI 2), some (pvI 1), some (pvI 0), some (pvI ((1 * 3) + 2))], [pvI 0], M) _
  refine pw_blk hT 3 (S' := (4, [some (pvI 1), some (pvI 2), some (pvI 0), some (pvI (0 + 1)), some (pvI ((1 * 3) + 2))], [], M)) rfl ⟨trivial, trivial, trivial, trivial⟩ ?_
  refine pw_blk hT 3 (S' := (9, [some (pvI 1), some (pvI 2), some (pvI 0), some (pvI (0 + 1)), some (pvI ((1 * 3) + 2))], [pvI (Int32.ofNat (pvstab 1041).length), pvI (0 + 1)], M)) rfl ⟨trivial, trivial, (by decide), trivial⟩ ?_
  refine pw_ic hT (c := (Int32.ofNat (pvstab 1041).length) ≤ (0 + 1)) rfl rfl (fun c11_ => absurd c11_ (by decide)) (fun c11_ => ?_)
  refine pw_blk hT 1 (S' := (13, [some (pvI 1), some (pvI 2), some (pvI 0), some (pvI (0 + 1)), some (pvI ((1 * 3) + 2))], [pvI 0], M)) rfl ⟨trivial, trivial⟩ ?_
  refine pw_if hT (c := 0 < 0) rfl rfl (fun c12_ => absurd c12_ (by decide)) (fun c12_ => ?_)
  refine pw_blk hT 7 (S' := (25, [some (pvI 1), some (pvI 2), some (pvI 0), some (pvI (0 + 1)), some (pvI ((0 * 3) + 2))], [pvI ((0 * 3) + 2)], M)) rfl ⟨trivial, trivial, trivial, trivial, trivial, trivial, trivial, trivial⟩ ?_
  refine pw_if hT (c := ((0 * 3) + 2) < 0) rfl rfl (fun c13_ => absurd c13_ (by decide)) (fun c13_ => ?_)
  refine pw_blk hT 3 (S' := (34, [some (pvI 1), some (pvI 2), some (pvI 0), some (pvI (0 + 1)), some (pvI ((0 * 3) + 2))], [pvI (Int32.ofNat (pvstab 1041).length), pvI ((0 * 3) + 2)], M)) rfl ⟨trivial, trivial, (by decide), trivial⟩ ?_
  refine pw_ic hT (c := (Int32.ofNat (pvstab 1041).length) ≤ ((0 * 3) + 2)) rfl rfl (fun c14_ => absurd c14_ (by decide)) (fun c14_ => ?_)
  refine pw_blk hT 3 (S' := (43, [some (pvI 1), some (pvI 2), some (pvI 0), some (pvI (0 + 1)), some (pvI ((0 * 3) + 2))], [pvI ((pvstab 1041).getD (Int32.toNatClampNeg ((0 * 3) + 2)) 0)], M)) rfl ⟨trivial, trivial, ⟨by decide, (zr_in (n := 21) (show 2 ≤ Int32.toInt ((0 * 3) + 2) ∧ Int32.toInt ((0 * 3) + 2) ≤ 2 from (by decide)) (by decide) (by decide))⟩, trivial⟩ ?_
  refine pw_if hT (c := ((pvstab 1041).getD (Int32.toNatClampNeg ((0 * 3) + 2)) 0) = 0) rfl rfl (fun c15_ => absurd c15_ (by decide)) (fun c15_ => ?_)
  refine pw_blk hT 3 (S' := (52, [some (pvI 1), some (pvI 2), some (pvI 0), some (pvI (0 + 1)), some (pvI ((0 * 3) + 2))], [pvI ((pvstab 1041).getD (Int32.toNatClampNeg ((0 * 3) + 2)) 0)], M)) rfl ⟨trivial, trivial, ⟨by decide, (zr_in (n := 21) (show 2 ≤ Int32.toInt ((0 * 3) + 2) ∧ Int32.toInt ((0 * 3) + 2) ≤ 2 from (by decide)) (by decide) (by decide))⟩, trivial⟩ ?_
  exact pw_ret hT rfl (r := some (pvI ((pvstab 1041).getD (Int32.toNatClampNeg ((0 * 3) + 2)) 0))) (M' := M) ⟨rfl, rfl⟩ ⟨rfl, rfl⟩
set_option maxHeartbeats 4000000 in
set_option maxRecDepth 10000 in
theorem sf_X0_bodyFrom_2_0 (M : pvM) (hok : pvOk M) (d : Nat) : PW 1 d (0, [some (pvI 2), some (pvI 0), none, none, none], [], M) (fun r X => r = some (pvI (((pvstab 1041).getD (Int32.toNatClampNeg ((2 * 3) + 0)) 0))) ∧ X = M) := by
  have hT : pvdom 1 = pvD_1 := rfl
  refine pw_blk hT 4 (S' := (4, [some (pvI 2), some (pvI 0), some (pvI 2), some (pvI 0), none], [], M)) rfl ⟨trivial, trivial, trivial, trivial, trivial⟩ ?_
  refine pw_blk hT 3 (S' := (9, [some (pvI 2), some (pvI 0), some (pvI 2), some (pvI 0), none], [pvI (Int32.ofNat (pvstab 1041).length), pvI 0], M)) rfl ⟨trivial, trivial, (by decide), trivial⟩ ?_
  refine pw_ic hT (c := (Int32.ofNat (pvstab 1041).length) ≤ 0) rfl rfl (fun c1_ => absurd c1_ (by decide)) (fun c1_ => ?_)
  refine pw_blk hT 1 (S' := (13, [some (pvI 2), some (pvI 0), some (pvI 2), some (pvI 0), none], [pvI 2], M)) rfl ⟨trivial, trivial⟩ ?_
  refine pw_if hT (c := 2 < 0) rfl rfl (fun c2_ => absurd c2_ (by decide)) (fun c2_ => ?_)
  refine pw_blk hT 7 (S' := (25, [some (pvI 2), some (pvI 0), some (pvI 2), some (pvI 0), some (pvI ((2 * 3) + 0))], [pvI ((2 * 3) + 0)], M)) rfl ⟨trivial, trivial, trivial, trivial, trivial, trivial, trivial, trivial⟩ ?_
  refine pw_if hT (c := ((2 * 3) + 0) < 0) rfl rfl (fun c3_ => absurd c3_ (by decide)) (fun c3_ => ?_)
  refine pw_blk hT 3 (S' := (34, [some (pvI 2), some (pvI 0), some (pvI 2), some (pvI 0), some (pvI ((2 * 3) + 0))], [pvI (Int32.ofNat (pvstab 1041).length), pvI ((2 * 3) + 0)], M)) rfl ⟨trivial, trivial, (by decide), trivial⟩ ?_
  refine pw_ic hT (c := (Int32.ofNat (pvstab 1041).length) ≤ ((2 * 3) + 0)) rfl rfl (fun c4_ => absurd c4_ (by decide)) (fun c4_ => ?_)
  refine pw_blk hT 3 (S' := (43, [some (pvI 2), some (pvI 0), some (pvI 2), some (pvI 0), some (pvI ((2 * 3) + 0))], [pvI ((pvstab 1041).getD (Int32.toNatClampNeg ((2 * 3) + 0)) 0)], M)) rfl ⟨trivial, trivial, ⟨by decide, (zr_in (n := 21) (show 6 ≤ Int32.toInt ((2 * 3) + 0) ∧ Int32.toInt ((2 * 3) + 0) ≤ 6 from (by decide)) (by decide) (by decide))⟩, trivial⟩ ?_
  refine pw_if hT (c := ((pvstab 1041).getD (Int32.toNatClampNeg ((2 * 3) + 0)) 0) = 0) rfl rfl (fun c5_ => absurd c5_ (by decide)) (fun c5_ => ?_)
  refine pw_blk hT 3 (S' := (52, [some (pvI 2), some (pvI 0), some (pvI 2), some (pvI 0), some (pvI ((2 * 3) + 0))], [pvI ((pvstab 1041).getD (Int32.toNatClampNeg ((2 * 3) + 0)) 0)], M)) rfl ⟨trivial, trivial, ⟨by decide, (zr_in (n := 21) (show 6 ≤ Int32.toInt ((2 * 3) + 0) ∧ Int32.toInt ((2 * 3) + 0) ≤ 6 from (by decide)) (by decide) (by decide))⟩, trivial⟩ ?_
  exact pw_ret hT rfl (r := some (pvI ((pvstab 1041).getD (Int32.toNatClampNeg ((2 * 3) + 0)) 0))) (M' := M) ⟨rfl, rfl⟩ ⟨rfl, rfl⟩
set_option maxHeartbeats 4000000 in
set_option maxRecDepth 10000 in
theorem sf_X3_above_2 (M : pvM) (hok : pvOk M) (d : Nat) : PW 131 d (0, [some (pvI 2)], [], M) (fun r X => r = some (pvI (((pvstab 1040).getD (Int32.toNatClampNeg 2) 0))) ∧ X = M) := by
  have hT : pvdom 131 = pvD_131 := rfl
  refine pw_blk hT 1 (S' := (1, [some (pvI 2)], [pvI 2], M)) rfl ⟨trivial, trivial⟩ ?_
  refine pw_if hT (c := 2 < 0) rfl rfl (fun c1_ => absurd c1_ (by decide)) (fun c1_ => ?_)
  refine pw_blk hT 3 (S' := (9, [some (pvI 2)], [pvI (Int32.ofNat (pvstab 1040).length), pvI 2], M)) rfl ⟨trivial, trivial, (by decide), trivial⟩ ?_
  refine pw_ic hT (c := 2 < (Int32.ofNat (pvstab 1040).length)) rfl rfl (fun c2_ => ?_) (fun c2_ => absurd (by decide) c2_)
  refine pw_blk hT 3 (S' := (21, [some (pvI 2)], [pvI ((pvstab 1040).getD (Int32.toNatClampNeg 2) 0)], M)) rfl ⟨trivial, trivial, ⟨by decide, (zr_in (n := 7) (show 2 ≤ Int32.toInt 2 ∧ Int32.toInt 2 ≤ 2 from (by decide)) (by decide) (by decide))⟩, trivial⟩ ?_
  exact pw_ret hT rfl (r := some (pvI ((pvstab 1040).getD (Int32.toNatClampNeg 2) 0))) (M' := M) ⟨rfl, rfl⟩ ⟨rfl, rfl⟩
set_option maxHeartbeats 4000000 in
set_option maxRecDepth 10000 in
theorem sf_X0_bodyFrom_2_1 (M : pvM) (hok : pvOk M) (d : Nat) : PW 1 d (0, [some (pvI 2), some (pvI 1), none, none, none], [], M) (fun r X => r = some (pvI (((pvstab 1041).getD (Int32.toNatClampNeg ((0 * 3) + 1)) 0))) ∧ X = M) := by
  have hT : pvdom 1 = pvD_1 := rfl
  refine pw_blk hT 4 (S' := (4, [some (pvI 2), some (pvI 1), some (pvI 2), some (pvI 0), none], [], M)) rfl ⟨trivial, trivial, trivial, trivial, trivial⟩ ?_
  refine pw_blk hT 3 (S' := (9, [some (pvI 2), some (pvI 1), some (pvI 2), some (pvI 0), none], [pvI (Int32.ofNat (pvstab 1041).length), pvI 0], M)) rfl ⟨trivial, trivial, (by decide), trivial⟩ ?_
  refine pw_ic hT (c := (Int32.ofNat (pvstab 1041).length) ≤ 0) rfl rfl (fun c1_ => absurd c1_ (by decide)) (fun c1_ => ?_)
  refine pw_blk hT 1 (S' := (13, [some (pvI 2), some (pvI 1), some (pvI 2), some (pvI 0), none], [pvI 2], M)) rfl ⟨trivial, trivial⟩ ?_
  refine pw_if hT (c := 2 < 0) rfl rfl (fun c2_ => absurd c2_ (by decide)) (fun c2_ => ?_)
  refine pw_blk hT 7 (S' := (25, [some (pvI 2), some (pvI 1), some (pvI 2), some (pvI 0), some (pvI ((2 * 3) + 1))], [pvI ((2 * 3) + 1)], M)) rfl ⟨trivial, trivial, trivial, trivial, trivial, trivial, trivial, trivial⟩ ?_
  refine pw_if hT (c := ((2 * 3) + 1) < 0) rfl rfl (fun c3_ => absurd c3_ (by decide)) (fun c3_ => ?_)
  refine pw_blk hT 3 (S' := (34, [some (pvI 2), some (pvI 1), some (pvI 2), some (pvI 0), some (pvI ((2 * 3) + 1))], [pvI (Int32.ofNat (pvstab 1041).length), pvI ((2 * 3) + 1)], M)) rfl ⟨trivial, trivial, (by decide), trivial⟩ ?_
  refine pw_ic hT (c := (Int32.ofNat (pvstab 1041).length) ≤ ((2 * 3) + 1)) rfl rfl (fun c4_ => absurd c4_ (by decide)) (fun c4_ => ?_)
  refine pw_blk hT 3 (S' := (43, [some (pvI 2), some (pvI 1), some (pvI 2), some (pvI 0), some (pvI ((2 * 3) + 1))], [pvI ((pvstab 1041).getD (Int32.toNatClampNeg ((2 * 3) + 1)) 0)], M)) rfl ⟨trivial, trivial, ⟨by decide, (zr_in (n := 21) (show 7 ≤ Int32.toInt ((2 * 3) + 1) ∧ Int32.toInt ((2 * 3) + 1) ≤ 7 from (by decide)) (by decide) (by decide))⟩, trivial⟩ ?_
  refine pw_if hT (c := ((pvstab 1041).getD (Int32.toNatClampNeg ((2 * 3) + 1)) 0) = 0) rfl rfl (fun c5_ => ?_) (fun c5_ => absurd (by decide) c5_)
  refine pw_blk hT 1 (S' := (54, [some (pvI 2), some (pvI 1), some (pvI 2), some (pvI 0), some (pvI ((2 * 3) + 1))], [pvI 2], M)) rfl ⟨trivial, trivial⟩ ?_
  refine pw_callT hT (as := [pvI 2]) (lo1 := [some (pvI 2)]) (d1 := d) (rest := []) rfl rfl rfl rfl rfl (fun h => absurd h (by decide)) (Nat.zero_le _) rfl rfl rfl (sf_X3_above_2 M hok d) ?_
  refine pw_eqI (show ((pvstab 1040).getD (Int32.toNatClampNeg 2) 0) = 0 from by decide) ?_
  show PW 1 d (57, [some (pvI 2), some (pvI 1), some (pvI 2), some (pvI 0), some (pvI ((2 * 3) + 1))], [pvI 0], M) _
  refine pw_blk hT 3 (S' := (4, [some (pvI 2), some (pvI 1), some (pvI 0), some (pvI (0 + 1)), some (pvI ((2 * 3) + 1))], [], M)) rfl ⟨trivial, trivial, trivial, trivial⟩ ?_
  refine pw_blk hT 3 (S' := (9, [some (pvI 2), some (pvI 1), some (pvI 0), some (pvI (0 + 1)), some (pvI ((2 * 3) + 1))], [pvI (Int32.ofNat (pvstab 1041).length), pvI (0 + 1)], M)) rfl ⟨trivial, trivial, (by decide), trivial⟩ ?_
  refine pw_ic hT (c := (Int32.ofNat (pvstab 1041).length) ≤ (0 + 1)) rfl rfl (fun c11_ => absurd c11_ (by decide)) (fun c11_ => ?_)
  refine pw_blk hT 1 (S' := (13, [some (pvI 2), some (pvI 1), some (pvI 0), some (pvI (0 + 1)), some (pvI ((2 * 3) + 1))], [pvI 0], M)) rfl ⟨trivial, trivial⟩ ?_
  refine pw_if hT (c := 0 < 0) rfl rfl (fun c12_ => absurd c12_ (by decide)) (fun c12_ => ?_)
  refine pw_blk hT 7 (S' := (25, [some (pvI 2), some (pvI 1), some (pvI 0), some (pvI (0 + 1)), some (pvI ((0 * 3) + 1))], [pvI ((0 * 3) + 1)], M)) rfl ⟨trivial, trivial, trivial, trivial, trivial, trivial, trivial, trivial⟩ ?_
  refine pw_if hT (c := ((0 * 3) + 1) < 0) rfl rfl (fun c13_ => absurd c13_ (by decide)) (fun c13_ => ?_)
  refine pw_blk hT 3 (S' := (34, [some (pvI 2), some (pvI 1), some (pvI 0), some (pvI (0 + 1)), some (pvI ((0 * 3) + 1))], [pvI (Int32.ofNat (pvstab 1041).length), pvI ((0 * 3) + 1)], M)) rfl ⟨trivial, trivial, (by decide), trivial⟩ ?_
  refine pw_ic hT (c := (Int32.ofNat (pvstab 1041).length) ≤ ((0 * 3) + 1)) rfl rfl (fun c14_ => absurd c14_ (by decide)) (fun c14_ => ?_)
  refine pw_blk hT 3 (S' := (43, [some (pvI 2), some (pvI 1), some (pvI 0), some (pvI (0 + 1)), some (pvI ((0 * 3) + 1))], [pvI ((pvstab 1041).getD (Int32.toNatClampNeg ((0 * 3) + 1)) 0)], M)) rfl ⟨trivial, trivial, ⟨by decide, (zr_in (n := 21) (show 1 ≤ Int32.toInt ((0 * 3) + 1) ∧ Int32.toInt ((0 * 3) + 1) ≤ 1 from (by decide)) (by decide) (by decide))⟩, trivial⟩ ?_
  refine pw_if hT (c := ((pvstab 1041).getD (Int32.toNatClampNeg ((0 * 3) + 1)) 0) = 0) rfl rfl (fun c15_ => absurd c15_ (by decide)) (fun c15_ => ?_)
  refine pw_blk hT 3 (S' := (52, [some (pvI 2), some (pvI 1), some (pvI 0), some (pvI (0 + 1)), some (pvI ((0 * 3) + 1))], [pvI ((pvstab 1041).getD (Int32.toNatClampNeg ((0 * 3) + 1)) 0)], M)) rfl ⟨trivial, trivial, ⟨by decide, (zr_in (n := 21) (show 1 ≤ Int32.toInt ((0 * 3) + 1) ∧ Int32.toInt ((0 * 3) + 1) ≤ 1 from (by decide)) (by decide) (by decide))⟩, trivial⟩ ?_
  exact pw_ret hT rfl (r := some (pvI ((pvstab 1041).getD (Int32.toNatClampNeg ((0 * 3) + 1)) 0))) (M' := M) ⟨rfl, rfl⟩ ⟨rfl, rfl⟩
set_option maxHeartbeats 4000000 in
set_option maxRecDepth 10000 in
theorem sf_X0_bodyFrom_2_2 (M : pvM) (hok : pvOk M) (d : Nat) : PW 1 d (0, [some (pvI 2), some (pvI 2), none, none, none], [], M) (fun r X => r = some (pvI (((pvstab 1041).getD (Int32.toNatClampNeg ((0 * 3) + 2)) 0))) ∧ X = M) := by
  have hT : pvdom 1 = pvD_1 := rfl
  refine pw_blk hT 4 (S' := (4, [some (pvI 2), some (pvI 2), some (pvI 2), some (pvI 0), none], [], M)) rfl ⟨trivial, trivial, trivial, trivial, trivial⟩ ?_
  refine pw_blk hT 3 (S' := (9, [some (pvI 2), some (pvI 2), some (pvI 2), some (pvI 0), none], [pvI (Int32.ofNat (pvstab 1041).length), pvI 0], M)) rfl ⟨trivial, trivial, (by decide), trivial⟩ ?_
  refine pw_ic hT (c := (Int32.ofNat (pvstab 1041).length) ≤ 0) rfl rfl (fun c1_ => absurd c1_ (by decide)) (fun c1_ => ?_)
  refine pw_blk hT 1 (S' := (13, [some (pvI 2), some (pvI 2), some (pvI 2), some (pvI 0), none], [pvI 2], M)) rfl ⟨trivial, trivial⟩ ?_
  refine pw_if hT (c := 2 < 0) rfl rfl (fun c2_ => absurd c2_ (by decide)) (fun c2_ => ?_)
  refine pw_blk hT 7 (S' := (25, [some (pvI 2), some (pvI 2), some (pvI 2), some (pvI 0), some (pvI ((2 * 3) + 2))], [pvI ((2 * 3) + 2)], M)) rfl ⟨trivial, trivial, trivial, trivial, trivial, trivial, trivial, trivial⟩ ?_
  refine pw_if hT (c := ((2 * 3) + 2) < 0) rfl rfl (fun c3_ => absurd c3_ (by decide)) (fun c3_ => ?_)
  refine pw_blk hT 3 (S' := (34, [some (pvI 2), some (pvI 2), some (pvI 2), some (pvI 0), some (pvI ((2 * 3) + 2))], [pvI (Int32.ofNat (pvstab 1041).length), pvI ((2 * 3) + 2)], M)) rfl ⟨trivial, trivial, (by decide), trivial⟩ ?_
  refine pw_ic hT (c := (Int32.ofNat (pvstab 1041).length) ≤ ((2 * 3) + 2)) rfl rfl (fun c4_ => absurd c4_ (by decide)) (fun c4_ => ?_)
  refine pw_blk hT 3 (S' := (43, [some (pvI 2), some (pvI 2), some (pvI 2), some (pvI 0), some (pvI ((2 * 3) + 2))], [pvI ((pvstab 1041).getD (Int32.toNatClampNeg ((2 * 3) + 2)) 0)], M)) rfl ⟨trivial, trivial, ⟨by decide, (zr_in (n := 21) (show 8 ≤ Int32.toInt ((2 * 3) + 2) ∧ Int32.toInt ((2 * 3) + 2) ≤ 8 from (by decide)) (by decide) (by decide))⟩, trivial⟩ ?_
  refine pw_if hT (c := ((pvstab 1041).getD (Int32.toNatClampNeg ((2 * 3) + 2)) 0) = 0) rfl rfl (fun c5_ => ?_) (fun c5_ => absurd (by decide) c5_)
  refine pw_blk hT 1 (S' := (54, [some (pvI 2), some (pvI 2), some (pvI 2), some (pvI 0), some (pvI ((2 * 3) + 2))], [pvI 2], M)) rfl ⟨trivial, trivial⟩ ?_
  refine pw_callT hT (as := [pvI 2]) (lo1 := [some (pvI 2)]) (d1 := d) (rest := []) rfl rfl rfl rfl rfl (fun h => absurd h (by decide)) (Nat.zero_le _) rfl rfl rfl (sf_X3_above_2 M hok d) ?_
  refine pw_eqI (show ((pvstab 1040).getD (Int32.toNatClampNeg 2) 0) = 0 from by decide) ?_
  show PW 1 d (57, [some (pvI 2), some (pvI 2), some (pvI 2), some (pvI 0), some (pvI ((2 * 3) + 2))], [pvI 0], M) _
  refine pw_blk hT 3 (S' := (4, [some (pvI 2), some (pvI 2), some (pvI 0), some (pvI (0 + 1)), some (pvI ((2 * 3) + 2))], [], M)) rfl ⟨trivial, trivial, trivial, trivial⟩ ?_
  refine pw_blk hT 3 (S' := (9, [some (pvI 2), some (pvI 2), some (pvI 0), some (pvI (0 + 1)), some (pvI ((2 * 3) + 2))], [pvI (Int32.ofNat (pvstab 1041).length), pvI (0 + 1)], M)) rfl ⟨trivial, trivial, (by decide), trivial⟩ ?_
  refine pw_ic hT (c := (Int32.ofNat (pvstab 1041).length) ≤ (0 + 1)) rfl rfl (fun c11_ => absurd c11_ (by decide)) (fun c11_ => ?_)
  refine pw_blk hT 1 (S' := (13, [some (pvI 2), some (pvI 2), some (pvI 0), some (pvI (0 + 1)), some (pvI ((2 * 3) + 2))], [pvI 0], M)) rfl ⟨trivial, trivial⟩ ?_
  refine pw_if hT (c := 0 < 0) rfl rfl (fun c12_ => absurd c12_ (by decide)) (fun c12_ => ?_)
  refine pw_blk hT 7 (S' := (25, [some (pvI 2), some (pvI 2), some (pvI 0), some (pvI (0 + 1)), some (pvI ((0 * 3) + 2))], [pvI ((0 * 3) + 2)], M)) rfl ⟨trivial, trivial, trivial, trivial, trivial, trivial, trivial, trivial⟩ ?_
  refine pw_if hT (c := ((0 * 3) + 2) < 0) rfl rfl (fun c13_ => absurd c13_ (by decide)) (fun c13_ => ?_)
  refine pw_blk hT 3 (S' := (34, [some (pvI 2), some (pvI 2), some (pvI 0), some (pvI (0 + 1)), some (pvI ((0 * 3) + 2))], [pvI (Int32.ofNat (pvstab 1041).length), pvI ((0 * 3) + 2)], M)) rfl ⟨trivial, trivial, (by decide), trivial⟩ ?_
  refine pw_ic hT (c := (Int32.ofNat (pvstab 1041).length) ≤ ((0 * 3) + 2)) rfl rfl (fun c14_ => absurd c14_ (by decide)) (fun c14_ => ?_)
  refine pw_blk hT 3 (S' := (43, [some (pvI 2), some (pvI 2), some (pvI 0), some (pvI (0 + 1)), some (pvI ((0 * 3) + 2))], [pvI ((pvstab 1041).getD (Int32.toNatClampNeg ((0 * 3) + 2)) 0)], M)) rfl ⟨trivial, trivial, ⟨by decide, (zr_in (n := 21) (show 2 ≤ Int32.toInt ((0 * 3) + 2) ∧ Int32.toInt ((0 * 3) + 2) ≤ 2 from (by decide)) (by decide) (by decide))⟩, trivial⟩ ?_
  refine pw_if hT (c := ((pvstab 1041).getD (Int32.toNatClampNeg ((0 * 3) + 2)) 0) = 0) rfl rfl (fun c15_ => absurd c15_ (by decide)) (fun c15_ => ?_)
  refine pw_blk hT 3 (S' := (52, [some (pvI 2), some (pvI 2), some (pvI 0), some (pvI (0 + 1)), some (pvI ((0 * 3) + 2))], [pvI ((pvstab 1041).getD (Int32.toNatClampNeg ((0 * 3) + 2)) 0)], M)) rfl ⟨trivial, trivial, ⟨by decide, (zr_in (n := 21) (show 2 ≤ Int32.toInt ((0 * 3) + 2) ∧ Int32.toInt ((0 * 3) + 2) ≤ 2 from (by decide)) (by decide) (by decide))⟩, trivial⟩ ?_
  exact pw_ret hT rfl (r := some (pvI ((pvstab 1041).getD (Int32.toNatClampNeg ((0 * 3) + 2)) 0))) (M' := M) ⟨rfl, rfl⟩ ⟨rfl, rfl⟩
set_option maxHeartbeats 4000000 in
set_option maxRecDepth 10000 in
theorem sf_X3_above_3 (M : pvM) (hok : pvOk M) (d : Nat) : PW 131 d (0, [some (pvI 3)], [], M) (fun r X => r = some (pvI (((pvstab 1040).getD (Int32.toNatClampNeg 3) 0))) ∧ X = M) := by
  have hT : pvdom 131 = pvD_131 := rfl
  refine pw_blk hT 1 (S' := (1, [some (pvI 3)], [pvI 3], M)) rfl ⟨trivial, trivial⟩ ?_
  refine pw_if hT (c := 3 < 0) rfl rfl (fun c1_ => absurd c1_ (by decide)) (fun c1_ => ?_)
  refine pw_blk hT 3 (S' := (9, [some (pvI 3)], [pvI (Int32.ofNat (pvstab 1040).length), pvI 3], M)) rfl ⟨trivial, trivial, (by decide), trivial⟩ ?_
  refine pw_ic hT (c := 3 < (Int32.ofNat (pvstab 1040).length)) rfl rfl (fun c2_ => ?_) (fun c2_ => absurd (by decide) c2_)
  refine pw_blk hT 3 (S' := (21, [some (pvI 3)], [pvI ((pvstab 1040).getD (Int32.toNatClampNeg 3) 0)], M)) rfl ⟨trivial, trivial, ⟨by decide, (zr_in (n := 7) (show 3 ≤ Int32.toInt 3 ∧ Int32.toInt 3 ≤ 3 from (by decide)) (by decide) (by decide))⟩, trivial⟩ ?_
  exact pw_ret hT rfl (r := some (pvI ((pvstab 1040).getD (Int32.toNatClampNeg 3) 0))) (M' := M) ⟨rfl, rfl⟩ ⟨rfl, rfl⟩
set_option maxHeartbeats 4000000 in
set_option maxRecDepth 10000 in
theorem sf_X0_bodyFrom_3_0 (M : pvM) (hok : pvOk M) (d : Nat) : PW 1 d (0, [some (pvI 3), some (pvI 0), none, none, none], [], M) (fun r X => r = some (pvI (((pvstab 1041).getD (Int32.toNatClampNeg ((0 * 3) + 0)) 0))) ∧ X = M) := by
  have hT : pvdom 1 = pvD_1 := rfl
  refine pw_blk hT 4 (S' := (4, [some (pvI 3), some (pvI 0), some (pvI 3), some (pvI 0), none], [], M)) rfl ⟨trivial, trivial, trivial, trivial, trivial⟩ ?_
  refine pw_blk hT 3 (S' := (9, [some (pvI 3), some (pvI 0), some (pvI 3), some (pvI 0), none], [pvI (Int32.ofNat (pvstab 1041).length), pvI 0], M)) rfl ⟨trivial, trivial, (by decide), trivial⟩ ?_
  refine pw_ic hT (c := (Int32.ofNat (pvstab 1041).length) ≤ 0) rfl rfl (fun c1_ => absurd c1_ (by decide)) (fun c1_ => ?_)
  refine pw_blk hT 1 (S' := (13, [some (pvI 3), some (pvI 0), some (pvI 3), some (pvI 0), none], [pvI 3], M)) rfl ⟨trivial, trivial⟩ ?_
  refine pw_if hT (c := 3 < 0) rfl rfl (fun c2_ => absurd c2_ (by decide)) (fun c2_ => ?_)
  refine pw_blk hT 7 (S' := (25, [some (pvI 3), some (pvI 0), some (pvI 3), some (pvI 0), some (pvI ((3 * 3) + 0))], [pvI ((3 * 3) + 0)], M)) rfl ⟨trivial, trivial, trivial, trivial, trivial, trivial, trivial, trivial⟩ ?_
  refine pw_if hT (c := ((3 * 3) + 0) < 0) rfl rfl (fun c3_ => absurd c3_ (by decide)) (fun c3_ => ?_)
  refine pw_blk hT 3 (S' := (34, [some (pvI 3), some (pvI 0), some (pvI 3), some (pvI 0), some (pvI ((3 * 3) + 0))], [pvI (Int32.ofNat (pvstab 1041).length), pvI ((3 * 3) + 0)], M)) rfl ⟨trivial, trivial, (by decide), trivial⟩ ?_
  refine pw_ic hT (c := (Int32.ofNat (pvstab 1041).length) ≤ ((3 * 3) + 0)) rfl rfl (fun c4_ => absurd c4_ (by decide)) (fun c4_ => ?_)
  refine pw_blk hT 3 (S' := (43, [some (pvI 3), some (pvI 0), some (pvI 3), some (pvI 0), some (pvI ((3 * 3) + 0))], [pvI ((pvstab 1041).getD (Int32.toNatClampNeg ((3 * 3) + 0)) 0)], M)) rfl ⟨trivial, trivial, ⟨by decide, (zr_in (n := 21) (show 9 ≤ Int32.toInt ((3 * 3) + 0) ∧ Int32.toInt ((3 * 3) + 0) ≤ 9 from (by decide)) (by decide) (by decide))⟩, trivial⟩ ?_
  refine pw_if hT (c := ((pvstab 1041).getD (Int32.toNatClampNeg ((3 * 3) + 0)) 0) = 0) rfl rfl (fun c5_ => ?_) (fun c5_ => absurd (by decide) c5_)
  refine pw_blk hT 1 (S' := (54, [some (pvI 3), some (pvI 0), some (pvI 3), some (pvI 0), some (pvI ((3 * 3) + 0))], [pvI 3], M)) rfl ⟨trivial, trivial⟩ ?_
  refine pw_callT hT (as := [pvI 3]) (lo1 := [some (pvI 3)]) (d1 := d) (rest := []) rfl rfl rfl rfl rfl (fun h => absurd h (by decide)) (Nat.zero_le _) rfl rfl rfl (sf_X3_above_3 M hok d) ?_
  refine pw_eqI (show ((pvstab 1040).getD (Int32.toNatClampNeg 3) 0) = 0 from by decide) ?_
  show PW 1 d (57, [some (pvI 3), some (pvI 0), some (pvI 3), some (pvI 0), some (pvI ((3 * 3) + 0))], [pvI 0], M) _
  refine pw_blk hT 3 (S' := (4, [some (pvI 3), some (pvI 0), some (pvI 0), some (pvI (0 + 1)), some (pvI ((3 * 3) + 0))], [], M)) rfl ⟨trivial, trivial, trivial, trivial⟩ ?_
  refine pw_blk hT 3 (S' := (9, [some (pvI 3), some (pvI 0), some (pvI 0), some (pvI (0 + 1)), some (pvI ((3 * 3) + 0))], [pvI (Int32.ofNat (pvstab 1041).length), pvI (0 + 1)], M)) rfl ⟨trivial, trivial, (by decide), trivial⟩ ?_
  refine pw_ic hT (c := (Int32.ofNat (pvstab 1041).length) ≤ (0 + 1)) rfl rfl (fun c11_ => absurd c11_ (by decide)) (fun c11_ => ?_)
  refine pw_blk hT 1 (S' := (13, [some (pvI 3), some (pvI 0), some (pvI 0), some (pvI (0 + 1)), some (pvI ((3 * 3) + 0))], [pvI 0], M)) rfl ⟨trivial, trivial⟩ ?_
  refine pw_if hT (c := 0 < 0) rfl rfl (fun c12_ => absurd c12_ (by decide)) (fun c12_ => ?_)
  refine pw_blk hT 7 (S' := (25, [some (pvI 3), some (pvI 0), some (pvI 0), some (pvI (0 + 1)), some (pvI ((0 * 3) + 0))], [pvI ((0 * 3) + 0)], M)) rfl ⟨trivial, trivial, trivial, trivial, trivial, trivial, trivial, trivial⟩ ?_
  refine pw_if hT (c := ((0 * 3) + 0) < 0) rfl rfl (fun c13_ => absurd c13_ (by decide)) (fun c13_ => ?_)
  refine pw_blk hT 3 (S' := (34, [some (pvI 3), some (pvI 0), some (pvI 0), some (pvI (0 + 1)), some (pvI ((0 * 3) + 0))], [pvI (Int32.ofNat (pvstab 1041).length), pvI ((0 * 3) + 0)], M)) rfl ⟨trivial, trivial, (by decide), trivial⟩ ?_
  refine pw_ic hT (c := (Int32.ofNat (pvstab 1041).length) ≤ ((0 * 3) + 0)) rfl rfl (fun c14_ => absurd c14_ (by decide)) (fun c14_ => ?_)
  refine pw_blk hT 3 (S' := (43, [some (pvI 3), some (pvI 0), some (pvI 0), some (pvI (0 + 1)), some (pvI ((0 * 3) + 0))], [pvI ((pvstab 1041).getD (Int32.toNatClampNeg ((0 * 3) + 0)) 0)], M)) rfl ⟨trivial, trivial, ⟨by decide, (zr_in (n := 21) (show 0 ≤ Int32.toInt ((0 * 3) + 0) ∧ Int32.toInt ((0 * 3) + 0) ≤ 0 from (by decide)) (by decide) (by decide))⟩, trivial⟩ ?_
  refine pw_if hT (c := ((pvstab 1041).getD (Int32.toNatClampNeg ((0 * 3) + 0)) 0) = 0) rfl rfl (fun c15_ => absurd c15_ (by decide)) (fun c15_ => ?_)
  refine pw_blk hT 3 (S' := (52, [some (pvI 3), some (pvI 0), some (pvI 0), some (pvI (0 + 1)), some (pvI ((0 * 3) + 0))], [pvI ((pvstab 1041).getD (Int32.toNatClampNeg ((0 * 3) + 0)) 0)], M)) rfl ⟨trivial, trivial, ⟨by decide, (zr_in (n := 21) (show 0 ≤ Int32.toInt ((0 * 3) + 0) ∧ Int32.toInt ((0 * 3) + 0) ≤ 0 from (by decide)) (by decide) (by decide))⟩, trivial⟩ ?_
  exact pw_ret hT rfl (r := some (pvI ((pvstab 1041).getD (Int32.toNatClampNeg ((0 * 3) + 0)) 0))) (M' := M) ⟨rfl, rfl⟩ ⟨rfl, rfl⟩
set_option maxHeartbeats 4000000 in
set_option maxRecDepth 10000 in
theorem sf_X0_bodyFrom_3_1 (M : pvM) (hok : pvOk M) (d : Nat) : PW 1 d (0, [some (pvI 3), some (pvI 1), none, none, none], [], M) (fun r X => r = some (pvI (((pvstab 1041).getD (Int32.toNatClampNeg ((0 * 3) + 1)) 0))) ∧ X = M) := by
  have hT : pvdom 1 = pvD_1 := rfl
  refine pw_blk hT 4 (S' := (4, [some (pvI 3), some (pvI 1), some (pvI 3), some (pvI 0), none], [], M)) rfl ⟨trivial, trivial, trivial, trivial, trivial⟩ ?_
  refine pw_blk hT 3 (S' := (9, [some (pvI 3), some (pvI 1), some (pvI 3), some (pvI 0), none], [pvI (Int32.ofNat (pvstab 1041).length), pvI 0], M)) rfl ⟨trivial, trivial, (by decide), trivial⟩ ?_
  refine pw_ic hT (c := (Int32.ofNat (pvstab 1041).length) ≤ 0) rfl rfl (fun c1_ => absurd c1_ (by decide)) (fun c1_ => ?_)
  refine pw_blk hT 1 (S' := (13, [some (pvI 3), some (pvI 1), some (pvI 3), some (pvI 0), none], [pvI 3], M)) rfl ⟨trivial, trivial⟩ ?_
  refine pw_if hT (c := 3 < 0) rfl rfl (fun c2_ => absurd c2_ (by decide)) (fun c2_ => ?_)
  refine pw_blk hT 7 (S' := (25, [some (pvI 3), some (pvI 1), some (pvI 3), some (pvI 0), some (pvI ((3 * 3) + 1))], [pvI ((3 * 3) + 1)], M)) rfl ⟨trivial, trivial, trivial, trivial, trivial, trivial, trivial, trivial⟩ ?_
  refine pw_if hT (c := ((3 * 3) + 1) < 0) rfl rfl (fun c3_ => absurd c3_ (by decide)) (fun c3_ => ?_)
  refine pw_blk hT 3 (S' := (34, [some (pvI 3), some (pvI 1), some (pvI 3), some (pvI 0), some (pvI ((3 * 3) + 1))], [pvI (Int32.ofNat (pvstab 1041).length), pvI ((3 * 3) + 1)], M)) rfl ⟨trivial, trivial, (by decide), trivial⟩ ?_
  refine pw_ic hT (c := (Int32.ofNat (pvstab 1041).length) ≤ ((3 * 3) + 1)) rfl rfl (fun c4_ => absurd c4_ (by decide)) (fun c4_ => ?_)
  refine pw_blk hT 3 (S' := (43, [some (pvI 3), some (pvI 1), some (pvI 3), some (pvI 0), some (pvI ((3 * 3) + 1))], [pvI ((pvstab 1041).getD (Int32.toNatClampNeg ((3 * 3) + 1)) 0)], M)) rfl ⟨trivial, trivial, ⟨by decide, (zr_in (n := 21) (show 10 ≤ Int32.toInt ((3 * 3) + 1) ∧ Int32.toInt ((3 * 3) + 1) ≤ 10 from (by decide)) (by decide) (by decide))⟩, trivial⟩ ?_
  refine pw_if hT (c := ((pvstab 1041).getD (Int32.toNatClampNeg ((3 * 3) + 1)) 0) = 0) rfl rfl (fun c5_ => ?_) (fun c5_ => absurd (by decide) c5_)
  refine pw_blk hT 1 (S' := (54, [some (pvI 3), some (pvI 1), some (pvI 3), some (pvI 0), some (pvI ((3 * 3) + 1))], [pvI 3], M)) rfl ⟨trivial, trivial⟩ ?_
  refine pw_callT hT (as := [pvI 3]) (lo1 := [some (pvI 3)]) (d1 := d) (rest := []) rfl rfl rfl rfl rfl (fun h => absurd h (by decide)) (Nat.zero_le _) rfl rfl rfl (sf_X3_above_3 M hok d) ?_
  refine pw_eqI (show ((pvstab 1040).getD (Int32.toNatClampNeg 3) 0) = 0 from by decide) ?_
  show PW 1 d (57, [some (pvI 3), some (pvI 1), some (pvI 3), some (pvI 0), some (pvI ((3 * 3) + 1))], [pvI 0], M) _
  refine pw_blk hT 3 (S' := (4, [some (pvI 3), some (pvI 1), some (pvI 0), some (pvI (0 + 1)), some (pvI ((3 * 3) + 1))], [], M)) rfl ⟨trivial, trivial, trivial, trivial⟩ ?_
  refine pw_blk hT 3 (S' := (9, [some (pvI 3), some (pvI 1), some (pvI 0), some (pvI (0 + 1)), some (pvI ((3 * 3) + 1))], [pvI (Int32.ofNat (pvstab 1041).length), pvI (0 + 1)], M)) rfl ⟨trivial, trivial, (by decide), trivial⟩ ?_
  refine pw_ic hT (c := (Int32.ofNat (pvstab 1041).length) ≤ (0 + 1)) rfl rfl (fun c11_ => absurd c11_ (by decide)) (fun c11_ => ?_)
  refine pw_blk hT 1 (S' := (13, [some (pvI 3), some (pvI 1), some (pvI 0), some (pvI (0 + 1)), some (pvI ((3 * 3) + 1))], [pvI 0], M)) rfl ⟨trivial, trivial⟩ ?_
  refine pw_if hT (c := 0 < 0) rfl rfl (fun c12_ => absurd c12_ (by decide)) (fun c12_ => ?_)
  refine pw_blk hT 7 (S' := (25, [some (pvI 3), some (pvI 1), some (pvI 0), some (pvI (0 + 1)), some (pvI ((0 * 3) + 1))], [pvI ((0 * 3) + 1)], M)) rfl ⟨trivial, trivial, trivial, trivial, trivial, trivial, trivial, trivial⟩ ?_
  refine pw_if hT (c := ((0 * 3) + 1) < 0) rfl rfl (fun c13_ => absurd c13_ (by decide)) (fun c13_ => ?_)
  refine pw_blk hT 3 (S' := (34, [some (pvI 3), some (pvI 1), some (pvI 0), some (pvI (0 + 1)), some (pvI ((0 * 3) + 1))], [pvI (Int32.ofNat (pvstab 1041).length), pvI ((0 * 3) + 1)], M)) rfl ⟨trivial, trivial, (by decide), trivial⟩ ?_
  refine pw_ic hT (c := (Int32.ofNat (pvstab 1041).length) ≤ ((0 * 3) + 1)) rfl rfl (fun c14_ => absurd c14_ (by decide)) (fun c14_ => ?_)
  refine pw_blk hT 3 (S' := (43, [some (pvI 3), some (pvI 1), some (pvI 0), some (pvI (0 + 1)), some (pvI ((0 * 3) + 1))], [pvI ((pvstab 1041).getD (Int32.toNatClampNeg ((0 * 3) + 1)) 0)], M)) rfl ⟨trivial, trivial, ⟨by decide, (zr_in (n := 21) (show 1 ≤ Int32.toInt ((0 * 3) + 1) ∧ Int32.toInt ((0 * 3) + 1) ≤ 1 from (by decide)) (by decide) (by decide))⟩, trivial⟩ ?_
  refine pw_if hT (c := ((pvstab 1041).getD (Int32.toNatClampNeg ((0 * 3) + 1)) 0) = 0) rfl rfl (fun c15_ => absurd c15_ (by decide)) (fun c15_ => ?_)
  refine pw_blk hT 3 (S' := (52, [some (pvI 3), some (pvI 1), some (pvI 0), some (pvI (0 + 1)), some (pvI ((0 * 3) + 1))], [pvI ((pvstab 1041).getD (Int32.toNatClampNeg ((0 * 3) + 1)) 0)], M)) rfl ⟨trivial, trivial, ⟨by decide, (zr_in (n := 21) (show 1 ≤ Int32.toInt ((0 * 3) + 1) ∧ Int32.toInt ((0 * 3) + 1) ≤ 1 from (by decide)) (by decide) (by decide))⟩, trivial⟩ ?_
  exact pw_ret hT rfl (r := some (pvI ((pvstab 1041).getD (Int32.toNatClampNeg ((0 * 3) + 1)) 0))) (M' := M) ⟨rfl, rfl⟩ ⟨rfl, rfl⟩
set_option maxHeartbeats 4000000 in
set_option maxRecDepth 10000 in
theorem sf_X0_bodyFrom_3_2 (M : pvM) (hok : pvOk M) (d : Nat) : PW 1 d (0, [some (pvI 3), some (pvI 2), none, none, none], [], M) (fun r X => r = some (pvI (((pvstab 1041).getD (Int32.toNatClampNeg ((3 * 3) + 2)) 0))) ∧ X = M) := by
  have hT : pvdom 1 = pvD_1 := rfl
  refine pw_blk hT 4 (S' := (4, [some (pvI 3), some (pvI 2), some (pvI 3), some (pvI 0), none], [], M)) rfl ⟨trivial, trivial, trivial, trivial, trivial⟩ ?_
  refine pw_blk hT 3 (S' := (9, [some (pvI 3), some (pvI 2), some (pvI 3), some (pvI 0), none], [pvI (Int32.ofNat (pvstab 1041).length), pvI 0], M)) rfl ⟨trivial, trivial, (by decide), trivial⟩ ?_
  refine pw_ic hT (c := (Int32.ofNat (pvstab 1041).length) ≤ 0) rfl rfl (fun c1_ => absurd c1_ (by decide)) (fun c1_ => ?_)
  refine pw_blk hT 1 (S' := (13, [some (pvI 3), some (pvI 2), some (pvI 3), some (pvI 0), none], [pvI 3], M)) rfl ⟨trivial, trivial⟩ ?_
  refine pw_if hT (c := 3 < 0) rfl rfl (fun c2_ => absurd c2_ (by decide)) (fun c2_ => ?_)
  refine pw_blk hT 7 (S' := (25, [some (pvI 3), some (pvI 2), some (pvI 3), some (pvI 0), some (pvI ((3 * 3) + 2))], [pvI ((3 * 3) + 2)], M)) rfl ⟨trivial, trivial, trivial, trivial, trivial, trivial, trivial, trivial⟩ ?_
  refine pw_if hT (c := ((3 * 3) + 2) < 0) rfl rfl (fun c3_ => absurd c3_ (by decide)) (fun c3_ => ?_)
  refine pw_blk hT 3 (S' := (34, [some (pvI 3), some (pvI 2), some (pvI 3), some (pvI 0), some (pvI ((3 * 3) + 2))], [pvI (Int32.ofNat (pvstab 1041).length), pvI ((3 * 3) + 2)], M)) rfl ⟨trivial, trivial, (by decide), trivial⟩ ?_
  refine pw_ic hT (c := (Int32.ofNat (pvstab 1041).length) ≤ ((3 * 3) + 2)) rfl rfl (fun c4_ => absurd c4_ (by decide)) (fun c4_ => ?_)
  refine pw_blk hT 3 (S' := (43, [some (pvI 3), some (pvI 2), some (pvI 3), some (pvI 0), some (pvI ((3 * 3) + 2))], [pvI ((pvstab 1041).getD (Int32.toNatClampNeg ((3 * 3) + 2)) 0)], M)) rfl ⟨trivial, trivial, ⟨by decide, (zr_in (n := 21) (show 11 ≤ Int32.toInt ((3 * 3) + 2) ∧ Int32.toInt ((3 * 3) + 2) ≤ 11 from (by decide)) (by decide) (by decide))⟩, trivial⟩ ?_
  refine pw_if hT (c := ((pvstab 1041).getD (Int32.toNatClampNeg ((3 * 3) + 2)) 0) = 0) rfl rfl (fun c5_ => absurd c5_ (by decide)) (fun c5_ => ?_)
  refine pw_blk hT 3 (S' := (52, [some (pvI 3), some (pvI 2), some (pvI 3), some (pvI 0), some (pvI ((3 * 3) + 2))], [pvI ((pvstab 1041).getD (Int32.toNatClampNeg ((3 * 3) + 2)) 0)], M)) rfl ⟨trivial, trivial, ⟨by decide, (zr_in (n := 21) (show 11 ≤ Int32.toInt ((3 * 3) + 2) ∧ Int32.toInt ((3 * 3) + 2) ≤ 11 from (by decide)) (by decide) (by decide))⟩, trivial⟩ ?_
  exact pw_ret hT rfl (r := some (pvI ((pvstab 1041).getD (Int32.toNatClampNeg ((3 * 3) + 2)) 0))) (M' := M) ⟨rfl, rfl⟩ ⟨rfl, rfl⟩
set_option maxHeartbeats 4000000 in
set_option maxRecDepth 10000 in
theorem sf_X0_bodyFrom_4_0 (M : pvM) (hok : pvOk M) (d : Nat) : PW 1 d (0, [some (pvI 4), some (pvI 0), none, none, none], [], M) (fun r X => r = some (pvI (((pvstab 1041).getD (Int32.toNatClampNeg ((4 * 3) + 0)) 0))) ∧ X = M) := by
  have hT : pvdom 1 = pvD_1 := rfl
  refine pw_blk hT 4 (S' := (4, [some (pvI 4), some (pvI 0), some (pvI 4), some (pvI 0), none], [], M)) rfl ⟨trivial, trivial, trivial, trivial, trivial⟩ ?_
  refine pw_blk hT 3 (S' := (9, [some (pvI 4), some (pvI 0), some (pvI 4), some (pvI 0), none], [pvI (Int32.ofNat (pvstab 1041).length), pvI 0], M)) rfl ⟨trivial, trivial, (by decide), trivial⟩ ?_
  refine pw_ic hT (c := (Int32.ofNat (pvstab 1041).length) ≤ 0) rfl rfl (fun c1_ => absurd c1_ (by decide)) (fun c1_ => ?_)
  refine pw_blk hT 1 (S' := (13, [some (pvI 4), some (pvI 0), some (pvI 4), some (pvI 0), none], [pvI 4], M)) rfl ⟨trivial, trivial⟩ ?_
  refine pw_if hT (c := 4 < 0) rfl rfl (fun c2_ => absurd c2_ (by decide)) (fun c2_ => ?_)
  refine pw_blk hT 7 (S' := (25, [some (pvI 4), some (pvI 0), some (pvI 4), some (pvI 0), some (pvI ((4 * 3) + 0))], [pvI ((4 * 3) + 0)], M)) rfl ⟨trivial, trivial, trivial, trivial, trivial, trivial, trivial, trivial⟩ ?_
  refine pw_if hT (c := ((4 * 3) + 0) < 0) rfl rfl (fun c3_ => absurd c3_ (by decide)) (fun c3_ => ?_)
  refine pw_blk hT 3 (S' := (34, [some (pvI 4), some (pvI 0), some (pvI 4), some (pvI 0), some (pvI ((4 * 3) + 0))], [pvI (Int32.ofNat (pvstab 1041).length), pvI ((4 * 3) + 0)], M)) rfl ⟨trivial, trivial, (by decide), trivial⟩ ?_
  refine pw_ic hT (c := (Int32.ofNat (pvstab 1041).length) ≤ ((4 * 3) + 0)) rfl rfl (fun c4_ => absurd c4_ (by decide)) (fun c4_ => ?_)
  refine pw_blk hT 3 (S' := (43, [some (pvI 4), some (pvI 0), some (pvI 4), some (pvI 0), some (pvI ((4 * 3) + 0))], [pvI ((pvstab 1041).getD (Int32.toNatClampNeg ((4 * 3) + 0)) 0)], M)) rfl ⟨trivial, trivial, ⟨by decide, (zr_in (n := 21) (show 12 ≤ Int32.toInt ((4 * 3) + 0) ∧ Int32.toInt ((4 * 3) + 0) ≤ 12 from (by decide)) (by decide) (by decide))⟩, trivial⟩ ?_
  refine pw_if hT (c := ((pvstab 1041).getD (Int32.toNatClampNeg ((4 * 3) + 0)) 0) = 0) rfl rfl (fun c5_ => absurd c5_ (by decide)) (fun c5_ => ?_)
  refine pw_blk hT 3 (S' := (52, [some (pvI 4), some (pvI 0), some (pvI 4), some (pvI 0), some (pvI ((4 * 3) + 0))], [pvI ((pvstab 1041).getD (Int32.toNatClampNeg ((4 * 3) + 0)) 0)], M)) rfl ⟨trivial, trivial, ⟨by decide, (zr_in (n := 21) (show 12 ≤ Int32.toInt ((4 * 3) + 0) ∧ Int32.toInt ((4 * 3) + 0) ≤ 12 from (by decide)) (by decide) (by decide))⟩, trivial⟩ ?_
  exact pw_ret hT rfl (r := some (pvI ((pvstab 1041).getD (Int32.toNatClampNeg ((4 * 3) + 0)) 0))) (M' := M) ⟨rfl, rfl⟩ ⟨rfl, rfl⟩
set_option maxHeartbeats 4000000 in
set_option maxRecDepth 10000 in
theorem sf_X0_bodyFrom_4_1 (M : pvM) (hok : pvOk M) (d : Nat) : PW 1 d (0, [some (pvI 4), some (pvI 1), none, none, none], [], M) (fun r X => r = some (pvI (((pvstab 1041).getD (Int32.toNatClampNeg ((4 * 3) + 1)) 0))) ∧ X = M) := by
  have hT : pvdom 1 = pvD_1 := rfl
  refine pw_blk hT 4 (S' := (4, [some (pvI 4), some (pvI 1), some (pvI 4), some (pvI 0), none], [], M)) rfl ⟨trivial, trivial, trivial, trivial, trivial⟩ ?_
  refine pw_blk hT 3 (S' := (9, [some (pvI 4), some (pvI 1), some (pvI 4), some (pvI 0), none], [pvI (Int32.ofNat (pvstab 1041).length), pvI 0], M)) rfl ⟨trivial, trivial, (by decide), trivial⟩ ?_
  refine pw_ic hT (c := (Int32.ofNat (pvstab 1041).length) ≤ 0) rfl rfl (fun c1_ => absurd c1_ (by decide)) (fun c1_ => ?_)
  refine pw_blk hT 1 (S' := (13, [some (pvI 4), some (pvI 1), some (pvI 4), some (pvI 0), none], [pvI 4], M)) rfl ⟨trivial, trivial⟩ ?_
  refine pw_if hT (c := 4 < 0) rfl rfl (fun c2_ => absurd c2_ (by decide)) (fun c2_ => ?_)
  refine pw_blk hT 7 (S' := (25, [some (pvI 4), some (pvI 1), some (pvI 4), some (pvI 0), some (pvI ((4 * 3) + 1))], [pvI ((4 * 3) + 1)], M)) rfl ⟨trivial, trivial, trivial, trivial, trivial, trivial, trivial, trivial⟩ ?_
  refine pw_if hT (c := ((4 * 3) + 1) < 0) rfl rfl (fun c3_ => absurd c3_ (by decide)) (fun c3_ => ?_)
  refine pw_blk hT 3 (S' := (34, [some (pvI 4), some (pvI 1), some (pvI 4), some (pvI 0), some (pvI ((4 * 3) + 1))], [pvI (Int32.ofNat (pvstab 1041).length), pvI ((4 * 3) + 1)], M)) rfl ⟨trivial, trivial, (by decide), trivial⟩ ?_
  refine pw_ic hT (c := (Int32.ofNat (pvstab 1041).length) ≤ ((4 * 3) + 1)) rfl rfl (fun c4_ => absurd c4_ (by decide)) (fun c4_ => ?_)
  refine pw_blk hT 3 (S' := (43, [some (pvI 4), some (pvI 1), some (pvI 4), some (pvI 0), some (pvI ((4 * 3) + 1))], [pvI ((pvstab 1041).getD (Int32.toNatClampNeg ((4 * 3) + 1)) 0)], M)) rfl ⟨trivial, trivial, ⟨by decide, (zr_in (n := 21) (show 13 ≤ Int32.toInt ((4 * 3) + 1) ∧ Int32.toInt ((4 * 3) + 1) ≤ 13 from (by decide)) (by decide) (by decide))⟩, trivial⟩ ?_
  refine pw_if hT (c := ((pvstab 1041).getD (Int32.toNatClampNeg ((4 * 3) + 1)) 0) = 0) rfl rfl (fun c5_ => absurd c5_ (by decide)) (fun c5_ => ?_)
  refine pw_blk hT 3 (S' := (52, [some (pvI 4), some (pvI 1), some (pvI 4), some (pvI 0), some (pvI ((4 * 3) + 1))], [pvI ((pvstab 1041).getD (Int32.toNatClampNeg ((4 * 3) + 1)) 0)], M)) rfl ⟨trivial, trivial, ⟨by decide, (zr_in (n := 21) (show 13 ≤ Int32.toInt ((4 * 3) + 1) ∧ Int32.toInt ((4 * 3) + 1) ≤ 13 from (by decide)) (by decide) (by decide))⟩, trivial⟩ ?_
  exact pw_ret hT rfl (r := some (pvI ((pvstab 1041).getD (Int32.toNatClampNeg ((4 * 3) + 1)) 0))) (M' := M) ⟨rfl, rfl⟩ ⟨rfl, rfl⟩
