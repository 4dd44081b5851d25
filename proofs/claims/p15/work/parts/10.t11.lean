def fpL_X10_window_124_x_x_x_x_x : List (Nat × Nat × Nat) := [(0, 124, 1), (0, 125, 0), (0, 126, 0), (0, 127, 0), (0, 128, 0), (0, 129, 0), (0, 130, 0), (0, 131, 0)]
def fp_X10_window_124_x_x_x_x_x (q k : Nat) : Bool := pvfp fpL_X10_window_124_x_x_x_x_x q k
set_option maxHeartbeats 4000000 in
set_option maxRecDepth 10000 in
theorem sf_X10_window_124_x_x_x_x_x (M : pvM) (hok : pvOk M) (n1 : Int32) (n2 : Int32) (n3 : Int32) (n4 : Int32) (n5 : Int32) (d : Nat) : PW 97 d (0, [some (pvR 124), some (pvI n1), some (pvI n2), some (pvI n3), some (pvI n4), some (pvI n5), none], [], M) (fun r X => (∃ x : Int32, r = some (pvI x) ∧ (-4) ≤ Int32.toInt x ∧ Int32.toInt x ≤ 6) ∧ pvOk X ∧ pvFr fp_X10_window_124_x_x_x_x_x M X) := by
  have hT : pvdom 97 = pvD_97 := rfl
  refine pw_blk hT 4 (S' := (5, [some (pvR 124), some (pvI n1), some (pvI n2), some (pvI n3), some (pvI n4), some (pvI n5), none], [pvI 6, pvI 0, pvI n1, pvR 124], M)) rfl ⟨trivial, trivial, trivial, trivial, trivial⟩ ?_
  refine pw_callT hT (as := [pvR 124, pvI n1, pvI 0, pvI 6]) (lo1 := [some (pvR 124), some (pvI n1), some (pvI 0), some (pvI 6)]) (d1 := d) (rest := []) rfl rfl rfl rfl rfl (fun _ => rfl) (Nat.zero_le _) rfl rfl rfl (sf_X10_in_124_x_x_x M hok n1 0 6 d) ?_
  by_cases c6_ : n1 < 0
  · refine pw_eqI (if_pos c6_) ?_
    have b7_ : (-2147483648) ≤ Int32.toInt n1 ∧ Int32.toInt n1 ≤ (-1) := zr_lt_l (-1) c6_ (zbnd n1) (show 0 ≤ Int32.toInt 0 ∧ Int32.toInt 0 ≤ 0 from (by decide)) (by decide)
    show PW 97 d (8, [some (pvR 124), some (pvI n1), some (pvI n2), some (pvI n3), some (pvI n4), some (pvI n5), none], [pvI 0], M) _
    refine pw_ifn hT (c := 0 = 0) rfl rfl (fun c8_ => absurd (by decide) c8_) (fun c8_ => ?_)
    refine pw_blk hT 1 (S' := (12, [some (pvR 124), some (pvI n1), some (pvI n2), some (pvI n3), some (pvI n4), some (pvI n5), none], [pvI (-1)], M)) rfl ⟨trivial, trivial⟩ ?_
    exact pw_ret hT rfl (r := some (pvI (-1))) (M' := M) ⟨rfl, rfl⟩ ⟨⟨_, rfl, (zr_wide (show (-1) ≤ Int32.toInt (-1) ∧ Int32.toInt (-1) ≤ (-1) from (by decide)) (by decide) (by decide))⟩, hok, pvfr_0⟩
  · refine pw_eqI (if_neg c6_) ?_
    have b9_ : 0 ≤ Int32.toInt n1 ∧ Int32.toInt n1 ≤ 2147483647 := zr_nlt_l 0 c6_ (zbnd n1) (show 0 ≤ Int32.toInt 0 ∧ Int32.toInt 0 ≤ 0 from (by decide)) (by decide)
    by_cases c10_ : 6 < n1
    · refine pw_eqI (if_pos c10_) ?_
      have b11_ : 7 ≤ Int32.toInt n1 ∧ Int32.toInt n1 ≤ 2147483647 := zr_lt_r 7 c10_ b9_ (show 6 ≤ Int32.toInt 6 ∧ Int32.toInt 6 ≤ 6 from (by decide)) (by decide)
      show PW 97 d (8, [some (pvR 124), some (pvI n1), some (pvI n2), some (pvI n3), some (pvI n4), some (pvI n5), none], [pvI 0], M) _
      refine pw_ifn hT (c := 0 = 0) rfl rfl (fun c12_ => absurd (by decide) c12_) (fun c12_ => ?_)
      refine pw_blk hT 1 (S' := (12, [some (pvR 124), some (pvI n1), some (pvI n2), some (pvI n3), some (pvI n4), some (pvI n5), none], [pvI (-1)], M)) rfl ⟨trivial, trivial⟩ ?_
      exact pw_ret hT rfl (r := some (pvI (-1))) (M' := M) ⟨rfl, rfl⟩ ⟨⟨_, rfl, (zr_wide (show (-1) ≤ Int32.toInt (-1) ∧ Int32.toInt (-1) ≤ (-1) from (by decide)) (by decide) (by decide))⟩, hok, pvfr_0⟩
    · refine pw_eqI (if_neg c10_) ?_
      have b13_ : 0 ≤ Int32.toInt n1 ∧ Int32.toInt n1 ≤ 6 := zr_nlt_r 6 c10_ b9_ (show 6 ≤ Int32.toInt 6 ∧ Int32.toInt 6 ≤ 6 from (by decide)) (by decide)
      show PW 97 d (8, [some (pvR 124), some (pvI n1), some (pvI n2), some (pvI n3), some (pvI n4), some (pvI n5), none], [pvI 1], M) _
      refine pw_ifn hT (c := 1 = 0) rfl rfl (fun c14_ => ?_) (fun c14_ => absurd c14_ (by decide))
      refine pw_blk hT 4 (S' := (18, [some (pvR 124), some (pvI n1), some (pvI n2), some (pvI n3), some (pvI n4), some (pvI n5), none], [pvI 9, pvI 0, pvI n2, pvR 124], M)) rfl ⟨trivial, trivial, trivial, trivial, trivial⟩ ?_
      refine pw_callT hT (as := [pvR 124, pvI n2, pvI 0, pvI 9]) (lo1 := [some (pvR 124), some (pvI n2), some (pvI 0), some (pvI 9)]) (d1 := d) (rest := []) rfl rfl rfl rfl rfl (fun _ => rfl) (Nat.zero_le _) rfl rfl rfl (sf_X10_in_124_x_x_x M hok n2 0 9 d) ?_
      by_cases c20_ : n2 < 0
      · refine pw_eqI (if_pos c20_) ?_
        have b21_ : (-2147483648) ≤ Int32.toInt n2 ∧ Int32.toInt n2 ≤ (-1) := zr_lt_l (-1) c20_ (zbnd n2) (show 0 ≤ Int32.toInt 0 ∧ Int32.toInt 0 ≤ 0 from (by decide)) (by decide)
        show PW 97 d (21, [some (pvR 124), some (pvI n1), some (pvI n2), some (pvI n3), some (pvI n4), some (pvI n5), none], [pvI 0], M) _
        refine pw_if hT (c := 0 = 0) rfl rfl (fun c22_ => ?_) (fun c22_ => absurd (by decide) c22_)
        refine pw_blk hT 1 (S' := (48, [some (pvR 124), some (pvI n1), some (pvI n2), some (pvI n3), some (pvI n4), some (pvI n5), none], [pvI (-2)], M)) rfl ⟨trivial, trivial⟩ ?_
        exact pw_ret hT rfl (r := some (pvI (-2))) (M' := M) ⟨rfl, rfl⟩ ⟨⟨_, rfl, (zr_wide (show (-2) ≤ Int32.toInt (-2) ∧ Int32.toInt (-2) ≤ (-2) from (by decide)) (by decide) (by decide))⟩, hok, pvfr_0⟩
      · refine pw_eqI (if_neg c20_) ?_
        have b23_ : 0 ≤ Int32.toInt n2 ∧ Int32.toInt n2 ≤ 2147483647 := zr_nlt_l 0 c20_ (zbnd n2) (show 0 ≤ Int32.toInt 0 ∧ Int32.toInt 0 ≤ 0 from (by decide)) (by decide)
        by_cases c24_ : 9 < n2
        · refine pw_eqI (if_pos c24_) ?_
          have b25_ : 10 ≤ Int32.toInt n2 ∧ Int32.toInt n2 ≤ 2147483647 := zr_lt_r 10 c24_ b23_ (show 9 ≤ Int32.toInt 9 ∧ Int32.toInt 9 ≤ 9 from (by decide)) (by decide)
          show PW 97 d (21, [some (pvR 124), some (pvI n1), some (pvI n2), some (pvI n3), some (pvI n4), some (pvI n5), none], [pvI 0], M) _
          refine pw_if hT (c := 0 = 0) rfl rfl (fun c26_ => ?_) (fun c26_ => absurd (by decide) c26_)
          refine pw_blk hT 1 (S' := (48, [some (pvR 124), some (pvI n1), some (pvI n2), some (pvI n3), some (pvI n4), some (pvI n5), none], [pvI (-2)], M)) rfl ⟨trivial, trivial⟩ ?_
          exact pw_ret hT rfl (r := some (pvI (-2))) (M' := M) ⟨rfl, rfl⟩ ⟨⟨_, rfl, (zr_wide (show (-2) ≤ Int32.toInt (-2) ∧ Int32.toInt (-2) ≤ (-2) from (by decide)) (by decide) (by decide))⟩, hok, pvfr_0⟩
        · refine pw_eqI (if_neg c24_) ?_
          have b27_ : 0 ≤ Int32.toInt n2 ∧ Int32.toInt n2 ≤ 9 := zr_nlt_r 9 c24_ b23_ (show 9 ≤ Int32.toInt 9 ∧ Int32.toInt 9 ≤ 9 from (by decide)) (by decide)
          show PW 97 d (21, [some (pvR 124), some (pvI n1), some (pvI n2), some (pvI n3), some (pvI n4), some (pvI n5), none], [pvI 1], M) _
          refine pw_if hT (c := 1 = 0) rfl rfl (fun c28_ => absurd c28_ (by decide)) (fun c28_ => ?_)
          refine pw_blk hT 3 (S' := (28, [some (pvR 124), some (pvI n1), some (pvI n2), some (pvI n3), some (pvI n4), some (pvI n5), none], [pvI n4, pvI n3, pvR 124], M)) rfl ⟨trivial, trivial, trivial, trivial⟩ ?_
          refine pw_callT hT (as := [pvR 124, pvI n3, pvI n4]) (lo1 := [some (pvR 124), some (pvI n3), some (pvI n4)]) (d1 := d) (rest := []) rfl rfl rfl rfl rfl (fun _ => rfl) (Nat.zero_le _) rfl rfl rfl (sf_X10_isPlace_124_x_x M hok n3 n4 d) ?_
          by_cases c34_ : n3 < 0
          · refine pw_eqI (if_pos c34_) ?_
            have b35_ : (-2147483648) ≤ Int32.toInt n3 ∧ Int32.toInt n3 ≤ (-1) := zr_lt_l (-1) c34_ (zbnd n3) (show 0 ≤ Int32.toInt 0 ∧ Int32.toInt 0 ≤ 0 from (by decide)) (by decide)
            show PW 97 d (31, [some (pvR 124), some (pvI n1), some (pvI n2), some (pvI n3), some (pvI n4), some (pvI n5), none], [pvI 0], M) _
            refine pw_if hT (c := 0 = 0) rfl rfl (fun c36_ => ?_) (fun c36_ => absurd (by decide) c36_)
            refine pw_blk hT 1 (S' := (48, [some (pvR 124), some (pvI n1), some (pvI n2), some (pvI n3), some (pvI n4), some (pvI n5), none], [pvI (-2)], M)) rfl ⟨trivial, trivial⟩ ?_
            exact pw_ret hT rfl (r := some (pvI (-2))) (M' := M) ⟨rfl, rfl⟩ ⟨⟨_, rfl, (zr_wide (show (-2) ≤ Int32.toInt (-2) ∧ Int32.toInt (-2) ≤ (-2) from (by decide)) (by decide) (by decide))⟩, hok, pvfr_0⟩
          · refine pw_eqI (if_neg c34_) ?_
            have b37_ : 0 ≤ Int32.toInt n3 ∧ Int32.toInt n3 ≤ 2147483647 := zr_nlt_l 0 c34_ (zbnd n3) (show 0 ≤ Int32.toInt 0 ∧ Int32.toInt 0 ≤ 0 from (by decide)) (by decide)
            by_cases c38_ : 3 < n3
            · refine pw_eqI (if_pos c38_) ?_
              have b39_ : 4 ≤ Int32.toInt n3 ∧ Int32.toInt n3 ≤ 2147483647 := zr_lt_r 4 c38_ b37_ (show 3 ≤ Int32.toInt 3 ∧ Int32.toInt 3 ≤ 3 from (by decide)) (by decide)
              show PW 97 d (31, [some (pvR 124), some (pvI n1), some (pvI n2), some (pvI n3), some (pvI n4), some (pvI n5), none], [pvI 0], M) _
              refine pw_if hT (c := 0 = 0) rfl rfl (fun c40_ => ?_) (fun c40_ => absurd (by decide) c40_)
              refine pw_blk hT 1 (S' := (48, [some (pvR 124), some (pvI n1), some (pvI n2), some (pvI n3), some (pvI n4), some (pvI n5), none], [pvI (-2)], M)) rfl ⟨trivial, trivial⟩ ?_
              exact pw_ret hT rfl (r := some (pvI (-2))) (M' := M) ⟨rfl, rfl⟩ ⟨⟨_, rfl, (zr_wide (show (-2) ≤ Int32.toInt (-2) ∧ Int32.toInt (-2) ≤ (-2) from (by decide)) (by decide) (by decide))⟩, hok, pvfr_0⟩
            · refine pw_eqI (if_neg c38_) ?_
              have b41_ : 0 ≤ Int32.toInt n3 ∧ Int32.toInt n3 ≤ 3 := zr_nlt_r 3 c38_ b37_ (show 3 ≤ Int32.toInt 3 ∧ Int32.toInt 3 ≤ 3 from (by decide)) (by decide)
              by_cases c42_ : n4 < 0
              · refine pw_eqI (if_pos c42_) ?_
                have b43_ : (-2147483648) ≤ Int32.toInt n4 ∧ Int32.toInt n4 ≤ (-1) := zr_lt_l (-1) c42_ (zbnd n4) (show 0 ≤ Int32.toInt 0 ∧ Int32.toInt 0 ≤ 0 from (by decide)) (by decide)
                show PW 97 d (31, [some (pvR 124), some (pvI n1), some (pvI n2), some (pvI n3), some (pvI n4), some (pvI n5), none], [pvI 0], M) _
                refine pw_if hT (c := 0 = 0) rfl rfl (fun c44_ => ?_) (fun c44_ => absurd (by decide) c44_)
                refine pw_blk hT 1 (S' := (48, [some (pvR 124), some (pvI n1), some (pvI n2), some (pvI n3), some (pvI n4), some (pvI n5), none], [pvI (-2)], M)) rfl ⟨trivial, trivial⟩ ?_
                exact pw_ret hT rfl (r := some (pvI (-2))) (M' := M) ⟨rfl, rfl⟩ ⟨⟨_, rfl, (zr_wide (show (-2) ≤ Int32.toInt (-2) ∧ Int32.toInt (-2) ≤ (-2) from (by decide)) (by decide) (by decide))⟩, hok, pvfr_0⟩
              · refine pw_eqI (if_neg c42_) ?_
                have b45_ : 0 ≤ Int32.toInt n4 ∧ Int32.toInt n4 ≤ 2147483647 := zr_nlt_l 0 c42_ (zbnd n4) (show 0 ≤ Int32.toInt 0 ∧ Int32.toInt 0 ≤ 0 from (by decide)) (by decide)
                by_cases c46_ : 4 < n4
                · refine pw_eqI (if_pos c46_) ?_
                  have b47_ : 5 ≤ Int32.toInt n4 ∧ Int32.toInt n4 ≤ 2147483647 := zr_lt_r 5 c46_ b45_ (show 4 ≤ Int32.toInt 4 ∧ Int32.toInt 4 ≤ 4 from (by decide)) (by decide)
                  show PW 97 d (31, [some (pvR 124), some (pvI n1), some (pvI n2), some (pvI n3), some (pvI n4), some (pvI n5), none], [pvI 0], M) _
                  refine pw_if hT (c := 0 = 0) rfl rfl (fun c48_ => ?_) (fun c48_ => absurd (by decide) c48_)
                  refine pw_blk hT 1 (S' := (48, [some (pvR 124), some (pvI n1), some (pvI n2), some (pvI n3), some (pvI n4), some (pvI n5), none], [pvI (-2)], M)) rfl ⟨trivial, trivial⟩ ?_
                  exact pw_ret hT rfl (r := some (pvI (-2))) (M' := M) ⟨rfl, rfl⟩ ⟨⟨_, rfl, (zr_wide (show (-2) ≤ Int32.toInt (-2) ∧ Int32.toInt (-2) ≤ (-2) from (by decide)) (by decide) (by decide))⟩, hok, pvfr_0⟩
                · refine pw_eqI (if_neg c46_) ?_
                  have b49_ : 0 ≤ Int32.toInt n4 ∧ Int32.toInt n4 ≤ 4 := zr_nlt_r 4 c46_ b45_ (show 4 ≤ Int32.toInt 4 ∧ Int32.toInt 4 ≤ 4 from (by decide)) (by decide)
                  show PW 97 d (31, [some (pvR 124), some (pvI n1), some (pvI n2), some (pvI n3), some (pvI n4), some (pvI n5), none], [pvI 1], M) _
                  refine pw_if hT (c := 1 = 0) rfl rfl (fun c50_ => absurd c50_ (by decide)) (fun c50_ => ?_)
                  refine pw_blk hT 4 (S' := (40, [some (pvR 124), some (pvI n1), some (pvI n2), some (pvI n3), some (pvI n4), some (pvI n5), none], [pvI 9, pvI 1, pvI n5, pvR 124], M)) rfl ⟨trivial, trivial, trivial, trivial, trivial⟩ ?_
                  refine pw_callT hT (as := [pvR 124, pvI n5, pvI 1, pvI 9]) (lo1 := [some (pvR 124), some (pvI n5), some (pvI 1), some (pvI 9)]) (d1 := d) (rest := []) rfl rfl rfl rfl rfl (fun _ => rfl) (Nat.zero_le _) rfl rfl rfl (sf_X10_in_124_x_x_x M hok n5 1 9 d) ?_
                  by_cases c56_ : n5 < 1
                  · refine pw_eqI (if_pos c56_) ?_
                    have b57_ : (-2147483648) ≤ Int32.toInt n5 ∧ Int32.toInt n5 ≤ 0 := zr_lt_l 0 c56_ (zbnd n5) (show 1 ≤ Int32.toInt 1 ∧ Int32.toInt 1 ≤ 1 from (by decide)) (by decide)
                    show PW 97 d (43, [some (pvR 124), some (pvI n1), some (pvI n2), some (pvI n3), some (pvI n4), some (pvI n5), none], [pvI 0], M) _
                    refine pw_ifn hT (c := 0 = 0) rfl rfl (fun c58_ => absurd (by decide) c58_) (fun c58_ => ?_)
                    refine pw_blk hT 1 (S' := (48, [some (pvR 124), some (pvI n1), some (pvI n2), some (pvI n3), some (pvI n4), some (pvI n5), none], [pvI (-2)], M)) rfl ⟨trivial, trivial⟩ ?_
                    exact pw_ret hT rfl (r := some (pvI (-2))) (M' := M) ⟨rfl, rfl⟩ ⟨⟨_, rfl, (zr_wide (show (-2) ≤ Int32.toInt (-2) ∧ Int32.toInt (-2) ≤ (-2) from (by decide)) (by decide) (by decide))⟩, hok, pvfr_0⟩
                  · refine pw_eqI (if_neg c56_) ?_
                    have b59_ : 1 ≤ Int32.toInt n5 ∧ Int32.toInt n5 ≤ 2147483647 := zr_nlt_l 1 c56_ (zbnd n5) (show 1 ≤ Int32.toInt 1 ∧ Int32.toInt 1 ≤ 1 from (by decide)) (by decide)
                    by_cases c60_ : 9 < n5
                    · refine pw_eqI (if_pos c60_) ?_
                      have b61_ : 10 ≤ Int32.toInt n5 ∧ Int32.toInt n5 ≤ 2147483647 := zr_lt_r 10 c60_ b59_ (show 9 ≤ Int32.toInt 9 ∧ Int32.toInt 9 ≤ 9 from (by decide)) (by decide)
                      show PW 97 d (43, [some (pvR 124), some (pvI n1), some (pvI n2), some (pvI n3), some (pvI n4), some (pvI n5), none], [pvI 0], M) _
                      refine pw_ifn hT (c := 0 = 0) rfl rfl (fun c62_ => absurd (by decide) c62_) (fun c62_ => ?_)
                      refine pw_blk hT 1 (S' := (48, [some (pvR 124), some (pvI n1), some (pvI n2), some (pvI n3), some (pvI n4), some (pvI n5), none], [pvI (-2)], M)) rfl ⟨trivial, trivial⟩ ?_
                      exact pw_ret hT rfl (r := some (pvI (-2))) (M' := M) ⟨rfl, rfl⟩ ⟨⟨_, rfl, (zr_wide (show (-2) ≤ Int32.toInt (-2) ∧ Int32.toInt (-2) ≤ (-2) from (by decide)) (by decide) (by decide))⟩, hok, pvfr_0⟩
                    · refine pw_eqI (if_neg c60_) ?_
                      have b63_ : 1 ≤ Int32.toInt n5 ∧ Int32.toInt n5 ≤ 9 := zr_nlt_r 9 c60_ b59_ (show 9 ≤ Int32.toInt 9 ∧ Int32.toInt 9 ≤ 9 from (by decide)) (by decide)
                      show PW 97 d (43, [some (pvR 124), some (pvI n1), some (pvI n2), some (pvI n3), some (pvI n4), some (pvI n5), none], [pvI 1], M) _
                      refine pw_ifn hT (c := 1 = 0) rfl rfl (fun c64_ => ?_) (fun c64_ => absurd c64_ (by decide))
                      have b65_ : 0 ≤ Int32.toInt (M.1 124 0) ∧ Int32.toInt (M.1 124 0) ≤ 7 := pvok_r hok 124 0 rfl
                      refine pw_blk hT 3 (S' := (55, [some (pvR 124), some (pvI n1), some (pvI n2), some (pvI n3), some (pvI n4), some (pvI n5), none], [pvI 7, pvI (M.1 124 0)], M)) rfl ⟨trivial, rfl, trivial, trivial⟩ ?_
                      refine pw_icn hT (c := (M.1 124 0) = 7) rfl rfl (fun c66_ => ?_) (fun c66_ => ?_)
                      · have b67_ : 0 ≤ Int32.toInt (M.1 124 0) ∧ Int32.toInt (M.1 124 0) ≤ 6 := (by have u0 := b65_; have u1 := (not_congr (zi_eq _ _)).mp c66_; have u2 := (show 7 ≤ Int32.toInt 7 ∧ Int32.toInt 7 ≤ 7 from (by decide)); omega)
                        refine pw_blkw hT 6 (pc := 71) (lo := [some (pvR 124), some (pvI n1), some (pvI n2), some (pvI n3), some (pvI n4), some (pvI n5), none]) (st := []) (M := pvu M 125 (Int32.toNatClampNeg (M.1 124 0)) n1) rfl ⟨trivial, rfl, trivial, rfl, trivial, ⟨rfl, (zr_in (n := 7) b67_ (by decide) (by decide))⟩, trivial⟩ (fun M68_ e69_ => ?_)
                        have o70_ : pvOk M68_ := pvok_u2 e69_ hok rfl b13_
                        have f71_ : pvFr fp_X10_window_124_x_x_x_x_x M M68_ := pvfr_u e69_ pvfr_0 rfl
                        have e72_ : (M68_.1 124 0) = (M.1 124 0) := (pvu_n e69_ 124 0 (Or.inl (by decide)))
                        have b73_ : 0 ≤ Int32.toInt (M68_.1 124 0) ∧ Int32.toInt (M68_.1 124 0) ≤ 6 := (by rw [e72_]; exact b67_)
                        refine pw_blkw hT 6 (pc := 81) (lo := [some (pvR 124), some (pvI n1), some (pvI n2), some (pvI n3), some (pvI n4), some (pvI n5), none]) (st := []) (M := pvu M68_ 126 (Int32.toNatClampNeg (M68_.1 124 0)) n2) rfl ⟨trivial, rfl, trivial, rfl, trivial, ⟨rfl, (zr_in (n := 7) b73_ (by decide) (by decide))⟩, trivial⟩ (fun M74_ e75_ => ?_)
                        have o76_ : pvOk M74_ := pvok_u2 e75_ o70_ rfl b27_
                        have f77_ : pvFr fp_X10_window_124_x_x_x_x_x M M74_ := pvfr_u e75_ f71_ rfl
                        have e78_ : (M74_.1 124 0) = (M68_.1 124 0) := (pvu_n e75_ 124 0 (Or.inl (by decide)))
                        have b79_ : 0 ≤ Int32.toInt (M74_.1 124 0) ∧ Int32.toInt (M74_.1 124 0) ≤ 6 := (by rw [e78_]; exact b73_)
                        refine pw_blkw hT 6 (pc := 91) (lo := [some (pvR 124), some (pvI n1), some (pvI n2), some (pvI n3), some (pvI n4), some (pvI n5), none]) (st := []) (M := pvu M74_ 127 (Int32.toNatClampNeg (M74_.1 124 0)) n3) rfl ⟨trivial, rfl, trivial, rfl, trivial, ⟨rfl, (zr_in (n := 7) b79_ (by decide) (by decide))⟩, trivial⟩ (fun M80_ e81_ => ?_)
                        have o82_ : pvOk M80_ := pvok_u2 e81_ o76_ rfl b41_
                        have f83_ : pvFr fp_X10_window_124_x_x_x_x_x M M80_ := pvfr_u e81_ f77_ rfl
                        have e84_ : (M80_.1 124 0) = (M74_.1 124 0) := (pvu_n e81_ 124 0 (Or.inl (by decide)))
                        have b85_ : 0 ≤ Int32.toInt (M80_.1 124 0) ∧ Int32.toInt (M80_.1 124 0) ≤ 6 := (by rw [e84_]; exact b79_)
                        refine pw_blkw hT 6 (pc := 102) (lo := [some (pvR 124), some (pvI n1), some (pvI n2), some (pvI n3), some (pvI n4), some (pvI n5), none]) (st := []) (M := pvu M80_ 128 (Int32.toNatClampNeg (M80_.1 124 0)) n4) rfl ⟨trivial, rfl, trivial, rfl, trivial, ⟨rfl, (zr_in (n := 7) b85_ (by decide) (by decide))⟩, trivial⟩ (fun M86_ e87_ => ?_)
                        have o88_ : pvOk M86_ := pvok_u2 e87_ o82_ rfl b49_
                        have f89_ : pvFr fp_X10_window_124_x_x_x_x_x M M86_ := pvfr_u e87_ f83_ rfl
                        have e90_ : (M86_.1 124 0) = (M80_.1 124 0) := (pvu_n e87_ 124 0 (Or.inl (by decide)))
                        have b91_ : 0 ≤ Int32.toInt (M86_.1 124 0) ∧ Int32.toInt (M86_.1 124 0) ≤ 6 := (by rw [e90_]; exact b85_)
                        refine pw_blkw hT 6 (pc := 113) (lo := [some (pvR 124), some (pvI n1), some (pvI n2), some (pvI n3), some (pvI n4), some (pvI n5), none]) (st := []) (M := pvu M86_ 129 (Int32.toNatClampNeg (M86_.1 124 0)) n5) rfl ⟨trivial, rfl, trivial, rfl, trivial, ⟨rfl, (zr_in (n := 7) b91_ (by decide) (by decide))⟩, trivial⟩ (fun M92_ e93_ => ?_)
                        have o94_ : pvOk M92_ := pvok_u2 e93_ o88_ rfl (zr_wide b63_ (by decide) (by decide))
                        have f95_ : pvFr fp_X10_window_124_x_x_x_x_x M M92_ := pvfr_u e93_ f89_ rfl
                        have e96_ : (M92_.1 124 0) = (M86_.1 124 0) := (pvu_n e93_ 124 0 (Or.inl (by decide)))
                        have b97_ : 0 ≤ Int32.toInt (M92_.1 124 0) ∧ Int32.toInt (M92_.1 124 0) ≤ 6 := (by rw [e96_]; exact b91_)
                        refine pw_blkw hT 6 (pc := 123) (lo := [some (pvR 124), some (pvI n1), some (pvI n2), some (pvI n3), some (pvI n4), some (pvI n5), none]) (st := []) (M := pvu M92_ 131 (Int32.toNatClampNeg (M92_.1 124 0)) (vp_nar .boolean 0)) rfl ⟨trivial, rfl, trivial, rfl, trivial, ⟨rfl, (zr_in (n := 7) b97_ (by decide) (by decide))⟩, trivial⟩ (fun M98_ e99_ => ?_)
                        have o100_ : pvOk M98_ := pvok_u2 e99_ o94_ rfl (zboolr 0)
                        have f101_ : pvFr fp_X10_window_124_x_x_x_x_x M M98_ := pvfr_u e99_ f95_ rfl
                        refine pw_blk hT 2 (S' := (126, [some (pvR 124), some (pvI n1), some (pvI n2), some (pvI n3), some (pvI n4), some (pvI n5), some (pvI 0)], [], M98_)) rfl ⟨trivial, trivial, trivial⟩ ?_
                        have e102_ : (M98_.1 124 0) = (M92_.1 124 0) := (pvu_n e99_ 124 0 (Or.inl (by decide)))
                        have b103_ : 0 ≤ Int32.toInt (M98_.1 124 0) ∧ Int32.toInt (M98_.1 124 0) ≤ 6 := (by rw [e102_]; exact b97_)
                        have hlz196_ : ∀ (nz196_ : Nat) (i6z196_ : Int32) (Mz196_ : pvM), (pvOk Mz196_) → (pvFr fp_X10_window_124_x_x_x_x_x M Mz196_) → (Mz196_.1 124 0 = M98_.1 124 0) → (0 ≤ Int32.toInt i6z196_ ∧ Int32.toInt i6z196_ ≤ 4) → (zhide ((5 - Int32.toInt i6z196_).toNat < nz196_)) → PW 97 d (126, [some (pvR 124), some (pvI n1), some (pvI n2), some (pvI n3), some (pvI n4), some (pvI n5), some (pvI i6z196_)], [], Mz196_) (fun r X => (∃ x : Int32, r = some (pvI x) ∧ (-4) ≤ Int32.toInt x ∧ Int32.toInt x ≤ 6) ∧ pvOk X ∧ pvFr fp_X10_window_124_x_x_x_x_x M X) := by
                          intro nz196_
                          induction nz196_ with
                          | zero => intro i6z196_ Mz196_ oz196_ fz196_ k124_0z196_ h6z196_ hmz196_; exact absurd (zshow hmz196_) (Nat.not_lt_zero _)
                          | succ nz196_ ihz196_ =>
                            intro i6z196_ Mz196_ oz196_ fz196_ k124_0z196_ h6z196_ hmz196_
                            refine pw_blk hT 2 (S' := (129, [some (pvR 124), some (pvI n1), some (pvI n2), some (pvI n3), some (pvI n4), some (pvI n5), some (pvI i6z196_)], [pvI 4, pvI i6z196_], Mz196_)) rfl ⟨trivial, trivial, trivial⟩ ?_
                            refine pw_ic hT (c := 4 ≤ i6z196_) rfl rfl (fun c197_ => ?_) (fun c197_ => ?_)
                            · have b198_ : 4 ≤ Int32.toInt i6z196_ ∧ Int32.toInt i6z196_ ≤ 4 := zr_le_r 4 c197_ h6z196_ (show 4 ≤ Int32.toInt 4 ∧ Int32.toInt 4 ≤ 4 from (by decide)) (by decide)
                              have e199_ : (Mz196_.1 124 0) = (M98_.1 124 0) := (k124_0z196_)
                              have b200_ : 0 ≤ Int32.toInt (Mz196_.1 124 0) ∧ Int32.toInt (Mz196_.1 124 0) ≤ 6 := (by rw [e199_]; exact b103_)
                              obtain ⟨q202_, b201_⟩ : (Int32.toInt ((Mz196_.1 124 0) + 1) = Int32.toInt (Mz196_.1 124 0) + 1) ∧ (1 ≤ Int32.toInt ((Mz196_.1 124 0) + 1) ∧ Int32.toInt ((Mz196_.1 124 0) + 1) ≤ 7) := zadd_k (Mz196_.1 124 0) 1 1 1 7 b200_ (by decide) (by decide) (by decide) (by decide) (by decide)
                              refine pw_blkw hT 6 (pc := 163) (lo := [some (pvR 124), some (pvI n1), some (pvI n2), some (pvI n3), some (pvI n4), some (pvI n5), some (pvI i6z196_)]) (st := []) (M := pvu Mz196_ 124 0 ((Mz196_.1 124 0) + 1)) rfl ⟨trivial, trivial, rfl, trivial, trivial, rfl, trivial⟩ (fun M203_ e204_ => ?_)
                              have o205_ : pvOk M203_ := pvok_u2 e204_ oz196_ rfl (zr_wide b201_ (by decide) (by decide))
                              have f206_ : pvFr fp_X10_window_124_x_x_x_x_x M M203_ := pvfr_u e204_ fz196_ rfl
                              have e207_ : (M203_.1 124 0) = ((Mz196_.1 124 0) + 1) := (pvu_s e204_)
                              have b208_ : 1 ≤ Int32.toInt (M203_.1 124 0) ∧ Int32.toInt (M203_.1 124 0) ≤ 7 := (by rw [e207_]; exact b201_)
                              obtain ⟨q210_, b209_⟩ : (Int32.toInt ((M203_.1 124 0) - 1) = Int32.toInt (M203_.1 124 0) - 1) ∧ (0 ≤ Int32.toInt ((M203_.1 124 0) - 1) ∧ Int32.toInt ((M203_.1 124 0) - 1) ≤ 6) := zsub_k (M203_.1 124 0) 1 1 0 6 b208_ (by decide) (by decide) (by decide) (by decide) (by decide)
                              refine pw_blk hT 4 (S' := (169, [some (pvR 124), some (pvI n1), some (pvI n2), some (pvI n3), some (pvI n4), some (pvI n5), some (pvI i6z196_)], [pvI ((M203_.1 124 0) - 1)], M203_)) rfl ⟨trivial, rfl, trivial, trivial, trivial⟩ ?_
                              exact pw_ret hT rfl (r := some (pvI ((M203_.1 124 0) - 1))) (M' := M203_) ⟨rfl, rfl⟩ ⟨⟨_, rfl, (zr_wide b209_ (by decide) (by decide))⟩, o205_, f206_⟩
                            · have b211_ : 0 ≤ Int32.toInt i6z196_ ∧ Int32.toInt i6z196_ ≤ 3 := zr_nle_r 3 c197_ h6z196_ (show 4 ≤ Int32.toInt 4 ∧ Int32.toInt 4 ≤ 4 from (by decide)) (by decide)
                              have e212_ : (Mz196_.1 124 0) = (M98_.1 124 0) := (k124_0z196_)
                              have b213_ : 0 ≤ Int32.toInt (Mz196_.1 124 0) ∧ Int32.toInt (Mz196_.1 124 0) ≤ 6 := (by rw [e212_]; exact b103_)
                              have q214_ : Int32.toInt (4 * (Mz196_.1 124 0)) = 4 * Int32.toInt (Mz196_.1 124 0) := by have u0 : Int32.toInt 4 = 4 := (by decide); have u1 := b213_; have u2 := zmul 4 (Mz196_.1 124 0) (by rw [u0]; omega) (by rw [u0]; omega); rw [u0] at u2; omega
                              have b215_ : 0 ≤ Int32.toInt (4 * (Mz196_.1 124 0)) ∧ Int32.toInt (4 * (Mz196_.1 124 0)) ≤ 24 := (by have u1 := b213_; omega)
                              obtain ⟨q217_, b216_⟩ : (Int32.toInt ((4 * (Mz196_.1 124 0)) + i6z196_) = Int32.toInt (4 * (Mz196_.1 124 0)) + Int32.toInt i6z196_) ∧ (0 ≤ Int32.toInt ((4 * (Mz196_.1 124 0)) + i6z196_) ∧ Int32.toInt ((4 * (Mz196_.1 124 0)) + i6z196_) ≤ 27) := zadd_r (4 * (Mz196_.1 124 0)) i6z196_ 0 27 b215_ b211_ (by decide) (by decide) (by decide) (by decide)
                              refine pw_blkw hT 10 (pc := 147) (lo := [some (pvR 124), some (pvI n1), some (pvI n2), some (pvI n3), some (pvI n4), some (pvI n5), some (pvI i6z196_)]) (st := []) (M := pvu Mz196_ 130 (Int32.toNatClampNeg ((4 * (Mz196_.1 124 0)) + i6z196_)) 0) rfl ⟨trivial, rfl, trivial, trivial, rfl, trivial, trivial, trivial, trivial, ⟨rfl, (zr_in (n := 28) b216_ (by decide) (by decide))⟩, trivial⟩ (fun M218_ e219_ => ?_)
                              have o220_ : pvOk M218_ := pvok_u2 e219_ oz196_ rfl (zr_wide (show 0 ≤ Int32.toInt 0 ∧ Int32.toInt 0 ≤ 0 from (by decide)) (by decide) (by decide))
                              have f221_ : pvFr fp_X10_window_124_x_x_x_x_x M M218_ := pvfr_u e219_ fz196_ rfl
                              obtain ⟨q223_, b222_⟩ : (Int32.toInt (i6z196_ + 1) = Int32.toInt i6z196_ + 1) ∧ (1 ≤ Int32.toInt (i6z196_ + 1) ∧ Int32.toInt (i6z196_ + 1) ≤ 4) := zadd_k i6z196_ 1 1 1 4 b211_ (by decide) (by decide) (by decide) (by decide) (by decide)
                              refine pw_blk hT 2 (S' := (126, [some (pvR 124), some (pvI n1), some (pvI n2), some (pvI n3), some (pvI n4), some (pvI n5), some (pvI (i6z196_ + 1))], [], M218_)) rfl ⟨trivial, trivial, trivial⟩ ?_
                              exact ihz196_ (i6z196_ + 1) M218_ o220_ f221_ ((pvu_n e219_ 124 0 (Or.inl (by decide))).trans (k124_0z196_)) (zr_wide b222_ (by decide) (by decide)) (zhid (pvms_up (zshow hmz196_) h6z196_ q223_ (by decide) (by decide)))
                        exact hlz196_ _ 0 M98_ o100_ f101_ rfl (zr_wide (show 0 ≤ Int32.toInt 0 ∧ Int32.toInt 0 ≤ 0 from (by decide)) (by decide) (by decide)) (zhid (Nat.lt_succ_self _))
                      · have b224_ : 7 ≤ Int32.toInt (M.1 124 0) ∧ Int32.toInt (M.1 124 0) ≤ 7 := (by have u0 := b65_; have u1 := (zi_eq _ _).mp c66_; have u2 := (show 7 ≤ Int32.toInt 7 ∧ Int32.toInt 7 ≤ 7 from (by decide)); omega)
                        refine pw_blk hT 1 (S' := (60, [some (pvR 124), some (pvI n1), some (pvI n2), some (pvI n3), some (pvI n4), some (pvI n5), none], [pvI (-4)], M)) rfl ⟨trivial, trivial⟩ ?_
                        exact pw_ret hT rfl (r := some (pvI (-4))) (M' := M) ⟨rfl, rfl⟩ ⟨⟨_, rfl, (zr_wide (show (-4) ≤ Int32.toInt (-4) ∧ Int32.toInt (-4) ≤ (-4) from (by decide)) (by decide) (by decide))⟩, hok, pvfr_0⟩
def fpL_X10_worth_124_x : List (Nat × Nat × Nat) := [(0, 124, 33), (0, 131, 0), (0, 141, 0), (0, 142, 0), (0, 143, 0)]
def fp_X10_worth_124_x (q k : Nat) : Bool := pvfp fpL_X10_worth_124_x q k
theorem fp_X10_worth_124_x_fp_X10_costOfNone_124 (a b : Nat) (h : fp_X10_costOfNone_124 a b = true) : fp_X10_worth_124_x a b = true := pvfp_sub (l1 := fpL_X10_costOfNone_124) (l2 := fpL_X10_worth_124_x) (by decide) a b h
theorem fp_X10_worth_124_x_fp_X10_layRain_124 (a b : Nat) (h : fp_X10_layRain_124 a b = true) : fp_X10_worth_124_x a b = true := pvfp_sub (l1 := fpL_X10_layRain_124) (l2 := fpL_X10_worth_124_x) (by decide) a b h
set_option maxHeartbeats 4000000 in
set_option maxRecDepth 10000 in
theorem sf_X10_worth_124_x (M : pvM) (hok : pvOk M) (n1 : Int32) (hz : pvWF M) (d : Nat) : PW 101 d (0, [some (pvR 124), some (pvI n1), none, none], [], M) (fun r X => (∃ x : Int32, r = some (pvI x) ∧ (-9000000) ≤ Int32.toInt x ∧ Int32.toInt x ≤ 9000000) ∧ pvOk X ∧ pvFr fp_X10_worth_124_x M X) := by
  have hT : pvdom 101 = pvD_101 := rfl
  refine pw_blk hT 2 (S' := (2, [some (pvR 124), some (pvI n1), none, none], [pvI n1, pvR 124], M)) rfl ⟨trivial, trivial, trivial⟩ ?_
  refine pw_callT hT (as := [pvR 124, pvI n1]) (lo1 := [some (pvR 124), some (pvI n1)]) (d1 := d) (rest := []) rfl rfl rfl rfl rfl (fun _ => rfl) (Nat.zero_le _) rfl rfl rfl (sf_X10_isWindow_124_x M hok n1 d) ?_
  by_cases c6_ : n1 < 0
  · refine pw_eqI (if_pos c6_) ?_
    have b7_ : (-2147483648) ≤ Int32.toInt n1 ∧ Int32.toInt n1 ≤ (-1) := zr_lt_l (-1) c6_ (zbnd n1) (show 0 ≤ Int32.toInt 0 ∧ Int32.toInt 0 ≤ 0 from (by decide)) (by decide)
    show PW 101 d (5, [some (pvR 124), some (pvI n1), none, none], [pvI 0], M) _
    refine pw_ifn hT (c := 0 = 0) rfl rfl (fun c8_ => absurd (by decide) c8_) (fun c8_ => ?_)
    refine pw_blk hT 1 (S' := (9, [some (pvR 124), some (pvI n1), none, none], [pvI (-1)], M)) rfl ⟨trivial, trivial⟩ ?_
    exact pw_ret hT rfl (r := some (pvI (-1))) (M' := M) ⟨rfl, rfl⟩ ⟨⟨_, rfl, (zr_wide (show (-1) ≤ Int32.toInt (-1) ∧ Int32.toInt (-1) ≤ (-1) from (by decide)) (by decide) (by decide))⟩, hok, pvfr_0⟩
  · refine pw_eqI (if_neg c6_) ?_
    have b9_ : 0 ≤ Int32.toInt n1 ∧ Int32.toInt n1 ≤ 2147483647 := zr_nlt_l 0 c6_ (zbnd n1) (show 0 ≤ Int32.toInt 0 ∧ Int32.toInt 0 ≤ 0 from (by decide)) (by decide)
    have b10_ : 0 ≤ Int32.toInt (M.1 124 0) ∧ Int32.toInt (M.1 124 0) ≤ 7 := pvok_r hok 124 0 rfl
    obtain ⟨q12_, b11_⟩ : (Int32.toInt ((M.1 124 0) - 1) = Int32.toInt (M.1 124 0) - 1) ∧ ((-1) ≤ Int32.toInt ((M.1 124 0) - 1) ∧ Int32.toInt ((M.1 124 0) - 1) ≤ 6) := zsub_k (M.1 124 0) 1 1 (-1) 6 b10_ (by decide) (by decide) (by decide) (by decide) (by decide)
    by_cases c13_ : ((M.1 124 0) - 1) < n1
    · refine pw_eqI (if_pos c13_) ?_
      have d14_ : Int32.toInt ((M.1 124 0) - 1) < Int32.toInt n1 := (zi_lt _ _).mp c13_
      show PW 101 d (5, [some (pvR 124), some (pvI n1), none, none], [pvI 0], M) _
      refine pw_ifn hT (c := 0 = 0) rfl rfl (fun c15_ => absurd (by decide) c15_) (fun c15_ => ?_)
      refine pw_blk hT 1 (S' := (9, [some (pvR 124), some (pvI n1), none, none], [pvI (-1)], M)) rfl ⟨trivial, trivial⟩ ?_
      exact pw_ret hT rfl (r := some (pvI (-1))) (M' := M) ⟨rfl, rfl⟩ ⟨⟨_, rfl, (zr_wide (show (-1) ≤ Int32.toInt (-1) ∧ Int32.toInt (-1) ≤ (-1) from (by decide)) (by decide) (by decide))⟩, hok, pvfr_0⟩
    · refine pw_eqI (if_neg c13_) ?_
      have b16_ : 0 ≤ Int32.toInt ((M.1 124 0) - 1) ∧ Int32.toInt ((M.1 124 0) - 1) ≤ 6 := zr_nlt_l 0 c13_ b11_ b9_ (by decide)
      have b17_ : 0 ≤ Int32.toInt n1 ∧ Int32.toInt n1 ≤ 6 := zr_nlt_r 6 c13_ b9_ b16_ (by decide)
      have d18_ : Int32.toInt ((M.1 124 0) - 1) ≥ Int32.toInt n1 := Int.not_lt.mp ((not_congr (zi_lt _ _)).mp c13_)
      show PW 101 d (5, [some (pvR 124), some (pvI n1), none, none], [pvI 1], M) _
      refine pw_ifn hT (c := 1 = 0) rfl rfl (fun c19_ => ?_) (fun c19_ => absurd c19_ (by decide))
      refine pw_blk hT 1 (S' := (11, [some (pvR 124), some (pvI n1), none, none], [pvR 124], M)) rfl ⟨trivial, trivial⟩ ?_
      refine pw_callV hT (as := [pvR 124]) (lo1 := [some (pvR 124), none, none]) (d1 := d) (rest := []) rfl rfl rfl rfl rfl (fun _ => rfl) (Nat.zero_le _) rfl rfl rfl (sf_X10_layRain_124 M hok hz d) (fun M21_ o23_ g24_ => ?_)
      have f25_ : pvFr fp_X10_worth_124_x M M21_ := pvfr_t g24_ pvfr_0 fp_X10_worth_124_x_fp_X10_layRain_124
      refine pw_blk hT 1 (S' := (15, [some (pvR 124), some (pvI n1), none, none], [pvR 124], M21_)) rfl ⟨trivial, trivial⟩ ?_
      refine pw_callG hT (as := [pvR 124]) (lo1 := [some (pvR 124)]) (d1 := d) (rest := []) rfl rfl rfl rfl rfl (fun _ => rfl) (Nat.zero_le _) rfl rfl rfl (sf_X10_costOfNone_124 M21_ o23_ d) (fun x26_ M27_ b28_ o29_ g30_ => ?_)
      have f31_ : pvFr fp_X10_worth_124_x M M27_ := pvfr_t g30_ f25_ fp_X10_worth_124_x_fp_X10_costOfNone_124
      have b32_ : 0 ≤ Int32.toInt (M27_.1 131 (Int32.toNatClampNeg n1)) ∧ Int32.toInt (M27_.1 131 (Int32.toNatClampNeg n1)) ≤ 1 := pvok_r o29_ 131 (Int32.toNatClampNeg n1) rfl
      refine pw_blkw hT 11 (pc := 33) (lo := [some (pvR 124), some (pvI n1), some (pvI x26_), some (pvI (M27_.1 131 (Int32.toNatClampNeg n1)))]) (st := []) (M := pvu M27_ 131 (Int32.toNatClampNeg n1) (vp_nar .boolean 1)) rfl ⟨trivial, trivial, rfl, trivial, ⟨rfl, (zr_in (n := 7) b17_ (by decide) (by decide))⟩, trivial, trivial, rfl, trivial, trivial, ⟨rfl, (zr_in (n := 7) b17_ (by decide) (by decide))⟩, trivial⟩ (fun M33_ e34_ => ?_)
      have o35_ : pvOk M33_ := pvok_u2 e34_ o29_ rfl (zboolr 1)
      have f36_ : pvFr fp_X10_worth_124_x M M33_ := pvfr_u e34_ f31_ rfl
      refine pw_blk hT 2 (S' := (35, [some (pvR 124), some (pvI n1), some (pvI x26_), some (pvI (M27_.1 131 (Int32.toNatClampNeg n1)))], [pvR 124, pvI x26_], M33_)) rfl ⟨trivial, trivial, trivial⟩ ?_
      refine pw_callG hT (as := [pvR 124]) (lo1 := [some (pvR 124)]) (d1 := d) (rest := [pvI x26_]) rfl rfl rfl rfl rfl (fun _ => rfl) (Nat.zero_le _) rfl rfl rfl (sf_X10_costOfNone_124 M33_ o35_ d) (fun x37_ M38_ b39_ o40_ g41_ => ?_)
      have f42_ : pvFr fp_X10_worth_124_x M M38_ := pvfr_t g41_ f36_ fp_X10_worth_124_x_fp_X10_costOfNone_124
      obtain ⟨q44_, b43_⟩ : (Int32.toInt (x26_ - x37_) = Int32.toInt x26_ - Int32.toInt x37_) ∧ ((-9000000) ≤ Int32.toInt (x26_ - x37_) ∧ Int32.toInt (x26_ - x37_) ≤ 9000000) := zsub_r x26_ x37_ (-9000000) 9000000 b28_ b39_ (by decide) (by decide) (by decide) (by decide)
      refine pw_blkw hT 7 (pc := 47) (lo := [some (pvR 124), some (pvI n1), some (pvI (x26_ - x37_)), some (pvI (M27_.1 131 (Int32.toNatClampNeg n1)))]) (st := []) (M := pvu M38_ 131 (Int32.toNatClampNeg n1) (vp_nar .boolean (M27_.1 131 (Int32.toNatClampNeg n1)))) rfl ⟨trivial, trivial, trivial, rfl, trivial, trivial, ⟨rfl, (zr_in (n := 7) b17_ (by decide) (by decide))⟩, trivial⟩ (fun M45_ e46_ => ?_)
      have o47_ : pvOk M45_ := pvok_u2 e46_ o40_ rfl (zboolr (M27_.1 131 (Int32.toNatClampNeg n1)))
      have f48_ : pvFr fp_X10_worth_124_x M M45_ := pvfr_u e46_ f42_ rfl
      refine pw_blk hT 1 (S' := (48, [some (pvR 124), some (pvI n1), some (pvI (x26_ - x37_)), some (pvI (M27_.1 131 (Int32.toNatClampNeg n1)))], [pvI (x26_ - x37_)], M45_)) rfl ⟨trivial, trivial⟩ ?_
      exact pw_ret hT rfl (r := some (pvI (x26_ - x37_))) (M' := M45_) ⟨rfl, rfl⟩ ⟨⟨_, rfl, b43_⟩, o47_, f48_⟩
