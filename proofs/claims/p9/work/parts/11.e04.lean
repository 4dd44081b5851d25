def fpL_eX10_window_124_x_x_x_x_x : List (Nat × Nat × Nat) := [(0, 124, 1), (0, 125, 0), (0, 126, 0), (0, 127, 0), (0, 128, 0), (0, 129, 0), (0, 130, 0), (0, 131, 0)]
def fp_eX10_window_124_x_x_x_x_x (q k : Nat) : Bool := pvfp fpL_eX10_window_124_x_x_x_x_x q k
set_option maxHeartbeats 4000000 in
set_option maxRecDepth 10000 in
theorem se_X10_window_124_x_x_x_x_x (M : pvM) (hok : pvOk M) (n1 : Int32) (n2 : Int32) (n3 : Int32) (n4 : Int32) (n5 : Int32) (d : Nat) : PW 97 d (0, [some (pvR 124), some (pvI n1), some (pvI n2), some (pvI n3), some (pvI n4), some (pvI n5), none], [], M) (fun r X => (∃ x : Int32, r = some (pvI x) ∧ ((-4) ≤ Int32.toInt x ∧ Int32.toInt x ≤ 6) ∧ x = (if n1 < 0 then (-1) else (if 6 < n1 then (-1) else (if n2 < 0 then (-2) else (if 9 < n2 then (-2) else (if n3 < 0 then (-2) else (if 3 < n3 then (-2) else (if n4 < 0 then (-2) else (if 4 < n4 then (-2) else (if n5 < 1 then (-2) else (if 9 < n5 then (-2) else (if (M.1 124 0) = 7 then (-4) else (((M.1 124 0) + 1) - 1))))))))))))) ∧ pvOk X ∧ pvFr fp_eX10_window_124_x_x_x_x_x M X ∧ X.1 124 0 = (if n1 < 0 then (M.1 124 0) else (if 6 < n1 then (M.1 124 0) else (if n2 < 0 then (M.1 124 0) else (if 9 < n2 then (M.1 124 0) else (if n3 < 0 then (M.1 124 0) else (if 3 < n3 then (M.1 124 0) else (if n4 < 0 then (M.1 124 0) else (if 4 < n4 then (M.1 124 0) else (if n5 < 1 then (M.1 124 0) else (if 9 < n5 then (M.1 124 0) else (if (M.1 124 0) = 7 then (M.1 124 0) else ((M.1 124 0) + 1))))))))))))) := by
  have hT : pvdom 97 = pvD_97 := rfl
  refine pw_blk hT 4 (S' := (5, [some (pvR 124), some (pvI n1), some (pvI n2), some (pvI n3), some (pvI n4), some (pvI n5), none], [pvI 6, pvI 0, pvI n1, pvR 124], M)) rfl ⟨trivial, trivial, trivial, trivial, trivial⟩ ?_
  refine pw_callT hT (as := [pvR 124, pvI n1, pvI 0, pvI 6]) (lo1 := [some (pvR 124), some (pvI n1), some (pvI 0), some (pvI 6)]) (d1 := d) (rest := []) rfl rfl rfl rfl rfl (fun _ => rfl) (Nat.zero_le _) rfl rfl rfl (sf_X10_in_124_x_x_x M hok n1 0 6 d) ?_
  by_cases c6_ : n1 < 0
  · refine pw_eqI (if_pos c6_) ?_
    have b7_ : (-2147483648) ≤ Int32.toInt n1 ∧ Int32.toInt n1 ≤ (-1) := zr_lt_l (-1) c6_ (zbnd n1) (show 0 ≤ Int32.toInt 0 ∧ Int32.toInt 0 ≤ 0 from (by decide)) (by decide)
    show PW 97 d (8, [some (pvR 124), some (pvI n1), some (pvI n2), some (pvI n3), some (pvI n4), some (pvI n5), none], [pvI 0], M) _
    refine pw_ifn hT (c := 0 = 0) rfl rfl (fun c8_ => absurd (by decide) c8_) (fun c8_ => ?_)
    refine pw_blk hT 1 (S' := (12, [some (pvR 124), some (pvI n1), some (pvI n2), some (pvI n3), some (pvI n4), some (pvI n5), none], [pvI (-1)], M)) rfl ⟨trivial, trivial⟩ ?_
    exact pw_ret hT rfl (r := some (pvI (-1))) (M' := M) ⟨rfl, rfl⟩ ⟨⟨_, rfl, (zr_wide (show (-1) ≤ Int32.toInt (-1) ∧ Int32.toInt (-1) ≤ (-1) from (by decide)) (by decide) (by decide)), (by rw [if_pos c6_]; first | done | (rw [if_pos c6_]; done))⟩, hok, pvfr_0, (by rw [if_pos c6_]; first | done | exact rfl | (rw [if_pos c6_]; done) | (rw [if_pos c6_]; exact rfl))⟩
  · refine pw_eqI (if_neg c6_) ?_
    have b9_ : 0 ≤ Int32.toInt n1 ∧ Int32.toInt n1 ≤ 2147483647 := zr_nlt_l 0 c6_ (zbnd n1) (show 0 ≤ Int32.toInt 0 ∧ Int32.toInt 0 ≤ 0 from (by decide)) (by decide)
    by_cases c10_ : 6 < n1
    · refine pw_eqI (if_pos c10_) ?_
      have b11_ : 7 ≤ Int32.toInt n1 ∧ Int32.toInt n1 ≤ 2147483647 := zr_lt_r 7 c10_ b9_ (show 6 ≤ Int32.toInt 6 ∧ Int32.toInt 6 ≤ 6 from (by decide)) (by decide)
      show PW 97 d (8, [some (pvR 124), some (pvI n1), some (pvI n2), some (pvI n3), some (pvI n4), some (pvI n5), none], [pvI 0], M) _
      refine pw_ifn hT (c := 0 = 0) rfl rfl (fun c12_ => absurd (by decide) c12_) (fun c12_ => ?_)
      refine pw_blk hT 1 (S' := (12, [some (pvR 124), some (pvI n1), some (pvI n2), some (pvI n3), some (pvI n4), some (pvI n5), none], [pvI (-1)], M)) rfl ⟨trivial, trivial⟩ ?_
      exact pw_ret hT rfl (r := some (pvI (-1))) (M' := M) ⟨rfl, rfl⟩ ⟨⟨_, rfl, (zr_wide (show (-1) ≤ Int32.toInt (-1) ∧ Int32.toInt (-1) ≤ (-1) from (by decide)) (by decide) (by decide)), (by rw [if_neg c6_, if_pos c10_]; first | done | (rw [if_pos c10_]; done))⟩, hok, pvfr_0, (by rw [if_neg c6_, if_pos c10_]; first | done | exact rfl | (rw [if_pos c10_]; done) | (rw [if_pos c10_]; exact rfl))⟩
    · refine pw_eqI (if_neg c10_) ?_
      have b13_ : 0 ≤ Int32.toInt n1 ∧ Int32.toInt n1 ≤ 6 := zr_nlt_r 6 c10_ b9_ (show 6 ≤ Int32.toInt 6 ∧ Int32.toInt 6 ≤ 6 from (by decide)) (by decide)
      show PW 97 d (8, [some (pvR 124), some (pvI n1), some (pvI n2), some (pvI n3), some (pvI n4), some (pvI n5), none], [pvI 1], M) _
      refine pw_ifn hT (c := 1 = 0) rfl rfl (fun c14_ => ?_) (fun c14_ => absurd c14_ (by decide))
      refine pw_blk hT 4 (S' := (18, [some (pvR 124), some (pvI n1), some (pvI n2), some (pvI n3), some (pvI n4), some (pvI n5), none], [pvI 9, pvI 0, pvI n2, pvR 124], M)) rfl ⟨trivial, trivial, trivial, trivial, trivial⟩ ?_
      refine pw_callT hT (as := [pvR 124, pvI n2, pvI 0, pvI 9]) (lo1 := [some (pvR 124), some (pvI n2), some (pvI 0), some (pvI 9)]) (d1 := d) (rest := []) rfl rfl rfl rfl rfl (fun _ => rfl) (Nat.zero_le _) rfl rfl rfl (sf_X10_in_124_x_x_x M hok n2 0 9 d) ?_
      by_cases c20_ : n2 < 0
      · refine pw_eqI (if_pos c20_) ?_
        have b21_ : (-2147483648) ≤ Int32.toInt n2 ∧ Int32.toInt n2 ≤ (-1) := zr_lt_l (-1) c20_ (zbnd n2) (show 0 ≤ Int32.toInt 0 ∧ Int32.toInt 0 ≤ 0 from (by decide)) (by decide)
        show PW 97 d (21, [some (pvR 124), some (pvI n1), some (pvI n2), some (pvI n3), some (pvI n4), some (pvI n5), none], [pvI 0], M) _
        refine pw_if hT (c := 0 = 0) rfl rfl (fun c22_ => ?_) (fun c22_ => absurd (by decide) c22_)
        refine pw_blk hT 1 (S' := (48, [some (pvR 124), some (pvI n1), some (pvI n2), some (pvI n3), some (pvI n4), some (pvI n5), none], [pvI (-2)], M)) rfl ⟨trivial, trivial⟩ ?_
        exact pw_ret hT rfl (r := some (pvI (-2))) (M' := M) ⟨rfl, rfl⟩ ⟨⟨_, rfl, (zr_wide (show (-2) ≤ Int32.toInt (-2) ∧ Int32.toInt (-2) ≤ (-2) from (by decide)) (by decide) (by decide)), (by rw [if_neg c6_, if_neg c10_, if_pos c20_]; first | done | (rw [if_pos c20_]; done))⟩, hok, pvfr_0, (by rw [if_neg c6_, if_neg c10_, if_pos c20_]; first | done | exact rfl | (rw [if_pos c20_]; done) | (rw [if_pos c20_]; exact rfl))⟩
      · refine pw_eqI (if_neg c20_) ?_
        have b23_ : 0 ≤ Int32.toInt n2 ∧ Int32.toInt n2 ≤ 2147483647 := zr_nlt_l 0 c20_ (zbnd n2) (show 0 ≤ Int32.toInt 0 ∧ Int32.toInt 0 ≤ 0 from (by decide)) (by decide)
        by_cases c24_ : 9 < n2
        · refine pw_eqI (if_pos c24_) ?_
          have b25_ : 10 ≤ Int32.toInt n2 ∧ Int32.toInt n2 ≤ 2147483647 := zr_lt_r 10 c24_ b23_ (show 9 ≤ Int32.toInt 9 ∧ Int32.toInt 9 ≤ 9 from (by decide)) (by decide)
          show PW 97 d (21, [some (pvR 124), some (pvI n1), some (pvI n2), some (pvI n3), some (pvI n4), some (pvI n5), none], [pvI 0], M) _
          refine pw_if hT (c := 0 = 0) rfl rfl (fun c26_ => ?_) (fun c26_ => absurd (by decide) c26_)
          refine pw_blk hT 1 (S' := (48, [some (pvR 124), some (pvI n1), some (pvI n2), some (pvI n3), some (pvI n4), some (pvI n5), none], [pvI (-2)], M)) rfl ⟨trivial, trivial⟩ ?_
          exact pw_ret hT rfl (r := some (pvI (-2))) (M' := M) ⟨rfl, rfl⟩ ⟨⟨_, rfl, (zr_wide (show (-2) ≤ Int32.toInt (-2) ∧ Int32.toInt (-2) ≤ (-2) from (by decide)) (by decide) (by decide)), (by rw [if_neg c6_, if_neg c10_, if_neg c20_, if_pos c24_]; first | done | (rw [if_pos c24_]; done))⟩, hok, pvfr_0, (by rw [if_neg c6_, if_neg c10_, if_neg c20_, if_pos c24_]; first | done | exact rfl | (rw [if_pos c24_]; done) | (rw [if_pos c24_]; exact rfl))⟩
        · refine pw_eqI (if_neg c24_) ?_
          have b27_ : 0 ≤ Int32.toInt n2 ∧ Int32.toInt n2 ≤ 9 := zr_nlt_r 9 c24_ b23_ (show 9 ≤ Int32.toInt 9 ∧ Int32.toInt 9 ≤ 9 from (by decide)) (by decide)
          show PW 97 d (21, [some (pvR 124), some (pvI n1), some (pvI n2), some (pvI n3), some (pvI n4), some (pvI n5), none], [pvI 1], M) _
          refine pw_if hT (c := 1 = 0) rfl rfl (fun c28_ => absurd c28_ (by decide)) (fun c28_ => ?_)
          refine pw_blk hT 3 (S' := (28, [some (pvR 124), some (pvI n1), some (pvI n2), some (pvI n3), some (pvI n4), some (pvI n5), none], [pvI n4, pvI n3, pvR 124], M)) rfl ⟨trivial, trivial, trivial, trivial⟩ ?_
          refine pw_callT hT (as := [pvR 124, pvI n3, pvI n4]) (lo1 := [some (pvR 124), some (pvI n3), some (pvI n4)]) (d1 := d) (rest := []) rfl rfl rfl rfl rfl (fun _ => rfl) (Nat.zero_le _) rfl rfl rfl (sf_X10_isPlace_124_x_x M hok n3 n4 d) ?_
          by_cases c34_ : n3 < 0
          · refine pw_eqI (if_pos c34_) ?_
            have b35_ : (-2147483648) ≤ Int32.toInt n3 ∧ Int32.toInt n3 ≤ (-1) := zr_lt_l (-1) c34_ (zbnd n3) (show 0 ≤ Int32.toInt 0 ∧ Int32.toInt 0 ≤ 0 from (by decide)) (by decide)
            show PW 97 d (31, [some (pvR 124), some (pvI n1), some (pvI n2), some (pvI n3), some (pvI n4), some (pvI n5), none], [pvI 0], M) _
            refine pw_if hT (c := 0 = 0) rfl rfl (fun c36_ => ?_) (fun c36_ => absurd (by decide) c36_)
            refine pw_blk hT 1 (S' := (48, [some (pvR 124), some (pvI n1), some (pvI n2), some (pvI n3), some (pvI n4), some (pvI n5), none], [pvI (-2)], M)) rfl ⟨trivial, trivial⟩ ?_
            exact pw_ret hT rfl (r := some (pvI (-2))) (M' := M) ⟨rfl, rfl⟩ ⟨⟨_, rfl, (zr_wide (show (-2) ≤ Int32.toInt (-2) ∧ Int32.toInt (-2) ≤ (-2) from (by decide)) (by decide) (by decide)), (by rw [if_neg c6_, if_neg c10_, if_neg c20_, if_neg c24_, if_pos c34_]; first | done | (rw [if_pos c34_]; done))⟩, hok, pvfr_0, (by rw [if_neg c6_, if_neg c10_, if_neg c20_, if_neg c24_, if_pos c34_]; first | done | exact rfl | (rw [if_pos c34_]; done) | (rw [if_pos c34_]; exact rfl))⟩
          · refine pw_eqI (if_neg c34_) ?_
            have b37_ : 0 ≤ Int32.toInt n3 ∧ Int32.toInt n3 ≤ 2147483647 := zr_nlt_l 0 c34_ (zbnd n3) (show 0 ≤ Int32.toInt 0 ∧ Int32.toInt 0 ≤ 0 from (by decide)) (by decide)
            by_cases c38_ : 3 < n3
            · refine pw_eqI (if_pos c38_) ?_
              have b39_ : 4 ≤ Int32.toInt n3 ∧ Int32.toInt n3 ≤ 2147483647 := zr_lt_r 4 c38_ b37_ (show 3 ≤ Int32.toInt 3 ∧ Int32.toInt 3 ≤ 3 from (by decide)) (by decide)
              show PW 97 d (31, [some (pvR 124), some (pvI n1), some (pvI n2), some (pvI n3), some (pvI n4), some (pvI n5), none], [pvI 0], M) _
              refine pw_if hT (c := 0 = 0) rfl rfl (fun c40_ => ?_) (fun c40_ => absurd (by decide) c40_)
              refine pw_blk hT 1 (S' := (48, [some (pvR 124), some (pvI n1), some (pvI n2), some (pvI n3), some (pvI n4), some (pvI n5), none], [pvI (-2)], M)) rfl ⟨trivial, trivial⟩ ?_
              exact pw_ret hT rfl (r := some (pvI (-2))) (M' := M) ⟨rfl, rfl⟩ ⟨⟨_, rfl, (zr_wide (show (-2) ≤ Int32.toInt (-2) ∧ Int32.toInt (-2) ≤ (-2) from (by decide)) (by decide) (by decide)), (by rw [if_neg c6_, if_neg c10_, if_neg c20_, if_neg c24_, if_neg c34_, if_pos c38_]; first | done | (rw [if_pos c38_]; done))⟩, hok, pvfr_0, (by rw [if_neg c6_, if_neg c10_, if_neg c20_, if_neg c24_, if_neg c34_, if_pos c38_]; first | done | exact rfl | (rw [if_pos c38_]; done) | (rw [if_pos c38_]; exact rfl))⟩
            · refine pw_eqI (if_neg c38_) ?_
              have b41_ : 0 ≤ Int32.toInt n3 ∧ Int32.toInt n3 ≤ 3 := zr_nlt_r 3 c38_ b37_ (show 3 ≤ Int32.toInt 3 ∧ Int32.toInt 3 ≤ 3 from (by decide)) (by decide)
              by_cases c42_ : n4 < 0
              · refine pw_eqI (if_pos c42_) ?_
                have b43_ : (-2147483648) ≤ Int32.toInt n4 ∧ Int32.toInt n4 ≤ (-1) := zr_lt_l (-1) c42_ (zbnd n4) (show 0 ≤ Int32.toInt 0 ∧ Int32.toInt 0 ≤ 0 from (by decide)) (by decide)
                show PW 97 d (31, [some (pvR 124), some (pvI n1), some (pvI n2), some (pvI n3), some (pvI n4), some (pvI n5), none], [pvI 0], M) _
                refine pw_if hT (c := 0 = 0) rfl rfl (fun c44_ => ?_) (fun c44_ => absurd (by decide) c44_)
                refine pw_blk hT 1 (S' := (48, [some (pvR 124), some (pvI n1), some (pvI n2), some (pvI n3), some (pvI n4), some (pvI n5), none], [pvI (-2)], M)) rfl ⟨trivial, trivial⟩ ?_
                exact pw_ret hT rfl (r := some (pvI (-2))) (M' := M) ⟨rfl, rfl⟩ ⟨⟨_, rfl, (zr_wide (show (-2) ≤ Int32.toInt (-2) ∧ Int32.toInt (-2) ≤ (-2) from (by decide)) (by decide) (by decide)), (by rw [if_neg c6_, if_neg c10_, if_neg c20_, if_neg c24_, if_neg c34_, if_neg c38_, if_pos c42_]; first | done | (rw [if_pos c42_]; done))⟩, hok, pvfr_0, (by rw [if_neg c6_, if_neg c10_, if_neg c20_, if_neg c24_, if_neg c34_, if_neg c38_, if_pos c42_]; first | done | exact rfl | (rw [if_pos c42_]; done) | (rw [if_pos c42_]; exact rfl))⟩
              · refine pw_eqI (if_neg c42_) ?_
                have b45_ : 0 ≤ Int32.toInt n4 ∧ Int32.toInt n4 ≤ 2147483647 := zr_nlt_l 0 c42_ (zbnd n4) (show 0 ≤ Int32.toInt 0 ∧ Int32.toInt 0 ≤ 0 from (by decide)) (by decide)
                by_cases c46_ : 4 < n4
                · refine pw_eqI (if_pos c46_) ?_
                  have b47_ : 5 ≤ Int32.toInt n4 ∧ Int32.toInt n4 ≤ 2147483647 := zr_lt_r 5 c46_ b45_ (show 4 ≤ Int32.toInt 4 ∧ Int32.toInt 4 ≤ 4 from (by decide)) (by decide)
                  show PW 97 d (31, [some (pvR 124), some (pvI n1), some (pvI n2), some (pvI n3), some (pvI n4), some (pvI n5), none], [pvI 0], M) _
                  refine pw_if hT (c := 0 = 0) rfl rfl (fun c48_ => ?_) (fun c48_ => absurd (by decide) c48_)
                  refine pw_blk hT 1 (S' := (48, [some (pvR 124), some (pvI n1), some (pvI n2), some (pvI n3), some (pvI n4), some (pvI n5), none], [pvI (-2)], M)) rfl ⟨trivial, trivial⟩ ?_
                  exact pw_ret hT rfl (r := some (pvI (-2))) (M' := M) ⟨rfl, rfl⟩ ⟨⟨_, rfl, (zr_wide (show (-2) ≤ Int32.toInt (-2) ∧ Int32.toInt (-2) ≤ (-2) from (by decide)) (by decide) (by decide)), (by rw [if_neg c6_, if_neg c10_, if_neg c20_, if_neg c24_, if_neg c34_, if_neg c38_, if_neg c42_, if_pos c46_]; first | done | (rw [if_pos c46_]; done))⟩, hok, pvfr_0, (by rw [if_neg c6_, if_neg c10_, if_neg c20_, if_neg c24_, if_neg c34_, if_neg c38_, if_neg c42_, if_pos c46_]; first | done | exact rfl | (rw [if_pos c46_]; done) | (rw [if_pos c46_]; exact rfl))⟩
                · refine pw_eqI (if_neg c46_) ?_
                  have b49_ : 0 ≤ Int32.toInt n4 ∧ Int32.toInt n4 ≤ 4 := zr_nlt_r 4 c46_ b45_ (show 4 ≤ Int32.toInt 4 ∧ Int32.toInt 4 ≤ 4 from (by decide)) (by decide)
                  show PW 97 d (31, [some (pvR 124), some (pvI n1), some (pvI n2), some (pvI n3), some (pvI n4), some (pvI n5), none], [pvI 1], M) _
                  refine pw_if hT (c := 1 = 0) rfl rfl (fun c50_ => absurd c50_ (by decide)) (fun c50_ => ?_)
                  refine pw_blk hT 4 (S' := (40, [some (pvR 124), some (pvI n1), some (pvI n2), some (pvI n3), some (pvI n4), some (pvI n5), none], [pvI 9, pvI 1, pvI n5, pvR 124], M)) rfl ⟨trivial, trivial, trivial, trivial, trivial⟩ ?_
                  refine pw_callT hT (as := [pvR 124, pvI n5, pvI 1, pvI 9]) (lo1 := [some (pvR 124), some (pvI n5), some (pvI 1), some (pvI 9)]) (d1 := d) (rest := []) rfl rfl rfl rfl rfl (fun _ => rfl) (Nat.zero_le _) rfl rfl rfl (sf_X10_in_124_x_x_x M hok n5 1 9 d) ?_
                  by_cases c56_ : n5 < 1
                  · refine pw_eqI (if_pos c56_) ?_
                    have b57_ : (-2147483648) ≤ Int32.toInt n5 ∧ Int32.toInt n5 ≤ 0 := zr_lt_l 0 c56_ (zbnd n5) (show 1 ≤ Int32.toInt 1 ∧ Int32.toInt 1 ≤ 1 from (by decide)) (by decide)
                    show PW 97 d (43, [some (pvR 124), some (pvI n1), some (pvI n2), some (pvI n3), some (pvI n4), some (pvI n5), none], [pvI 0], M) _
                    refine pw_ifn hT (c := 0 = 0) rfl rfl (fun c58_ => absurd (by decide) c58_) (fun c58_ => ?_)
                    refine pw_blk hT 1 (S' := (48, [some (pvR 124), some (pvI n1), some (pvI n2), some (pvI n3), some (pvI n4), some (pvI n5), none], [pvI (-2)], M)) rfl ⟨trivial, trivial⟩ ?_
                    exact pw_ret hT rfl (r := some (pvI (-2))) (M' := M) ⟨rfl, rfl⟩ ⟨⟨_, rfl, (zr_wide (show (-2) ≤ Int32.toInt (-2) ∧ Int32.toInt (-2) ≤ (-2) from (by decide)) (by decide) (by decide)), (by rw [if_neg c6_, if_neg c10_, if_neg c20_, if_neg c24_, if_neg c34_, if_neg c38_, if_neg c42_, if_neg c46_, if_pos c56_]; first | done | (rw [if_pos c56_]; done))⟩, hok, pvfr_0, (by rw [if_neg c6_, if_neg c10_, if_neg c20_, if_neg c24_, if_neg c34_, if_neg c38_, if_neg c42_, if_neg c46_, if_pos c56_]; first | done | exact rfl | (rw [if_pos c56_]; done) | (rw [if_pos c56_]; exact rfl))⟩
                  · refine pw_eqI (if_neg c56_) ?_
                    have b59_ : 1 ≤ Int32.toInt n5 ∧ Int32.toInt n5 ≤ 2147483647 := zr_nlt_l 1 c56_ (zbnd n5) (show 1 ≤ Int32.toInt 1 ∧ Int32.toInt 1 ≤ 1 from (by decide)) (by decide)
                    by_cases c60_ : 9 < n5
                    · refine pw_eqI (if_pos c60_) ?_
                      have b61_ : 10 ≤ Int32.toInt n5 ∧ Int32.toInt n5 ≤ 2147483647 := zr_lt_r 10 c60_ b59_ (show 9 ≤ Int32.toInt 9 ∧ Int32.toInt 9 ≤ 9 from (by decide)) (by decide)
                      show PW 97 d (43, [some (pvR 124), some (pvI n1), some (pvI n2), some (pvI n3), some (pvI n4), some (pvI n5), none], [pvI 0], M) _
                      refine pw_ifn hT (c := 0 = 0) rfl rfl (fun c62_ => absurd (by decide) c62_) (fun c62_ => ?_)
                      refine pw_blk hT 1 (S' := (48, [some (pvR 124), some (pvI n1), some (pvI n2), some (pvI n3), some (pvI n4), some (pvI n5), none], [pvI (-2)], M)) rfl ⟨trivial, trivial⟩ ?_
                      exact pw_ret hT rfl (r := some (pvI (-2))) (M' := M) ⟨rfl, rfl⟩ ⟨⟨_, rfl, (zr_wide (show (-2) ≤ Int32.toInt (-2) ∧ Int32.toInt (-2) ≤ (-2) from (by decide)) (by decide) (by decide)), (by rw [if_neg c6_, if_neg c10_, if_neg c20_, if_neg c24_, if_neg c34_, if_neg c38_, if_neg c42_, if_neg c46_, if_neg c56_, if_pos c60_]; first | done | (rw [if_pos c60_]; done))⟩, hok, pvfr_0, (by rw [if_neg c6_, if_neg c10_, if_neg c20_, if_neg c24_, if_neg c34_, if_neg c38_, if_neg c42_, if_neg c46_, if_neg c56_, if_pos c60_]; first | done | exact rfl | (rw [if_pos c60_]; done) | (rw [if_pos c60_]; exact rfl))⟩
                    · refine pw_eqI (if_neg c60_) ?_
                      have b63_ : 1 ≤ Int32.toInt n5 ∧ Int32.toInt n5 ≤ 9 := zr_nlt_r 9 c60_ b59_ (show 9 ≤ Int32.toInt 9 ∧ Int32.toInt 9 ≤ 9 from (by decide)) (by decide)
                      show PW 97 d (43, [some (pvR 124), some (pvI n1), some (pvI n2), some (pvI n3), some (pvI n4), some (pvI n5), none], [pvI 1], M) _
                      refine pw_ifn hT (c := 1 = 0) rfl rfl (fun c64_ => ?_) (fun c64_ => absurd c64_ (by decide))
                      have b65_ : 0 ≤ Int32.toInt (M.1 124 0) ∧ Int32.toInt (M.1 124 0) ≤ 7 := pvok_r hok 124 0 rfl
                      refine pw_blk hT 3 (S' := (55, [some (pvR 124), some (pvI n1), some (pvI n2), some (pvI n3), some (pvI n4), some (pvI n5), none], [pvI 7, pvI (M.1 124 0)], M)) rfl ⟨trivial, rfl, trivial, trivial⟩ ?_
                      refine pw_icn hT (c := (M.1 124 0) = 7) rfl rfl (fun c66_ => ?_) (fun c66_ => ?_)
                      · have b67_ : 0 ≤ Int32.toInt (M.1 124 0) ∧ Int32.toInt (M.1 124 0) ≤ 6 := (by have u0 := b65_; have u1 := (not_congr (zi_eq _ _)).mp c66_; have u2 := (show 7 ≤ Int32.toInt 7 ∧ Int32.toInt 7 ≤ 7 from (by decide)); omega)
                        refine pw_blkw hT 6 (pc := 71) (lo := [some (pvR 124), some (pvI n1), some (pvI n2), some (pvI n3), some (pvI n4), some (pvI n5), none]) (st := []) (M := pvu M 125 (Int32.toNatClampNeg (M.1 124 0)) n1) rfl ⟨trivial, rfl, trivial, rfl, trivial, ⟨rfl, (zr_in (n := 7) b67_ (by decide) (by decide))⟩, trivial⟩ (fun M68_ e69_ => ?_)
                        have o70_ : pvOk M68_ := pvok_u2 e69_ hok rfl b13_
                        have f71_ : pvFr fp_eX10_window_124_x_x_x_x_x M M68_ := pvfr_u e69_ pvfr_0 rfl
                        have e72_ : (M68_.1 124 0) = (M.1 124 0) := (pvu_n e69_ 124 0 (Or.inl (by decide)))
                        have b73_ : 0 ≤ Int32.toInt (M68_.1 124 0) ∧ Int32.toInt (M68_.1 124 0) ≤ 6 := (by rw [e72_]; exact b67_)
                        refine pw_blkw hT 6 (pc := 81) (lo := [some (pvR 124), some (pvI n1), some (pvI n2), some (pvI n3), some (pvI n4), some (pvI n5), none]) (st := []) (M := pvu M68_ 126 (Int32.toNatClampNeg (M68_.1 124 0)) n2) rfl ⟨trivial, rfl, trivial, rfl, trivial, ⟨rfl, (zr_in (n := 7) b73_ (by decide) (by decide))⟩, trivial⟩ (fun M74_ e75_ => ?_)
                        have o76_ : pvOk M74_ := pvok_u2 e75_ o70_ rfl b27_
                        have f77_ : pvFr fp_eX10_window_124_x_x_x_x_x M M74_ := pvfr_u e75_ f71_ rfl
                        have e78_ : (M74_.1 124 0) = (M68_.1 124 0) := (pvu_n e75_ 124 0 (Or.inl (by decide)))
                        have b79_ : 0 ≤ Int32.toInt (M74_.1 124 0) ∧ Int32.toInt (M74_.1 124 0) ≤ 6 := (by rw [e78_]; exact b73_)
                        refine pw_blkw hT 6 (pc := 91) (lo := [some (pvR 124), some (pvI n1), some (pvI n2), some (pvI n3), some (pvI n4), some (pvI n5), none]) (st := []) (M := pvu M74_ 127 (Int32.toNatClampNeg (M74_.1 124 0)) n3) rfl ⟨trivial, rfl, trivial, rfl, trivial, ⟨rfl, (zr_in (n := 7) b79_ (by decide) (by decide))⟩, trivial⟩ (fun M80_ e81_ => ?_)
                        have o82_ : pvOk M80_ := pvok_u2 e81_ o76_ rfl b41_
                        have f83_ : pvFr fp_eX10_window_124_x_x_x_x_x M M80_ := pvfr_u e81_ f77_ rfl
                        have e84_ : (M80_.1 124 0) = (M74_.1 124 0) := (pvu_n e81_ 124 0 (Or.inl (by decide)))
                        have b85_ : 0 ≤ Int32.toInt (M80_.1 124 0) ∧ Int32.toInt (M80_.1 124 0) ≤ 6 := (by rw [e84_]; exact b79_)
                        refine pw_blkw hT 6 (pc := 102) (lo := [some (pvR 124), some (pvI n1), some (pvI n2), some (pvI n3), some (pvI n4), some (pvI n5), none]) (st := []) (M := pvu M80_ 128 (Int32.toNatClampNeg (M80_.1 124 0)) n4) rfl ⟨trivial, rfl, trivial, rfl, trivial, ⟨rfl, (zr_in (n := 7) b85_ (by decide) (by decide))⟩, trivial⟩ (fun M86_ e87_ => ?_)
                        have o88_ : pvOk M86_ := pvok_u2 e87_ o82_ rfl b49_
                        have f89_ : pvFr fp_eX10_window_124_x_x_x_x_x M M86_ := pvfr_u e87_ f83_ rfl
                        have e90_ : (M86_.1 124 0) = (M80_.1 124 0) := (pvu_n e87_ 124 0 (Or.inl (by decide)))
                        have b91_ : 0 ≤ Int32.toInt (M86_.1 124 0) ∧ Int32.toInt (M86_.1 124 0) ≤ 6 := (by rw [e90_]; exact b85_)
                        refine pw_blkw hT 6 (pc := 113) (lo := [some (pvR 124), some (pvI n1), some (pvI n2), some (pvI n3), some (pvI n4), some (pvI n5), none]) (st := []) (M := pvu M86_ 129 (Int32.toNatClampNeg (M86_.1 124 0)) n5) rfl ⟨trivial, rfl, trivial, rfl, trivial, ⟨rfl, (zr_in (n := 7) b91_ (by decide) (by decide))⟩, trivial⟩ (fun M92_ e93_ => ?_)
                        have o94_ : pvOk M92_ := pvok_u2 e93_ o88_ rfl (zr_wide b63_ (by decide) (by decide))
                        have f95_ : pvFr fp_eX10_window_124_x_x_x_x_x M M92_ := pvfr_u e93_ f89_ rfl
                        have e96_ : (M92_.1 124 0) = (M86_.1 124 0) := (pvu_n e93_ 124 0 (Or.inl (by decide)))
                        have b97_ : 0 ≤ Int32.toInt (M92_.1 124 0) ∧ Int32.toInt (M92_.1 124 0) ≤ 6 := (by rw [e96_]; exact b91_)
                        refine pw_blkw hT 6 (pc := 123) (lo := [some (pvR 124), some (pvI n1), some (pvI n2), some (pvI n3), some (pvI n4), some (pvI n5), none]) (st := []) (M := pvu M92_ 131 (Int32.toNatClampNeg (M92_.1 124 0)) (vp_nar .boolean 0)) rfl ⟨trivial, rfl, trivial, rfl, trivial, ⟨rfl, (zr_in (n := 7) b97_ (by decide) (by decide))⟩, trivial⟩ (fun M98_ e99_ => ?_)
                        have o100_ : pvOk M98_ := pvok_u2 e99_ o94_ rfl (zboolr 0)
                        have f101_ : pvFr fp_eX10_window_124_x_x_x_x_x M M98_ := pvfr_u e99_ f95_ rfl
                        refine pw_blk hT 2 (S' := (126, [some (pvR 124), some (pvI n1), some (pvI n2), some (pvI n3), some (pvI n4), some (pvI n5), some (pvI 0)], [], M98_)) rfl ⟨trivial, trivial, trivial⟩ ?_
                        have e102_ : (M98_.1 124 0) = (M92_.1 124 0) := (pvu_n e99_ 124 0 (Or.inl (by decide)))
                        have b103_ : 0 ≤ Int32.toInt (M98_.1 124 0) ∧ Int32.toInt (M98_.1 124 0) ≤ 6 := (by rw [e102_]; exact b97_)
                        have hlz196_ : ∀ (nz196_ : Nat) (i6z196_ : Int32) (Mz196_ : pvM), (pvOk Mz196_) → (pvFr fp_eX10_window_124_x_x_x_x_x M Mz196_) → (Mz196_.1 124 0 = M98_.1 124 0) → (0 ≤ Int32.toInt i6z196_ ∧ Int32.toInt i6z196_ ≤ 4) → (Mz196_.1 124 0 = (M.1 124 0)) → (zhide ((5 - Int32.toInt i6z196_).toNat < nz196_)) → PW 97 d (126, [some (pvR 124), some (pvI n1), some (pvI n2), some (pvI n3), some (pvI n4), some (pvI n5), some (pvI i6z196_)], [], Mz196_) (fun r X => (∃ x : Int32, r = some (pvI x) ∧ ((-4) ≤ Int32.toInt x ∧ Int32.toInt x ≤ 6) ∧ x = (if n1 < 0 then (-1) else (if 6 < n1 then (-1) else (if n2 < 0 then (-2) else (if 9 < n2 then (-2) else (if n3 < 0 then (-2) else (if 3 < n3 then (-2) else (if n4 < 0 then (-2) else (if 4 < n4 then (-2) else (if n5 < 1 then (-2) else (if 9 < n5 then (-2) else (if (M.1 124 0) = 7 then (-4) else (((M.1 124 0) + 1) - 1))))))))))))) ∧ pvOk X ∧ pvFr fp_eX10_window_124_x_x_x_x_x M X ∧ X.1 124 0 = (if n1 < 0 then (M.1 124 0) else (if 6 < n1 then (M.1 124 0) else (if n2 < 0 then (M.1 124 0) else (if 9 < n2 then (M.1 124 0) else (if n3 < 0 then (M.1 124 0) else (if 3 < n3 then (M.1 124 0) else (if n4 < 0 then (M.1 124 0) else (if 4 < n4 then (M.1 124 0) else (if n5 < 1 then (M.1 124 0) else (if 9 < n5 then (M.1 124 0) else (if (M.1 124 0) = 7 then (M.1 124 0) else ((M.1 124 0) + 1))))))))))))) := by
                          intro nz196_
                          induction nz196_ with
                          | zero => intro i6z196_ Mz196_ oz196_ fz196_ k124_0z196_ h6z196_ j0z196_ hmz196_; exact absurd (zshow hmz196_) (Nat.not_lt_zero _)
                          | succ nz196_ ihz196_ =>
                            intro i6z196_ Mz196_ oz196_ fz196_ k124_0z196_ h6z196_ j0z196_ hmz196_
                            refine pw_blk hT 2 (S' := (129, [some (pvR 124), some (pvI n1), some (pvI n2), some (pvI n3), some (pvI n4), some (pvI n5), some (pvI i6z196_)], [pvI 4, pvI i6z196_], Mz196_)) rfl ⟨trivial, trivial, trivial⟩ ?_
                            refine pw_ic hT (c := 4 ≤ i6z196_) rfl rfl (fun c197_ => ?_) (fun c197_ => ?_)
                            · have b198_ : 4 ≤ Int32.toInt i6z196_ ∧ Int32.toInt i6z196_ ≤ 4 := zr_le_r 4 c197_ h6z196_ (show 4 ≤ Int32.toInt 4 ∧ Int32.toInt 4 ≤ 4 from (by decide)) (by decide)
                              have e199_ : (Mz196_.1 124 0) = (M98_.1 124 0) := (k124_0z196_)
                              have b200_ : 0 ≤ Int32.toInt (Mz196_.1 124 0) ∧ Int32.toInt (Mz196_.1 124 0) ≤ 6 := (by rw [e199_]; exact b103_)
                              obtain ⟨q202_, b201_⟩ : (Int32.toInt ((Mz196_.1 124 0) + 1) = Int32.toInt (Mz196_.1 124 0) + 1) ∧ (1 ≤ Int32.toInt ((Mz196_.1 124 0) + 1) ∧ Int32.toInt ((Mz196_.1 124 0) + 1) ≤ 7) := zadd_k (Mz196_.1 124 0) 1 1 1 7 b200_ (by decide) (by decide) (by decide) (by decide) (by decide)
                              refine pw_blkw hT 6 (pc := 163) (lo := [some (pvR 124), some (pvI n1), some (pvI n2), some (pvI n3), some (pvI n4), some (pvI n5), some (pvI i6z196_)]) (st := []) (M := pvu Mz196_ 124 0 ((Mz196_.1 124 0) + 1)) rfl ⟨trivial, trivial, rfl, trivial, trivial, rfl, trivial⟩ (fun M203_ e204_ => ?_)
                              have o205_ : pvOk M203_ := pvok_u2 e204_ oz196_ rfl (zr_wide b201_ (by decide) (by decide))
                              have f206_ : pvFr fp_eX10_window_124_x_x_x_x_x M M203_ := pvfr_u e204_ fz196_ rfl
                              have e207_ : (M203_.1 124 0) = ((Mz196_.1 124 0) + 1) := (pvu_s e204_)
                              have b208_ : 1 ≤ Int32.toInt (M203_.1 124 0) ∧ Int32.toInt (M203_.1 124 0) ≤ 7 := (by rw [e207_]; exact b201_)
                              obtain ⟨q210_, b209_⟩ : (Int32.toInt ((M203_.1 124 0) - 1) = Int32.toInt (M203_.1 124 0) - 1) ∧ (0 ≤ Int32.toInt ((M203_.1 124 0) - 1) ∧ Int32.toInt ((M203_.1 124 0) - 1) ≤ 6) := zsub_k (M203_.1 124 0) 1 1 0 6 b208_ (by decide) (by decide) (by decide) (by decide) (by decide)
                              refine pw_blk hT 4 (S' := (169, [some (pvR 124), some (pvI n1), some (pvI n2), some (pvI n3), some (pvI n4), some (pvI n5), some (pvI i6z196_)], [pvI ((M203_.1 124 0) - 1)], M203_)) rfl ⟨trivial, rfl, trivial, trivial, trivial⟩ ?_
                              exact pw_ret hT rfl (r := some (pvI ((M203_.1 124 0) - 1))) (M' := M203_) ⟨rfl, rfl⟩ ⟨⟨_, rfl, (zr_wide b209_ (by decide) (by decide)), (by rw [if_neg c6_, if_neg c10_, if_neg c20_, if_neg c24_, if_neg c34_, if_neg c38_, if_neg c42_, if_neg c46_, if_neg c56_, if_neg c60_, if_neg c66_]; first | done | exact (show ((M203_.1 124 0) - 1) = (((M.1 124 0) + 1) - 1) from by rw [((pvu_s e204_).trans (show ((Mz196_.1 124 0) + 1) = ((M.1 124 0) + 1) from by rw [j0z196_]))]) | (rw [if_neg c66_]; exact (show ((M203_.1 124 0) - 1) = (((M.1 124 0) + 1) - 1) from by rw [((pvu_s e204_).trans (show ((Mz196_.1 124 0) + 1) = ((M.1 124 0) + 1) from by rw [j0z196_]))])))⟩, o205_, f206_, (by rw [if_neg c6_, if_neg c10_, if_neg c20_, if_neg c24_, if_neg c34_, if_neg c38_, if_neg c42_, if_neg c46_, if_neg c56_, if_neg c60_, if_neg c66_]; first | done | exact ((pvu_s e204_).trans (show ((Mz196_.1 124 0) + 1) = ((M.1 124 0) + 1) from by rw [j0z196_])) | (rw [if_neg c66_]; done) | (rw [if_neg c66_]; exact ((pvu_s e204_).trans (show ((Mz196_.1 124 0) + 1) = ((M.1 124 0) + 1) from by rw [j0z196_]))))⟩
                            · have b211_ : 0 ≤ Int32.toInt i6z196_ ∧ Int32.toInt i6z196_ ≤ 3 := zr_nle_r 3 c197_ h6z196_ (show 4 ≤ Int32.toInt 4 ∧ Int32.toInt 4 ≤ 4 from (by decide)) (by decide)
                              have e212_ : (Mz196_.1 124 0) = (M98_.1 124 0) := (k124_0z196_)
                              have b213_ : 0 ≤ Int32.toInt (Mz196_.1 124 0) ∧ Int32.toInt (Mz196_.1 124 0) ≤ 6 := (by rw [e212_]; exact b103_)
                              have q214_ : Int32.toInt (4 * (Mz196_.1 124 0)) = 4 * Int32.toInt (Mz196_.1 124 0) := by have u0 : Int32.toInt 4 = 4 := (by decide); have u1 := b213_; have u2 := zmul 4 (Mz196_.1 124 0) (by rw [u0]; omega) (by rw [u0]; omega); rw [u0] at u2; omega
                              have b215_ : 0 ≤ Int32.toInt (4 * (Mz196_.1 124 0)) ∧ Int32.toInt (4 * (Mz196_.1 124 0)) ≤ 24 := (by have u1 := b213_; omega)
                              obtain ⟨q217_, b216_⟩ : (Int32.toInt ((4 * (Mz196_.1 124 0)) + i6z196_) = Int32.toInt (4 * (Mz196_.1 124 0)) + Int32.toInt i6z196_) ∧ (0 ≤ Int32.toInt ((4 * (Mz196_.1 124 0)) + i6z196_) ∧ Int32.toInt ((4 * (Mz196_.1 124 0)) + i6z196_) ≤ 27) := zadd_r (4 * (Mz196_.1 124 0)) i6z196_ 0 27 b215_ b211_ (by decide) (by decide) (by decide) (by decide)
                              refine pw_blkw hT 10 (pc := 147) (lo := [some (pvR 124), some (pvI n1), some (pvI n2), some (pvI n3), some (pvI n4), some (pvI n5), some (pvI i6z196_)]) (st := []) (M := pvu Mz196_ 130 (Int32.toNatClampNeg ((4 * (Mz196_.1 124 0)) + i6z196_)) 0) rfl ⟨trivial, rfl, trivial, trivial, rfl, trivial, trivial, trivial, trivial, ⟨rfl, (zr_in (n := 28) b216_ (by decide) (by decide))⟩, trivial⟩ (fun M218_ e219_ => ?_)
                              have o220_ : pvOk M218_ := pvok_u2 e219_ oz196_ rfl (zr_wide (show 0 ≤ Int32.toInt 0 ∧ Int32.toInt 0 ≤ 0 from (by decide)) (by decide) (by decide))
                              have f221_ : pvFr fp_eX10_window_124_x_x_x_x_x M M218_ := pvfr_u e219_ fz196_ rfl
                              obtain ⟨q223_, b222_⟩ : (Int32.toInt (i6z196_ + 1) = Int32.toInt i6z196_ + 1) ∧ (1 ≤ Int32.toInt (i6z196_ + 1) ∧ Int32.toInt (i6z196_ + 1) ≤ 4) := zadd_k i6z196_ 1 1 1 4 b211_ (by decide) (by decide) (by decide) (by decide) (by decide)
                              refine pw_blk hT 2 (S' := (126, [some (pvR 124), some (pvI n1), some (pvI n2), some (pvI n3), some (pvI n4), some (pvI n5), some (pvI (i6z196_ + 1))], [], M218_)) rfl ⟨trivial, trivial, trivial⟩ ?_
                              have j224_ : M218_.1 124 0 = (M.1 124 0) := ((pvu_n e219_ 124 0 (Or.inl (by decide))).trans (j0z196_))
                              exact ihz196_ (i6z196_ + 1) M218_ o220_ f221_ ((pvu_n e219_ 124 0 (Or.inl (by decide))).trans (k124_0z196_)) (zr_wide b222_ (by decide) (by decide)) j224_ (zhid (pvms_up (zshow hmz196_) h6z196_ q223_ (by decide) (by decide)))
                        have u225_ : Int32.toInt 0 = 0 := by decide
                        have j226_ : M98_.1 124 0 = (M.1 124 0) := ((((((pvu_n e99_ 124 0 (Or.inl (by decide))).trans (pvu_n e93_ 124 0 (Or.inl (by decide)))).trans (pvu_n e87_ 124 0 (Or.inl (by decide)))).trans (pvu_n e81_ 124 0 (Or.inl (by decide)))).trans (pvu_n e75_ 124 0 (Or.inl (by decide)))).trans (pvu_n e69_ 124 0 (Or.inl (by decide))))
                        exact hlz196_ _ 0 M98_ o100_ f101_ rfl (zr_wide (show 0 ≤ Int32.toInt 0 ∧ Int32.toInt 0 ≤ 0 from (by decide)) (by decide) (by decide)) j226_ (zhid (Nat.lt_succ_self _))
                      · have b227_ : 7 ≤ Int32.toInt (M.1 124 0) ∧ Int32.toInt (M.1 124 0) ≤ 7 := (by have u0 := b65_; have u1 := (zi_eq _ _).mp c66_; have u2 := (show 7 ≤ Int32.toInt 7 ∧ Int32.toInt 7 ≤ 7 from (by decide)); omega)
                        refine pw_blk hT 1 (S' := (60, [some (pvR 124), some (pvI n1), some (pvI n2), some (pvI n3), some (pvI n4), some (pvI n5), none], [pvI (-4)], M)) rfl ⟨trivial, trivial⟩ ?_
                        exact pw_ret hT rfl (r := some (pvI (-4))) (M' := M) ⟨rfl, rfl⟩ ⟨⟨_, rfl, (zr_wide (show (-4) ≤ Int32.toInt (-4) ∧ Int32.toInt (-4) ≤ (-4) from (by decide)) (by decide) (by decide)), (by rw [if_neg c6_, if_neg c10_, if_neg c20_, if_neg c24_, if_neg c34_, if_neg c38_, if_neg c42_, if_neg c46_, if_neg c56_, if_neg c60_, if_pos c66_]; first | done | (rw [if_pos c66_]; done))⟩, hok, pvfr_0, (by rw [if_neg c6_, if_neg c10_, if_neg c20_, if_neg c24_, if_neg c34_, if_neg c38_, if_neg c42_, if_neg c46_, if_neg c56_, if_neg c60_, if_pos c66_]; first | done | exact rfl | (rw [if_pos c66_]; done) | (rw [if_pos c66_]; exact rfl))⟩
def fpL_eX6_append_100_x_x : List (Nat × Nat × Nat) := [(0, 100, 1), (0, 108, 0), (0, 116, 0)]
def fp_eX6_append_100_x_x (q k : Nat) : Bool := pvfp fpL_eX6_append_100_x_x q k
set_option maxHeartbeats 4000000 in
set_option maxRecDepth 10000 in
theorem se_X6_append_100_x_x (M : pvM) (hok : pvOk M) (n1 : Int32) (n2 : Int32) (hn1 : 0 ≤ Int32.toInt n1 ∧ Int32.toInt n1 ≤ 6) (hn2 : 0 ≤ Int32.toInt n2 ∧ Int32.toInt n2 ≤ 9999) (d : Nat) : PW 151 d (0, [some (pvR 100), some (pvI n1), some (pvI n2)], [], M) (fun r X => (∃ x : Int32, r = some (pvI x) ∧ (1 ≤ Int32.toInt x ∧ Int32.toInt x ≤ 7) ∧ x = (if (M.1 100 0) < (Int32.ofNat 7) then ((M.1 100 0) + 1) else (M.1 100 0))) ∧ pvOk X ∧ pvFr fp_eX6_append_100_x_x M X ∧ X.1 100 0 = (if (M.1 100 0) < (Int32.ofNat 7) then ((M.1 100 0) + 1) else (M.1 100 0))) := by
  have hT : pvdom 151 = pvD_151 := rfl
  refine pw_blk hT 1 (S' := (1, [some (pvR 100), some (pvI n1), some (pvI n2)], [pvR 100], M)) rfl ⟨trivial, trivial⟩ ?_
  refine pw_callT hT (as := [pvR 100]) (lo1 := [some (pvR 100)]) (d1 := d) (rest := []) rfl rfl rfl rfl rfl (fun _ => rfl) (Nat.zero_le _) rfl rfl rfl (sf_X6_isFull_100 M hok d) ?_
  have b6_ : 0 ≤ Int32.toInt (M.1 100 0) ∧ Int32.toInt (M.1 100 0) ≤ 7 := pvok_r hok 100 0 rfl
  by_cases c7_ : (M.1 100 0) < (Int32.ofNat 7)
  · refine pw_eqI (if_pos c7_) ?_
    have b8_ : 0 ≤ Int32.toInt (M.1 100 0) ∧ Int32.toInt (M.1 100 0) ≤ 6 := zr_lt_l 6 c7_ b6_ (show 7 ≤ Int32.toInt (Int32.ofNat 7) ∧ Int32.toInt (Int32.ofNat 7) ≤ 7 from (by decide)) (by decide)
    show PW 151 d (4, [some (pvR 100), some (pvI n1), some (pvI n2)], [pvI 0], M) _
    refine pw_if hT (c := 0 = 0) rfl rfl (fun c9_ => ?_) (fun c9_ => absurd (by decide) c9_)
    refine pw_blkw hT 6 (pc := 22) (lo := [some (pvR 100), some (pvI n1), some (pvI n2)]) (st := []) (M := pvu M 108 (Int32.toNatClampNeg (M.1 100 0)) n1) rfl ⟨trivial, rfl, trivial, rfl, trivial, ⟨rfl, (zr_in (n := 7) b8_ (by decide) (by decide))⟩, trivial⟩ (fun M10_ e11_ => ?_)
    have o12_ : pvOk M10_ := pvok_u2 e11_ hok rfl hn1
    have f13_ : pvFr fp_eX6_append_100_x_x M M10_ := pvfr_u e11_ pvfr_0 rfl
    have e14_ : (M10_.1 100 0) = (M.1 100 0) := (pvu_n e11_ 100 0 (Or.inl (by decide)))
    have b15_ : 0 ≤ Int32.toInt (M10_.1 100 0) ∧ Int32.toInt (M10_.1 100 0) ≤ 6 := (by rw [e14_]; exact b8_)
    refine pw_blkw hT 6 (pc := 32) (lo := [some (pvR 100), some (pvI n1), some (pvI n2)]) (st := []) (M := pvu M10_ 116 (Int32.toNatClampNeg (M10_.1 100 0)) n2) rfl ⟨trivial, rfl, trivial, rfl, trivial, ⟨rfl, (zr_in (n := 7) b15_ (by decide) (by decide))⟩, trivial⟩ (fun M16_ e17_ => ?_)
    have o18_ : pvOk M16_ := pvok_u2 e17_ o12_ rfl hn2
    have f19_ : pvFr fp_eX6_append_100_x_x M M16_ := pvfr_u e17_ f13_ rfl
    have e20_ : (M16_.1 100 0) = (M10_.1 100 0) := (pvu_n e17_ 100 0 (Or.inl (by decide)))
    have b21_ : 0 ≤ Int32.toInt (M16_.1 100 0) ∧ Int32.toInt (M16_.1 100 0) ≤ 6 := (by rw [e20_]; exact b15_)
    obtain ⟨q23_, b22_⟩ : (Int32.toInt ((M16_.1 100 0) + 1) = Int32.toInt (M16_.1 100 0) + 1) ∧ (1 ≤ Int32.toInt ((M16_.1 100 0) + 1) ∧ Int32.toInt ((M16_.1 100 0) + 1) ≤ 7) := zadd_k (M16_.1 100 0) 1 1 1 7 b21_ (by decide) (by decide) (by decide) (by decide) (by decide)
    refine pw_blkw hT 6 (pc := 42) (lo := [some (pvR 100), some (pvI n1), some (pvI n2)]) (st := []) (M := pvu M16_ 100 0 ((M16_.1 100 0) + 1)) rfl ⟨trivial, trivial, rfl, trivial, trivial, rfl, trivial⟩ (fun M24_ e25_ => ?_)
    have o26_ : pvOk M24_ := pvok_u2 e25_ o18_ rfl (zr_wide b22_ (by decide) (by decide))
    have f27_ : pvFr fp_eX6_append_100_x_x M M24_ := pvfr_u e25_ f19_ rfl
    have e28_ : (M24_.1 100 0) = ((M16_.1 100 0) + 1) := (pvu_s e25_)
    have b29_ : 1 ≤ Int32.toInt (M24_.1 100 0) ∧ Int32.toInt (M24_.1 100 0) ≤ 7 := (by rw [e28_]; exact b22_)
    refine pw_blk hT 2 (S' := (46, [some (pvR 100), some (pvI n1), some (pvI n2)], [pvI (M24_.1 100 0)], M24_)) rfl ⟨trivial, rfl, trivial⟩ ?_
    exact pw_ret hT rfl (r := some (pvI (M24_.1 100 0))) (M' := M24_) ⟨rfl, rfl⟩ ⟨⟨_, rfl, b29_, (by rw [if_pos c7_]; first | done | exact (show (M24_.1 100 0) = ((M.1 100 0) + 1) from by rw [((pvu_s e25_).trans (show ((M16_.1 100 0) + 1) = ((M.1 100 0) + 1) from by rw [((pvu_n e17_ 100 0 (Or.inl (by decide))).trans (pvu_n e11_ 100 0 (Or.inl (by decide))))]))]) | (rw [if_pos c7_]; exact (show (M24_.1 100 0) = ((M.1 100 0) + 1) from by rw [((pvu_s e25_).trans (show ((M16_.1 100 0) + 1) = ((M.1 100 0) + 1) from by rw [((pvu_n e17_ 100 0 (Or.inl (by decide))).trans (pvu_n e11_ 100 0 (Or.inl (by decide))))]))])))⟩, o26_, f27_, (by rw [if_pos c7_]; first | done | exact ((pvu_s e25_).trans (show ((M16_.1 100 0) + 1) = ((M.1 100 0) + 1) from by rw [((pvu_n e17_ 100 0 (Or.inl (by decide))).trans (pvu_n e11_ 100 0 (Or.inl (by decide))))])) | (rw [if_pos c7_]; done) | (rw [if_pos c7_]; exact ((pvu_s e25_).trans (show ((M16_.1 100 0) + 1) = ((M.1 100 0) + 1) from by rw [((pvu_n e17_ 100 0 (Or.inl (by decide))).trans (pvu_n e11_ 100 0 (Or.inl (by decide))))]))))⟩
  · refine pw_eqI (if_neg c7_) ?_
    have b30_ : 7 ≤ Int32.toInt (M.1 100 0) ∧ Int32.toInt (M.1 100 0) ≤ 7 := zr_nlt_l 7 c7_ b6_ (show 7 ≤ Int32.toInt (Int32.ofNat 7) ∧ Int32.toInt (Int32.ofNat 7) ≤ 7 from (by decide)) (by decide)
    show PW 151 d (4, [some (pvR 100), some (pvI n1), some (pvI n2)], [pvI 1], M) _
    refine pw_if hT (c := 1 = 0) rfl rfl (fun c31_ => absurd c31_ (by decide)) (fun c31_ => ?_)
    refine pw_blk hT 2 (S' := (11, [some (pvR 100), some (pvI n1), some (pvI n2)], [pvI (M.1 100 0)], M)) rfl ⟨trivial, rfl, trivial⟩ ?_
    exact pw_ret hT rfl (r := some (pvI (M.1 100 0))) (M' := M) ⟨rfl, rfl⟩ ⟨⟨_, rfl, (zr_wide b30_ (by decide) (by decide)), (by rw [if_neg c7_]; first | done | (rw [if_neg c7_]; done))⟩, hok, pvfr_0, (by rw [if_neg c7_]; first | done | exact rfl | (rw [if_neg c7_]; done) | (rw [if_neg c7_]; exact rfl))⟩
def fpL_eX6_clear_100 : List (Nat × Nat × Nat) := [(0, 100, 1)]
def fp_eX6_clear_100 (q k : Nat) : Bool := pvfp fpL_eX6_clear_100 q k
set_option maxHeartbeats 4000000 in
set_option maxRecDepth 10000 in
theorem se_X6_clear_100 (M : pvM) (hok : pvOk M) (d : Nat) : PW 153 d (0, [some (pvR 100)], [], M) (fun r X => (∃ x : Int32, r = some (pvI x) ∧ (0 ≤ Int32.toInt x ∧ Int32.toInt x ≤ 0) ∧ x = 0) ∧ pvOk X ∧ pvFr fp_eX6_clear_100 M X ∧ X.1 100 0 = 0) := by
  have hT : pvdom 153 = pvD_153 := rfl
  refine pw_blkw hT 3 (pc := 5) (lo := [some (pvR 100)]) (st := []) (M := pvu M 100 0 0) rfl ⟨trivial, trivial, rfl, trivial⟩ (fun M1_ e2_ => ?_)
  have o3_ : pvOk M1_ := pvok_u2 e2_ hok rfl (zr_wide (show 0 ≤ Int32.toInt 0 ∧ Int32.toInt 0 ≤ 0 from (by decide)) (by decide) (by decide))
  have f4_ : pvFr fp_eX6_clear_100 M M1_ := pvfr_u e2_ pvfr_0 rfl
  refine pw_blk hT 1 (S' := (6, [some (pvR 100)], [pvI 0], M1_)) rfl ⟨trivial, trivial⟩ ?_
  exact pw_ret hT rfl (r := some (pvI 0)) (M' := M1_) ⟨rfl, rfl⟩ ⟨⟨_, rfl, (show 0 ≤ Int32.toInt 0 ∧ Int32.toInt 0 ≤ 0 from (by decide)), rfl⟩, o3_, f4_, (pvu_s e2_)⟩
def fpL_eX6_clear_106 : List (Nat × Nat × Nat) := [(0, 106, 1)]
def fp_eX6_clear_106 (q k : Nat) : Bool := pvfp fpL_eX6_clear_106 q k
set_option maxHeartbeats 4000000 in
set_option maxRecDepth 10000 in
theorem se_X6_clear_106 (M : pvM) (hok : pvOk M) (d : Nat) : PW 153 d (0, [some (pvR 106)], [], M) (fun r X => (∃ x : Int32, r = some (pvI x) ∧ (0 ≤ Int32.toInt x ∧ Int32.toInt x ≤ 0) ∧ x = 0) ∧ pvOk X ∧ pvFr fp_eX6_clear_106 M X ∧ X.1 106 0 = 0) := by
  have hT : pvdom 153 = pvD_153 := rfl
  refine pw_blkw hT 3 (pc := 5) (lo := [some (pvR 106)]) (st := []) (M := pvu M 106 0 0) rfl ⟨trivial, trivial, rfl, trivial⟩ (fun M1_ e2_ => ?_)
  have o3_ : pvOk M1_ := pvok_u2 e2_ hok rfl (zr_wide (show 0 ≤ Int32.toInt 0 ∧ Int32.toInt 0 ≤ 0 from (by decide)) (by decide) (by decide))
  have f4_ : pvFr fp_eX6_clear_106 M M1_ := pvfr_u e2_ pvfr_0 rfl
  refine pw_blk hT 1 (S' := (6, [some (pvR 106)], [pvI 0], M1_)) rfl ⟨trivial, trivial⟩ ?_
  exact pw_ret hT rfl (r := some (pvI 0)) (M' := M1_) ⟨rfl, rfl⟩ ⟨⟨_, rfl, (show 0 ≤ Int32.toInt 0 ∧ Int32.toInt 0 ≤ 0 from (by decide)), rfl⟩, o3_, f4_, (pvu_s e2_)⟩
def fpL_eX6_clear_107 : List (Nat × Nat × Nat) := [(0, 107, 1)]
def fp_eX6_clear_107 (q k : Nat) : Bool := pvfp fpL_eX6_clear_107 q k
set_option maxHeartbeats 4000000 in
set_option maxRecDepth 10000 in
theorem se_X6_clear_107 (M : pvM) (hok : pvOk M) (d : Nat) : PW 153 d (0, [some (pvR 107)], [], M) (fun r X => (∃ x : Int32, r = some (pvI x) ∧ (0 ≤ Int32.toInt x ∧ Int32.toInt x ≤ 0) ∧ x = 0) ∧ pvOk X ∧ pvFr fp_eX6_clear_107 M X ∧ X.1 107 0 = 0) := by
  have hT : pvdom 153 = pvD_153 := rfl
  refine pw_blkw hT 3 (pc := 5) (lo := [some (pvR 107)]) (st := []) (M := pvu M 107 0 0) rfl ⟨trivial, trivial, rfl, trivial⟩ (fun M1_ e2_ => ?_)
  have o3_ : pvOk M1_ := pvok_u2 e2_ hok rfl (zr_wide (show 0 ≤ Int32.toInt 0 ∧ Int32.toInt 0 ≤ 0 from (by decide)) (by decide) (by decide))
  have f4_ : pvFr fp_eX6_clear_107 M M1_ := pvfr_u e2_ pvfr_0 rfl
  refine pw_blk hT 1 (S' := (6, [some (pvR 107)], [pvI 0], M1_)) rfl ⟨trivial, trivial⟩ ?_
  exact pw_ret hT rfl (r := some (pvI 0)) (M' := M1_) ⟨rfl, rfl⟩ ⟨⟨_, rfl, (show 0 ≤ Int32.toInt 0 ∧ Int32.toInt 0 ≤ 0 from (by decide)), rfl⟩, o3_, f4_, (pvu_s e2_)⟩
def fpL_eX6_append_107_x_x : List (Nat × Nat × Nat) := [(0, 107, 1), (0, 115, 0), (0, 123, 0)]
def fp_eX6_append_107_x_x (q k : Nat) : Bool := pvfp fpL_eX6_append_107_x_x q k
set_option maxHeartbeats 4000000 in
set_option maxRecDepth 10000 in
theorem se_X6_append_107_x_x (M : pvM) (hok : pvOk M) (n1 : Int32) (n2 : Int32) (hn1 : 0 ≤ Int32.toInt n1 ∧ Int32.toInt n1 ≤ 6) (hn2 : 0 ≤ Int32.toInt n2 ∧ Int32.toInt n2 ≤ 9999) (d : Nat) : PW 151 d (0, [some (pvR 107), some (pvI n1), some (pvI n2)], [], M) (fun r X => (∃ x : Int32, r = some (pvI x) ∧ (1 ≤ Int32.toInt x ∧ Int32.toInt x ≤ 7) ∧ x = (if (M.1 107 0) < (Int32.ofNat 7) then ((M.1 107 0) + 1) else (M.1 107 0))) ∧ pvOk X ∧ pvFr fp_eX6_append_107_x_x M X ∧ X.1 107 0 = (if (M.1 107 0) < (Int32.ofNat 7) then ((M.1 107 0) + 1) else (M.1 107 0))) := by
  have hT : pvdom 151 = pvD_151 := rfl
  refine pw_blk hT 1 (S' := (1, [some (pvR 107), some (pvI n1), some (pvI n2)], [pvR 107], M)) rfl ⟨trivial, trivial⟩ ?_
  refine pw_callT hT (as := [pvR 107]) (lo1 := [some (pvR 107)]) (d1 := d) (rest := []) rfl rfl rfl rfl rfl (fun _ => rfl) (Nat.zero_le _) rfl rfl rfl (sf_X6_isFull_107 M hok d) ?_
  have b6_ : 0 ≤ Int32.toInt (M.1 107 0) ∧ Int32.toInt (M.1 107 0) ≤ 7 := pvok_r hok 107 0 rfl
  by_cases c7_ : (M.1 107 0) < (Int32.ofNat 7)
  · refine pw_eqI (if_pos c7_) ?_
    have b8_ : 0 ≤ Int32.toInt (M.1 107 0) ∧ Int32.toInt (M.1 107 0) ≤ 6 := zr_lt_l 6 c7_ b6_ (show 7 ≤ Int32.toInt (Int32.ofNat 7) ∧ Int32.toInt (Int32.ofNat 7) ≤ 7 from (by decide)) (by decide)
    show PW 151 d (4, [some (pvR 107), some (pvI n1), some (pvI n2)], [pvI 0], M) _
    refine pw_if hT (c := 0 = 0) rfl rfl (fun c9_ => ?_) (fun c9_ => absurd (by decide) c9_)
    refine pw_blkw hT 6 (pc := 22) (lo := [some (pvR 107), some (pvI n1), some (pvI n2)]) (st := []) (M := pvu M 115 (Int32.toNatClampNeg (M.1 107 0)) n1) rfl ⟨trivial, rfl, trivial, rfl, trivial, ⟨rfl, (zr_in (n := 7) b8_ (by decide) (by decide))⟩, trivial⟩ (fun M10_ e11_ => ?_)
    have o12_ : pvOk M10_ := pvok_u2 e11_ hok rfl hn1
    have f13_ : pvFr fp_eX6_append_107_x_x M M10_ := pvfr_u e11_ pvfr_0 rfl
    have e14_ : (M10_.1 107 0) = (M.1 107 0) := (pvu_n e11_ 107 0 (Or.inl (by decide)))
    have b15_ : 0 ≤ Int32.toInt (M10_.1 107 0) ∧ Int32.toInt (M10_.1 107 0) ≤ 6 := (by rw [e14_]; exact b8_)
    refine pw_blkw hT 6 (pc := 32) (lo := [some (pvR 107), some (pvI n1), some (pvI n2)]) (st := []) (M := pvu M10_ 123 (Int32.toNatClampNeg (M10_.1 107 0)) n2) rfl ⟨trivial, rfl, trivial, rfl, trivial, ⟨rfl, (zr_in (n := 7) b15_ (by decide) (by decide))⟩, trivial⟩ (fun M16_ e17_ => ?_)
    have o18_ : pvOk M16_ := pvok_u2 e17_ o12_ rfl hn2
    have f19_ : pvFr fp_eX6_append_107_x_x M M16_ := pvfr_u e17_ f13_ rfl
    have e20_ : (M16_.1 107 0) = (M10_.1 107 0) := (pvu_n e17_ 107 0 (Or.inl (by decide)))
    have b21_ : 0 ≤ Int32.toInt (M16_.1 107 0) ∧ Int32.toInt (M16_.1 107 0) ≤ 6 := (by rw [e20_]; exact b15_)
    obtain ⟨q23_, b22_⟩ : (Int32.toInt ((M16_.1 107 0) + 1) = Int32.toInt (M16_.1 107 0) + 1) ∧ (1 ≤ Int32.toInt ((M16_.1 107 0) + 1) ∧ Int32.toInt ((M16_.1 107 0) + 1) ≤ 7) := zadd_k (M16_.1 107 0) 1 1 1 7 b21_ (by decide) (by decide) (by decide) (by decide) (by decide)
    refine pw_blkw hT 6 (pc := 42) (lo := [some (pvR 107), some (pvI n1), some (pvI n2)]) (st := []) (M := pvu M16_ 107 0 ((M16_.1 107 0) + 1)) rfl ⟨trivial, trivial, rfl, trivial, trivial, rfl, trivial⟩ (fun M24_ e25_ => ?_)
    have o26_ : pvOk M24_ := pvok_u2 e25_ o18_ rfl (zr_wide b22_ (by decide) (by decide))
    have f27_ : pvFr fp_eX6_append_107_x_x M M24_ := pvfr_u e25_ f19_ rfl
    have e28_ : (M24_.1 107 0) = ((M16_.1 107 0) + 1) := (pvu_s e25_)
    have b29_ : 1 ≤ Int32.toInt (M24_.1 107 0) ∧ Int32.toInt (M24_.1 107 0) ≤ 7 := (by rw [e28_]; exact b22_)
    refine pw_blk hT 2 (S' := (46, [some (pvR 107), some (pvI n1), some (pvI n2)], [pvI (M24_.1 107 0)], M24_)) rfl ⟨trivial, rfl, trivial⟩ ?_
    exact pw_ret hT rfl (r := some (pvI (M24_.1 107 0))) (M' := M24_) ⟨rfl, rfl⟩ ⟨⟨_, rfl, b29_, (by rw [if_pos c7_]; first | done | exact (show (M24_.1 107 0) = ((M.1 107 0) + 1) from by rw [((pvu_s e25_).trans (show ((M16_.1 107 0) + 1) = ((M.1 107 0) + 1) from by rw [((pvu_n e17_ 107 0 (Or.inl (by decide))).trans (pvu_n e11_ 107 0 (Or.inl (by decide))))]))]) | (rw [if_pos c7_]; exact (show (M24_.1 107 0) = ((M.1 107 0) + 1) from by rw [((pvu_s e25_).trans (show ((M16_.1 107 0) + 1) = ((M.1 107 0) + 1) from by rw [((pvu_n e17_ 107 0 (Or.inl (by decide))).trans (pvu_n e11_ 107 0 (Or.inl (by decide))))]))])))⟩, o26_, f27_, (by rw [if_pos c7_]; first | done | exact ((pvu_s e25_).trans (show ((M16_.1 107 0) + 1) = ((M.1 107 0) + 1) from by rw [((pvu_n e17_ 107 0 (Or.inl (by decide))).trans (pvu_n e11_ 107 0 (Or.inl (by decide))))])) | (rw [if_pos c7_]; done) | (rw [if_pos c7_]; exact ((pvu_s e25_).trans (show ((M16_.1 107 0) + 1) = ((M.1 107 0) + 1) from by rw [((pvu_n e17_ 107 0 (Or.inl (by decide))).trans (pvu_n e11_ 107 0 (Or.inl (by decide))))]))))⟩
  · refine pw_eqI (if_neg c7_) ?_
    have b30_ : 7 ≤ Int32.toInt (M.1 107 0) ∧ Int32.toInt (M.1 107 0) ≤ 7 := zr_nlt_l 7 c7_ b6_ (show 7 ≤ Int32.toInt (Int32.ofNat 7) ∧ Int32.toInt (Int32.ofNat 7) ≤ 7 from (by decide)) (by decide)
    show PW 151 d (4, [some (pvR 107), some (pvI n1), some (pvI n2)], [pvI 1], M) _
    refine pw_if hT (c := 1 = 0) rfl rfl (fun c31_ => absurd c31_ (by decide)) (fun c31_ => ?_)
    refine pw_blk hT 2 (S' := (11, [some (pvR 107), some (pvI n1), some (pvI n2)], [pvI (M.1 107 0)], M)) rfl ⟨trivial, rfl, trivial⟩ ?_
    exact pw_ret hT rfl (r := some (pvI (M.1 107 0))) (M' := M) ⟨rfl, rfl⟩ ⟨⟨_, rfl, (zr_wide b30_ (by decide) (by decide)), (by rw [if_neg c7_]; first | done | (rw [if_neg c7_]; done))⟩, hok, pvfr_0, (by rw [if_neg c7_]; first | done | exact rfl | (rw [if_neg c7_]; done) | (rw [if_neg c7_]; exact rfl))⟩
def fpL_eX6_becomeAs_107_106 : List (Nat × Nat × Nat) := [(0, 107, 1), (0, 115, 0), (0, 123, 0)]
def fp_eX6_becomeAs_107_106 (q k : Nat) : Bool := pvfp fpL_eX6_becomeAs_107_106 q k
theorem fp_eX6_becomeAs_107_106_fp_eX6_append_107_x_x (a b : Nat) (h : fp_eX6_append_107_x_x a b = true) : fp_eX6_becomeAs_107_106 a b = true := pvfp_sub (l1 := fpL_eX6_append_107_x_x) (l2 := fpL_eX6_becomeAs_107_106) (by decide) a b h
theorem fp_eX6_becomeAs_107_106_fp_eX6_clear_107 (a b : Nat) (h : fp_eX6_clear_107 a b = true) : fp_eX6_becomeAs_107_106 a b = true := pvfp_sub (l1 := fpL_eX6_clear_107) (l2 := fpL_eX6_becomeAs_107_106) (by decide) a b h
set_option maxHeartbeats 4000000 in
set_option maxRecDepth 10000 in
theorem se_X6_becomeAs_107_106 (M : pvM) (hok : pvOk M) (d : Nat) : PW 152 d (0, [some (pvR 107), some (pvR 106), none], [], M) (fun r X => r = none ∧ pvOk X ∧ pvFr fp_eX6_becomeAs_107_106 M X ∧ X.1 107 0 = (M.1 106 0)) := by
  have hT : pvdom 152 = pvD_152 := rfl
  refine pw_blk hT 1 (S' := (1, [some (pvR 107), some (pvR 106), none], [pvR 107], M)) rfl ⟨trivial, trivial⟩ ?_
  refine pw_callGd hT (as := [pvR 107]) (lo1 := [some (pvR 107)]) (d1 := d) (rest := []) rfl rfl rfl rfl rfl (fun _ => rfl) (Nat.zero_le _) rfl rfl rfl (se_X6_clear_107 M hok d) (fun x2_ M3_ b4_ o5_ g6_ d1_ => ?_)
  have f7_ : pvFr fp_eX6_becomeAs_107_106 M M3_ := pvfr_t g6_ pvfr_0 fp_eX6_becomeAs_107_106_fp_eX6_clear_107
  obtain ⟨b8_, d9_⟩ := b4_
  subst d9_
  refine pw_blk hT 3 (S' := (7, [some (pvR 107), some (pvR 106), some (pvI 0)], [], M3_)) rfl ⟨trivial, trivial, trivial, trivial⟩ ?_
  have hlz90_ : ∀ (nz90_ : Nat) (i2z90_ : Int32) (Mz90_ : pvM), (pvOk Mz90_) → (pvFr fp_eX6_becomeAs_107_106 M Mz90_) → (0 ≤ Int32.toInt i2z90_ ∧ Int32.toInt i2z90_ ≤ 7) → (Mz90_.1 107 0 = i2z90_) → (Int32.toInt i2z90_ ≤ Int32.toInt (M.1 106 0)) → (zhide ((8 - Int32.toInt i2z90_).toNat < nz90_)) → PW 152 d (7, [some (pvR 107), some (pvR 106), some (pvI i2z90_)], [], Mz90_) (fun r X => r = none ∧ pvOk X ∧ pvFr fp_eX6_becomeAs_107_106 M X ∧ X.1 107 0 = (M.1 106 0)) := by
    intro nz90_
    induction nz90_ with
    | zero => intro i2z90_ Mz90_ oz90_ fz90_ h2z90_ j0z90_ j1z90_ hmz90_; exact absurd (zshow hmz90_) (Nat.not_lt_zero _)
    | succ nz90_ ihz90_ =>
      intro i2z90_ Mz90_ oz90_ fz90_ h2z90_ j0z90_ j1z90_ hmz90_
      have b91_ : 0 ≤ Int32.toInt (Mz90_.1 106 0) ∧ Int32.toInt (Mz90_.1 106 0) ≤ 7 := pvok_r oz90_ 106 0 rfl
      refine pw_blk hT 3 (S' := (12, [some (pvR 107), some (pvR 106), some (pvI i2z90_)], [pvI (Mz90_.1 106 0), pvI i2z90_], Mz90_)) rfl ⟨trivial, trivial, rfl, trivial⟩ ?_
      refine pw_ic hT (c := (Mz90_.1 106 0) ≤ i2z90_) rfl rfl (fun c92_ => ?_) (fun c92_ => ?_)
      · have d93_ : Int32.toInt (Mz90_.1 106 0) ≤ Int32.toInt i2z90_ := (zi_le _ _).mp c92_
        exact pw_ret hT rfl (r := none) (M' := Mz90_) ⟨rfl, rfl⟩ ⟨rfl, oz90_, fz90_, (Int32.toInt_inj.mp (by have z3 : Mz90_.1 106 0 = M.1 106 0 := fz90_ 106 0 rfl; have z4 := congrArg Int32.toInt z3; have z5 := congrArg Int32.toInt j0z90_; omega))⟩
      · have b94_ : 1 ≤ Int32.toInt (Mz90_.1 106 0) ∧ Int32.toInt (Mz90_.1 106 0) ≤ 7 := zr_nle_l 1 c92_ b91_ h2z90_ (by decide)
        have b95_ : 0 ≤ Int32.toInt i2z90_ ∧ Int32.toInt i2z90_ ≤ 6 := zr_nle_r 6 c92_ h2z90_ b94_ (by decide)
        have d96_ : Int32.toInt (Mz90_.1 106 0) > Int32.toInt i2z90_ := Int.not_le.mp ((not_congr (zi_le _ _)).mp c92_)
        have b97_ : 0 ≤ Int32.toInt (Mz90_.1 114 (Int32.toNatClampNeg i2z90_)) ∧ Int32.toInt (Mz90_.1 114 (Int32.toNatClampNeg i2z90_)) ≤ 6 := pvok_r oz90_ 114 (Int32.toNatClampNeg i2z90_) rfl
        have b98_ : 0 ≤ Int32.toInt (Mz90_.1 122 (Int32.toNatClampNeg i2z90_)) ∧ Int32.toInt (Mz90_.1 122 (Int32.toNatClampNeg i2z90_)) ≤ 9999 := pvok_r oz90_ 122 (Int32.toNatClampNeg i2z90_) rfl
        refine pw_blk hT 9 (S' := (28, [some (pvR 107), some (pvR 106), some (pvI i2z90_)], [pvI (Mz90_.1 122 (Int32.toNatClampNeg i2z90_)), pvI (Mz90_.1 114 (Int32.toNatClampNeg i2z90_)), pvR 107], Mz90_)) rfl ⟨trivial, trivial, rfl, trivial, ⟨rfl, (zr_in (n := 7) b95_ (by decide) (by decide))⟩, trivial, rfl, trivial, ⟨rfl, (zr_in (n := 7) b95_ (by decide) (by decide))⟩, trivial⟩ ?_
        refine pw_callGd hT (as := [pvR 107, pvI (Mz90_.1 114 (Int32.toNatClampNeg i2z90_)), pvI (Mz90_.1 122 (Int32.toNatClampNeg i2z90_))]) (lo1 := [some (pvR 107), some (pvI (Mz90_.1 114 (Int32.toNatClampNeg i2z90_))), some (pvI (Mz90_.1 122 (Int32.toNatClampNeg i2z90_)))]) (d1 := d) (rest := []) rfl rfl rfl rfl rfl (fun _ => rfl) (Nat.zero_le _) rfl rfl rfl (se_X6_append_107_x_x Mz90_ oz90_ (Mz90_.1 114 (Int32.toNatClampNeg i2z90_)) (Mz90_.1 122 (Int32.toNatClampNeg i2z90_)) b97_ b98_ d) (fun x100_ M101_ b102_ o103_ g104_ d99_ => ?_)
        have f105_ : pvFr fp_eX6_becomeAs_107_106 M M101_ := pvfr_t g104_ fz90_ fp_eX6_becomeAs_107_106_fp_eX6_append_107_x_x
        obtain ⟨b106_, d107_⟩ := b102_
        subst d107_
        obtain ⟨q109_, b108_⟩ : (Int32.toInt (i2z90_ + 1) = Int32.toInt i2z90_ + 1) ∧ (1 ≤ Int32.toInt (i2z90_ + 1) ∧ Int32.toInt (i2z90_ + 1) ≤ 7) := zadd_k i2z90_ 1 1 1 7 b95_ (by decide) (by decide) (by decide) (by decide) (by decide)
        refine pw_blk hT 3 (S' := (7, [some (pvR 107), some (pvR 106), some (pvI (i2z90_ + 1))], [], M101_)) rfl ⟨trivial, trivial, trivial, trivial⟩ ?_
        have j110_ : M101_.1 107 0 = (i2z90_ + 1) := (by have z1 : Int32.toInt (Int32.ofNat 7) = 7 := (by decide); have z2 := pvok_r oz90_ 106 0 rfl; have z3 : Mz90_.1 106 0 = M.1 106 0 := fz90_ 106 0 rfl; have z4 := congrArg Int32.toInt z3; rw [d99_, j0z90_, if_pos ((zi_lt _ _).mpr (by omega))])
        have j111_ : Int32.toInt (i2z90_ + 1) ≤ Int32.toInt (M.1 106 0) := (by have z3 : Mz90_.1 106 0 = M.1 106 0 := fz90_ 106 0 rfl; have z4 := congrArg Int32.toInt z3; omega)
        exact ihz90_ (i2z90_ + 1) M101_ o103_ f105_ (zr_wide b108_ (by decide) (by decide)) j110_ j111_ (zhid (pvms_up (zshow hmz90_) h2z90_ q109_ (by decide) (by decide)))
  have u112_ : Int32.toInt 0 = 0 := by decide
  have j113_ : M3_.1 107 0 = 0 := d1_
  have j114_ : Int32.toInt 0 ≤ Int32.toInt (M.1 106 0) := (by have z := pvok_r hok 106 0 rfl; have u : Int32.toInt 0 = 0 := (by decide); omega)
  exact hlz90_ _ 0 M3_ o5_ f7_ (zr_wide (show 0 ≤ Int32.toInt 0 ∧ Int32.toInt 0 ≤ 0 from (by decide)) (by decide) (by decide)) j113_ j114_ (zhid (Nat.lt_succ_self _))
def fpL_eX6_append_106_x_x : List (Nat × Nat × Nat) := [(0, 106, 1), (0, 114, 0), (0, 122, 0)]
def fp_eX6_append_106_x_x (q k : Nat) : Bool := pvfp fpL_eX6_append_106_x_x q k
set_option maxHeartbeats 4000000 in
set_option maxRecDepth 10000 in
theorem se_X6_append_106_x_x (M : pvM) (hok : pvOk M) (n1 : Int32) (n2 : Int32) (hn1 : 0 ≤ Int32.toInt n1 ∧ Int32.toInt n1 ≤ 6) (hn2 : 0 ≤ Int32.toInt n2 ∧ Int32.toInt n2 ≤ 9999) (d : Nat) : PW 151 d (0, [some (pvR 106), some (pvI n1), some (pvI n2)], [], M) (fun r X => (∃ x : Int32, r = some (pvI x) ∧ (1 ≤ Int32.toInt x ∧ Int32.toInt x ≤ 7) ∧ x = (if (M.1 106 0) < (Int32.ofNat 7) then ((M.1 106 0) + 1) else (M.1 106 0))) ∧ pvOk X ∧ pvFr fp_eX6_append_106_x_x M X ∧ X.1 106 0 = (if (M.1 106 0) < (Int32.ofNat 7) then ((M.1 106 0) + 1) else (M.1 106 0))) := by
  have hT : pvdom 151 = pvD_151 := rfl
  refine pw_blk hT 1 (S' := (1, [some (pvR 106), some (pvI n1), some (pvI n2)], [pvR 106], M)) rfl ⟨trivial, trivial⟩ ?_
  refine pw_callT hT (as := [pvR 106]) (lo1 := [some (pvR 106)]) (d1 := d) (rest := []) rfl rfl rfl rfl rfl (fun _ => rfl) (Nat.zero_le _) rfl rfl rfl (sf_X6_isFull_106 M hok d) ?_
  have b6_ : 0 ≤ Int32.toInt (M.1 106 0) ∧ Int32.toInt (M.1 106 0) ≤ 7 := pvok_r hok 106 0 rfl
  by_cases c7_ : (M.1 106 0) < (Int32.ofNat 7)
  · refine pw_eqI (if_pos c7_) ?_
    have b8_ : 0 ≤ Int32.toInt (M.1 106 0) ∧ Int32.toInt (M.1 106 0) ≤ 6 := zr_lt_l 6 c7_ b6_ (show 7 ≤ Int32.toInt (Int32.ofNat 7) ∧ Int32.toInt (Int32.ofNat 7) ≤ 7 from (by decide)) (by decide)
    show PW 151 d (4, [some (pvR 106), some (pvI n1), some (pvI n2)], [pvI 0], M) _
    refine pw_if hT (c := 0 = 0) rfl rfl (fun c9_ => ?_) (fun c9_ => absurd (by decide) c9_)
    refine pw_blkw hT 6 (pc := 22) (lo := [some (pvR 106), some (pvI n1), some (pvI n2)]) (st := []) (M := pvu M 114 (Int32.toNatClampNeg (M.1 106 0)) n1) rfl ⟨trivial, rfl, trivial, rfl, trivial, ⟨rfl, (zr_in (n := 7) b8_ (by decide) (by decide))⟩, trivial⟩ (fun M10_ e11_ => ?_)
    have o12_ : pvOk M10_ := pvok_u2 e11_ hok rfl hn1
    have f13_ : pvFr fp_eX6_append_106_x_x M M10_ := pvfr_u e11_ pvfr_0 rfl
    have e14_ : (M10_.1 106 0) = (M.1 106 0) := (pvu_n e11_ 106 0 (Or.inl (by decide)))
    have b15_ : 0 ≤ Int32.toInt (M10_.1 106 0) ∧ Int32.toInt (M10_.1 106 0) ≤ 6 := (by rw [e14_]; exact b8_)
    refine pw_blkw hT 6 (pc := 32) (lo := [some (pvR 106), some (pvI n1), some (pvI n2)]) (st := []) (M := pvu M10_ 122 (Int32.toNatClampNeg (M10_.1 106 0)) n2) rfl ⟨trivial, rfl, trivial, rfl, trivial, ⟨rfl, (zr_in (n := 7) b15_ (by decide) (by decide))⟩, trivial⟩ (fun M16_ e17_ => ?_)
    have o18_ : pvOk M16_ := pvok_u2 e17_ o12_ rfl hn2
    have f19_ : pvFr fp_eX6_append_106_x_x M M16_ := pvfr_u e17_ f13_ rfl
    have e20_ : (M16_.1 106 0) = (M10_.1 106 0) := (pvu_n e17_ 106 0 (Or.inl (by decide)))
    have b21_ : 0 ≤ Int32.toInt (M16_.1 106 0) ∧ Int32.toInt (M16_.1 106 0) ≤ 6 := (by rw [e20_]; exact b15_)
    obtain ⟨q23_, b22_⟩ : (Int32.toInt ((M16_.1 106 0) + 1) = Int32.toInt (M16_.1 106 0) + 1) ∧ (1 ≤ Int32.toInt ((M16_.1 106 0) + 1) ∧ Int32.toInt ((M16_.1 106 0) + 1) ≤ 7) := zadd_k (M16_.1 106 0) 1 1 1 7 b21_ (by decide) (by decide) (by decide) (by decide) (by decide)
    refine pw_blkw hT 6 (pc := 42) (lo := [some (pvR 106), some (pvI n1), some (pvI n2)]) (st := []) (M := pvu M16_ 106 0 ((M16_.1 106 0) + 1)) rfl ⟨trivial, trivial, rfl, trivial, trivial, rfl, trivial⟩ (fun M24_ e25_ => ?_)
    have o26_ : pvOk M24_ := pvok_u2 e25_ o18_ rfl (zr_wide b22_ (by decide) (by decide))
    have f27_ : pvFr fp_eX6_append_106_x_x M M24_ := pvfr_u e25_ f19_ rfl
    have e28_ : (M24_.1 106 0) = ((M16_.1 106 0) + 1) := (pvu_s e25_)
    have b29_ : 1 ≤ Int32.toInt (M24_.1 106 0) ∧ Int32.toInt (M24_.1 106 0) ≤ 7 := (by rw [e28_]; exact b22_)
    refine pw_blk hT 2 (S' := (46, [some (pvR 106), some (pvI n1), some (pvI n2)], [pvI (M24_.1 106 0)], M24_)) rfl ⟨trivial, rfl, trivial⟩ ?_
    exact pw_ret hT rfl (r := some (pvI (M24_.1 106 0))) (M' := M24_) ⟨rfl, rfl⟩ ⟨⟨_, rfl, b29_, (by rw [if_pos c7_]; first | done | exact (show (M24_.1 106 0) = ((M.1 106 0) + 1) from by rw [((pvu_s e25_).trans (show ((M16_.1 106 0) + 1) = ((M.1 106 0) + 1) from by rw [((pvu_n e17_ 106 0 (Or.inl (by decide))).trans (pvu_n e11_ 106 0 (Or.inl (by decide))))]))]) | (rw [if_pos c7_]; exact (show (M24_.1 106 0) = ((M.1 106 0) + 1) from by rw [((pvu_s e25_).trans (show ((M16_.1 106 0) + 1) = ((M.1 106 0) + 1) from by rw [((pvu_n e17_ 106 0 (Or.inl (by decide))).trans (pvu_n e11_ 106 0 (Or.inl (by decide))))]))])))⟩, o26_, f27_, (by rw [if_pos c7_]; first | done | exact ((pvu_s e25_).trans (show ((M16_.1 106 0) + 1) = ((M.1 106 0) + 1) from by rw [((pvu_n e17_ 106 0 (Or.inl (by decide))).trans (pvu_n e11_ 106 0 (Or.inl (by decide))))])) | (rw [if_pos c7_]; done) | (rw [if_pos c7_]; exact ((pvu_s e25_).trans (show ((M16_.1 106 0) + 1) = ((M.1 106 0) + 1) from by rw [((pvu_n e17_ 106 0 (Or.inl (by decide))).trans (pvu_n e11_ 106 0 (Or.inl (by decide))))]))))⟩
  · refine pw_eqI (if_neg c7_) ?_
    have b30_ : 7 ≤ Int32.toInt (M.1 106 0) ∧ Int32.toInt (M.1 106 0) ≤ 7 := zr_nlt_l 7 c7_ b6_ (show 7 ≤ Int32.toInt (Int32.ofNat 7) ∧ Int32.toInt (Int32.ofNat 7) ≤ 7 from (by decide)) (by decide)
    show PW 151 d (4, [some (pvR 106), some (pvI n1), some (pvI n2)], [pvI 1], M) _
    refine pw_if hT (c := 1 = 0) rfl rfl (fun c31_ => absurd c31_ (by decide)) (fun c31_ => ?_)
    refine pw_blk hT 2 (S' := (11, [some (pvR 106), some (pvI n1), some (pvI n2)], [pvI (M.1 106 0)], M)) rfl ⟨trivial, rfl, trivial⟩ ?_
    exact pw_ret hT rfl (r := some (pvI (M.1 106 0))) (M' := M) ⟨rfl, rfl⟩ ⟨⟨_, rfl, (zr_wide b30_ (by decide) (by decide)), (by rw [if_neg c7_]; first | done | (rw [if_neg c7_]; done))⟩, hok, pvfr_0, (by rw [if_neg c7_]; first | done | exact rfl | (rw [if_neg c7_]; done) | (rw [if_neg c7_]; exact rfl))⟩
def fpL_eX6_append_104_x_x : List (Nat × Nat × Nat) := [(0, 104, 1), (0, 112, 0), (0, 120, 0)]
def fp_eX6_append_104_x_x (q k : Nat) : Bool := pvfp fpL_eX6_append_104_x_x q k
set_option maxHeartbeats 4000000 in
set_option maxRecDepth 10000 in
theorem se_X6_append_104_x_x (M : pvM) (hok : pvOk M) (n1 : Int32) (n2 : Int32) (hn1 : 0 ≤ Int32.toInt n1 ∧ Int32.toInt n1 ≤ 6) (hn2 : 0 ≤ Int32.toInt n2 ∧ Int32.toInt n2 ≤ 9999) (d : Nat) : PW 151 d (0, [some (pvR 104), some (pvI n1), some (pvI n2)], [], M) (fun r X => (∃ x : Int32, r = some (pvI x) ∧ (1 ≤ Int32.toInt x ∧ Int32.toInt x ≤ 8) ∧ x = (if (M.1 104 0) < (Int32.ofNat 8) then ((M.1 104 0) + 1) else (M.1 104 0))) ∧ pvOk X ∧ pvFr fp_eX6_append_104_x_x M X ∧ X.1 104 0 = (if (M.1 104 0) < (Int32.ofNat 8) then ((M.1 104 0) + 1) else (M.1 104 0))) := by
  have hT : pvdom 151 = pvD_151 := rfl
  refine pw_blk hT 1 (S' := (1, [some (pvR 104), some (pvI n1), some (pvI n2)], [pvR 104], M)) rfl ⟨trivial, trivial⟩ ?_
  refine pw_callT hT (as := [pvR 104]) (lo1 := [some (pvR 104)]) (d1 := d) (rest := []) rfl rfl rfl rfl rfl (fun _ => rfl) (Nat.zero_le _) rfl rfl rfl (sf_X6_isFull_104 M hok d) ?_
  have b6_ : 0 ≤ Int32.toInt (M.1 104 0) ∧ Int32.toInt (M.1 104 0) ≤ 8 := pvok_r hok 104 0 rfl
  by_cases c7_ : (M.1 104 0) < (Int32.ofNat 8)
  · refine pw_eqI (if_pos c7_) ?_
    have b8_ : 0 ≤ Int32.toInt (M.1 104 0) ∧ Int32.toInt (M.1 104 0) ≤ 7 := zr_lt_l 7 c7_ b6_ (show 8 ≤ Int32.toInt (Int32.ofNat 8) ∧ Int32.toInt (Int32.ofNat 8) ≤ 8 from (by decide)) (by decide)
    show PW 151 d (4, [some (pvR 104), some (pvI n1), some (pvI n2)], [pvI 0], M) _
    refine pw_if hT (c := 0 = 0) rfl rfl (fun c9_ => ?_) (fun c9_ => absurd (by decide) c9_)
    refine pw_blkw hT 6 (pc := 22) (lo := [some (pvR 104), some (pvI n1), some (pvI n2)]) (st := []) (M := pvu M 112 (Int32.toNatClampNeg (M.1 104 0)) n1) rfl ⟨trivial, rfl, trivial, rfl, trivial, ⟨rfl, (zr_in (n := 8) b8_ (by decide) (by decide))⟩, trivial⟩ (fun M10_ e11_ => ?_)
    have o12_ : pvOk M10_ := pvok_u2 e11_ hok rfl hn1
    have f13_ : pvFr fp_eX6_append_104_x_x M M10_ := pvfr_u e11_ pvfr_0 rfl
    have e14_ : (M10_.1 104 0) = (M.1 104 0) := (pvu_n e11_ 104 0 (Or.inl (by decide)))
    have b15_ : 0 ≤ Int32.toInt (M10_.1 104 0) ∧ Int32.toInt (M10_.1 104 0) ≤ 7 := (by rw [e14_]; exact b8_)
    refine pw_blkw hT 6 (pc := 32) (lo := [some (pvR 104), some (pvI n1), some (pvI n2)]) (st := []) (M := pvu M10_ 120 (Int32.toNatClampNeg (M10_.1 104 0)) n2) rfl ⟨trivial, rfl, trivial, rfl, trivial, ⟨rfl, (zr_in (n := 8) b15_ (by decide) (by decide))⟩, trivial⟩ (fun M16_ e17_ => ?_)
    have o18_ : pvOk M16_ := pvok_u2 e17_ o12_ rfl hn2
    have f19_ : pvFr fp_eX6_append_104_x_x M M16_ := pvfr_u e17_ f13_ rfl
    have e20_ : (M16_.1 104 0) = (M10_.1 104 0) := (pvu_n e17_ 104 0 (Or.inl (by decide)))
    have b21_ : 0 ≤ Int32.toInt (M16_.1 104 0) ∧ Int32.toInt (M16_.1 104 0) ≤ 7 := (by rw [e20_]; exact b15_)
    obtain ⟨q23_, b22_⟩ : (Int32.toInt ((M16_.1 104 0) + 1) = Int32.toInt (M16_.1 104 0) + 1) ∧ (1 ≤ Int32.toInt ((M16_.1 104 0) + 1) ∧ Int32.toInt ((M16_.1 104 0) + 1) ≤ 8) := zadd_k (M16_.1 104 0) 1 1 1 8 b21_ (by decide) (by decide) (by decide) (by decide) (by decide)
    refine pw_blkw hT 6 (pc := 42) (lo := [some (pvR 104), some (pvI n1), some (pvI n2)]) (st := []) (M := pvu M16_ 104 0 ((M16_.1 104 0) + 1)) rfl ⟨trivial, trivial, rfl, trivial, trivial, rfl, trivial⟩ (fun M24_ e25_ => ?_)
    have o26_ : pvOk M24_ := pvok_u2 e25_ o18_ rfl (zr_wide b22_ (by decide) (by decide))
    have f27_ : pvFr fp_eX6_append_104_x_x M M24_ := pvfr_u e25_ f19_ rfl
    have e28_ : (M24_.1 104 0) = ((M16_.1 104 0) + 1) := (pvu_s e25_)
    have b29_ : 1 ≤ Int32.toInt (M24_.1 104 0) ∧ Int32.toInt (M24_.1 104 0) ≤ 8 := (by rw [e28_]; exact b22_)
    refine pw_blk hT 2 (S' := (46, [some (pvR 104), some (pvI n1), some (pvI n2)], [pvI (M24_.1 104 0)], M24_)) rfl ⟨trivial, rfl, trivial⟩ ?_
    exact pw_ret hT rfl (r := some (pvI (M24_.1 104 0))) (M' := M24_) ⟨rfl, rfl⟩ ⟨⟨_, rfl, b29_, (by rw [if_pos c7_]; first | done | exact (show (M24_.1 104 0) = ((M.1 104 0) + 1) from by rw [((pvu_s e25_).trans (show ((M16_.1 104 0) + 1) = ((M.1 104 0) + 1) from by rw [((pvu_n e17_ 104 0 (Or.inl (by decide))).trans (pvu_n e11_ 104 0 (Or.inl (by decide))))]))]) | (rw [if_pos c7_]; exact (show (M24_.1 104 0) = ((M.1 104 0) + 1) from by rw [((pvu_s e25_).trans (show ((M16_.1 104 0) + 1) = ((M.1 104 0) + 1) from by rw [((pvu_n e17_ 104 0 (Or.inl (by decide))).trans (pvu_n e11_ 104 0 (Or.inl (by decide))))]))])))⟩, o26_, f27_, (by rw [if_pos c7_]; first | done | exact ((pvu_s e25_).trans (show ((M16_.1 104 0) + 1) = ((M.1 104 0) + 1) from by rw [((pvu_n e17_ 104 0 (Or.inl (by decide))).trans (pvu_n e11_ 104 0 (Or.inl (by decide))))])) | (rw [if_pos c7_]; done) | (rw [if_pos c7_]; exact ((pvu_s e25_).trans (show ((M16_.1 104 0) + 1) = ((M.1 104 0) + 1) from by rw [((pvu_n e17_ 104 0 (Or.inl (by decide))).trans (pvu_n e11_ 104 0 (Or.inl (by decide))))]))))⟩
  · refine pw_eqI (if_neg c7_) ?_
    have b30_ : 8 ≤ Int32.toInt (M.1 104 0) ∧ Int32.toInt (M.1 104 0) ≤ 8 := zr_nlt_l 8 c7_ b6_ (show 8 ≤ Int32.toInt (Int32.ofNat 8) ∧ Int32.toInt (Int32.ofNat 8) ≤ 8 from (by decide)) (by decide)
    show PW 151 d (4, [some (pvR 104), some (pvI n1), some (pvI n2)], [pvI 1], M) _
    refine pw_if hT (c := 1 = 0) rfl rfl (fun c31_ => absurd c31_ (by decide)) (fun c31_ => ?_)
    refine pw_blk hT 2 (S' := (11, [some (pvR 104), some (pvI n1), some (pvI n2)], [pvI (M.1 104 0)], M)) rfl ⟨trivial, rfl, trivial⟩ ?_
    exact pw_ret hT rfl (r := some (pvI (M.1 104 0))) (M' := M) ⟨rfl, rfl⟩ ⟨⟨_, rfl, (zr_wide b30_ (by decide) (by decide)), (by rw [if_neg c7_]; first | done | (rw [if_neg c7_]; done))⟩, hok, pvfr_0, (by rw [if_neg c7_]; first | done | exact rfl | (rw [if_neg c7_]; done) | (rw [if_neg c7_]; exact rfl))⟩
def fpL_eX6_clear_104 : List (Nat × Nat × Nat) := [(0, 104, 1)]
def fp_eX6_clear_104 (q k : Nat) : Bool := pvfp fpL_eX6_clear_104 q k
set_option maxHeartbeats 4000000 in
set_option maxRecDepth 10000 in
theorem se_X6_clear_104 (M : pvM) (hok : pvOk M) (d : Nat) : PW 153 d (0, [some (pvR 104)], [], M) (fun r X => (∃ x : Int32, r = some (pvI x) ∧ (0 ≤ Int32.toInt x ∧ Int32.toInt x ≤ 0) ∧ x = 0) ∧ pvOk X ∧ pvFr fp_eX6_clear_104 M X ∧ X.1 104 0 = 0) := by
  have hT : pvdom 153 = pvD_153 := rfl
  refine pw_blkw hT 3 (pc := 5) (lo := [some (pvR 104)]) (st := []) (M := pvu M 104 0 0) rfl ⟨trivial, trivial, rfl, trivial⟩ (fun M1_ e2_ => ?_)
  have o3_ : pvOk M1_ := pvok_u2 e2_ hok rfl (zr_wide (show 0 ≤ Int32.toInt 0 ∧ Int32.toInt 0 ≤ 0 from (by decide)) (by decide) (by decide))
  have f4_ : pvFr fp_eX6_clear_104 M M1_ := pvfr_u e2_ pvfr_0 rfl
  refine pw_blk hT 1 (S' := (6, [some (pvR 104)], [pvI 0], M1_)) rfl ⟨trivial, trivial⟩ ?_
  exact pw_ret hT rfl (r := some (pvI 0)) (M' := M1_) ⟨rfl, rfl⟩ ⟨⟨_, rfl, (show 0 ≤ Int32.toInt 0 ∧ Int32.toInt 0 ≤ 0 from (by decide)), rfl⟩, o3_, f4_, (pvu_s e2_)⟩
def fpL_eX9_appendTold_0_104_x_x : List (Nat × Nat × Nat) := [(0, 104, 1), (0, 112, 0), (0, 120, 0)]
def fp_eX9_appendTold_0_104_x_x (q k : Nat) : Bool := pvfp fpL_eX9_appendTold_0_104_x_x q k
theorem fp_eX9_appendTold_0_104_x_x_fp_eX6_append_104_x_x (a b : Nat) (h : fp_eX6_append_104_x_x a b = true) : fp_eX9_appendTold_0_104_x_x a b = true := pvfp_sub (l1 := fpL_eX6_append_104_x_x) (l2 := fpL_eX9_appendTold_0_104_x_x) (by decide) a b h
theorem fp_eX9_appendTold_0_104_x_x_fp_eX6_clear_104 (a b : Nat) (h : fp_eX6_clear_104 a b = true) : fp_eX9_appendTold_0_104_x_x a b = true := pvfp_sub (l1 := fpL_eX6_clear_104) (l2 := fpL_eX9_appendTold_0_104_x_x) (by decide) a b h
set_option maxHeartbeats 4000000 in
set_option maxRecDepth 10000 in
theorem se_X9_appendTold_0_104_x_x (M : pvM) (hok : pvOk M) (n2 : Int32) (n3 : Int32) (d : Nat) : PW 168 d (0, [some (pvR 0), some (pvR 104), some (pvI n2), some (pvI n3)], [], M) (fun r X => (∃ x : Int32, r = some (pvI x) ∧ ((-4) ≤ Int32.toInt x ∧ Int32.toInt x ≤ 8) ∧ x = (if n2 = (-1) then 0 else (if n2 < 0 then (-1) else (if (M.1 8 1) ≤ n2 then (-1) else (if n3 < 0 then (-2) else (if 9999 < n3 then (-2) else (if (M.1 104 0) < (Int32.ofNat 8) then (if (M.1 104 0) < (Int32.ofNat 8) then ((M.1 104 0) + 1) else (M.1 104 0)) else (-4)))))))) ∧ pvOk X ∧ pvFr fp_eX9_appendTold_0_104_x_x M X ∧ X.1 104 0 = (if n2 = (-1) then 0 else (if n2 < 0 then (M.1 104 0) else (if (M.1 8 1) ≤ n2 then (M.1 104 0) else (if n3 < 0 then (M.1 104 0) else (if 9999 < n3 then (M.1 104 0) else (if (M.1 104 0) < (Int32.ofNat 8) then (if (M.1 104 0) < (Int32.ofNat 8) then ((M.1 104 0) + 1) else (M.1 104 0)) else (M.1 104 0)))))))) := by
  have hT : pvdom 168 = pvD_168 := rfl
  refine pw_blk hT 2 (S' := (2, [some (pvR 0), some (pvR 104), some (pvI n2), some (pvI n3)], [pvI (-1), pvI n2], M)) rfl ⟨trivial, trivial, trivial⟩ ?_
  refine pw_icn hT (c := n2 = (-1)) rfl rfl (fun c1_ => ?_) (fun c1_ => ?_)
  · refine pw_blk hT 3 (S' := (15, [some (pvR 0), some (pvR 104), some (pvI n2), some (pvI n3)], [pvI n2, pvR 8], M)) rfl ⟨trivial, rfl, trivial, trivial⟩ ?_
    refine pw_callT hT (as := [pvR 8, pvI n2]) (lo1 := [some (pvR 8), some (pvI n2)]) (d1 := d) (rest := []) rfl rfl rfl rfl rfl (fun _ => rfl) (Nat.zero_le _) rfl rfl rfl (sf_X7_has_8_x M hok n2 d) ?_
    by_cases c7_ : n2 < 0
    · refine pw_eqI (if_pos c7_) ?_
      have b8_ : (-2147483648) ≤ Int32.toInt n2 ∧ Int32.toInt n2 ≤ (-2) := (by have u0 := (zbnd n2); have u9 := (show _ ∧ _ from ⟨(zi_lt _ _).mp c7_, (show 0 ≤ Int32.toInt 0 ∧ Int32.toInt 0 ≤ 0 from (by decide))⟩); have v1 := (not_congr (zi_eq _ _)).mp c1_; have w1 : ((-1) : Int32).toInt = -1 := (by decide); omega)
      show PW 168 d (18, [some (pvR 0), some (pvR 104), some (pvI n2), some (pvI n3)], [pvI 0], M) _
      refine pw_ifn hT (c := 0 = 0) rfl rfl (fun c9_ => absurd (by decide) c9_) (fun c9_ => ?_)
      refine pw_blk hT 1 (S' := (22, [some (pvR 0), some (pvR 104), some (pvI n2), some (pvI n3)], [pvI (-1)], M)) rfl ⟨trivial, trivial⟩ ?_
      exact pw_ret hT rfl (r := some (pvI (-1))) (M' := M) ⟨rfl, rfl⟩ ⟨⟨_, rfl, (zr_wide (show (-1) ≤ Int32.toInt (-1) ∧ Int32.toInt (-1) ≤ (-1) from (by decide)) (by decide) (by decide)), (by rw [if_neg c1_, if_pos c7_]; first | done | (rw [if_pos c7_]; done))⟩, hok, pvfr_0, (by rw [if_neg c1_, if_pos c7_]; first | done | exact rfl | (rw [if_pos c7_]; done) | (rw [if_pos c7_]; exact rfl))⟩
    · refine pw_eqI (if_neg c7_) ?_
      have b10_ : 0 ≤ Int32.toInt n2 ∧ Int32.toInt n2 ≤ 2147483647 := zr_nlt_l 0 c7_ (zbnd n2) (show 0 ≤ Int32.toInt 0 ∧ Int32.toInt 0 ≤ 0 from (by decide)) (by decide)
      have b11_ : 0 ≤ Int32.toInt (M.1 8 1) ∧ Int32.toInt (M.1 8 1) ≤ 7 := pvok_r hok 8 1 rfl
      by_cases c12_ : (M.1 8 1) ≤ n2
      · refine pw_eqI (if_pos c12_) ?_
        have d13_ : Int32.toInt (M.1 8 1) ≤ Int32.toInt n2 := (zi_le _ _).mp c12_
        show PW 168 d (18, [some (pvR 0), some (pvR 104), some (pvI n2), some (pvI n3)], [pvI 0], M) _
        refine pw_ifn hT (c := 0 = 0) rfl rfl (fun c14_ => absurd (by decide) c14_) (fun c14_ => ?_)
        refine pw_blk hT 1 (S' := (22, [some (pvR 0), some (pvR 104), some (pvI n2), some (pvI n3)], [pvI (-1)], M)) rfl ⟨trivial, trivial⟩ ?_
        exact pw_ret hT rfl (r := some (pvI (-1))) (M' := M) ⟨rfl, rfl⟩ ⟨⟨_, rfl, (zr_wide (show (-1) ≤ Int32.toInt (-1) ∧ Int32.toInt (-1) ≤ (-1) from (by decide)) (by decide) (by decide)), (by rw [if_neg c1_, if_neg c7_, if_pos c12_]; first | done | (rw [if_pos c12_]; done))⟩, hok, pvfr_0, (by rw [if_neg c1_, if_neg c7_, if_pos c12_]; first | done | exact rfl | (rw [if_pos c12_]; done) | (rw [if_pos c12_]; exact rfl))⟩
      · refine pw_eqI (if_neg c12_) ?_
        have b15_ : 1 ≤ Int32.toInt (M.1 8 1) ∧ Int32.toInt (M.1 8 1) ≤ 7 := zr_nle_l 1 c12_ b11_ b10_ (by decide)
        have b16_ : 0 ≤ Int32.toInt n2 ∧ Int32.toInt n2 ≤ 6 := zr_nle_r 6 c12_ b10_ b15_ (by decide)
        have d17_ : Int32.toInt (M.1 8 1) > Int32.toInt n2 := Int.not_le.mp ((not_congr (zi_le _ _)).mp c12_)
        show PW 168 d (18, [some (pvR 0), some (pvR 104), some (pvI n2), some (pvI n3)], [pvI 1], M) _
        refine pw_ifn hT (c := 1 = 0) rfl rfl (fun c18_ => ?_) (fun c18_ => absurd c18_ (by decide))
        refine pw_blk hT 3 (S' := (28, [some (pvR 0), some (pvR 104), some (pvI n2), some (pvI n3)], [pvI 9999, pvI 0, pvI n3], M)) rfl ⟨trivial, trivial, trivial, trivial⟩ ?_
        refine pw_callT hT (as := [pvI n3, pvI 0, pvI 9999]) (lo1 := [some (pvI n3), some (pvI 0), some (pvI 9999)]) (d1 := d) (rest := []) rfl rfl rfl rfl rfl (fun h => absurd h (by decide)) (Nat.zero_le _) rfl rfl rfl (sf_X9_within_x_x_x M hok n3 0 9999 d) ?_
        by_cases c24_ : n3 < 0
        · refine pw_eqI (if_pos c24_) ?_
          have b25_ : (-2147483648) ≤ Int32.toInt n3 ∧ Int32.toInt n3 ≤ (-1) := zr_lt_l (-1) c24_ (zbnd n3) (show 0 ≤ Int32.toInt 0 ∧ Int32.toInt 0 ≤ 0 from (by decide)) (by decide)
          show PW 168 d (31, [some (pvR 0), some (pvR 104), some (pvI n2), some (pvI n3)], [pvI 0], M) _
          refine pw_ifn hT (c := 0 = 0) rfl rfl (fun c26_ => absurd (by decide) c26_) (fun c26_ => ?_)
          refine pw_blk hT 1 (S' := (36, [some (pvR 0), some (pvR 104), some (pvI n2), some (pvI n3)], [pvI (-2)], M)) rfl ⟨trivial, trivial⟩ ?_
          exact pw_ret hT rfl (r := some (pvI (-2))) (M' := M) ⟨rfl, rfl⟩ ⟨⟨_, rfl, (zr_wide (show (-2) ≤ Int32.toInt (-2) ∧ Int32.toInt (-2) ≤ (-2) from (by decide)) (by decide) (by decide)), (by rw [if_neg c1_, if_neg c7_, if_neg c12_, if_pos c24_]; first | done | (rw [if_pos c24_]; done))⟩, hok, pvfr_0, (by rw [if_neg c1_, if_neg c7_, if_neg c12_, if_pos c24_]; first | done | exact rfl | (rw [if_pos c24_]; done) | (rw [if_pos c24_]; exact rfl))⟩
        · refine pw_eqI (if_neg c24_) ?_
          have b27_ : 0 ≤ Int32.toInt n3 ∧ Int32.toInt n3 ≤ 2147483647 := zr_nlt_l 0 c24_ (zbnd n3) (show 0 ≤ Int32.toInt 0 ∧ Int32.toInt 0 ≤ 0 from (by decide)) (by decide)
          by_cases c28_ : 9999 < n3
          · refine pw_eqI (if_pos c28_) ?_
            have b29_ : 10000 ≤ Int32.toInt n3 ∧ Int32.toInt n3 ≤ 2147483647 := zr_lt_r 10000 c28_ b27_ (show 9999 ≤ Int32.toInt 9999 ∧ Int32.toInt 9999 ≤ 9999 from (by decide)) (by decide)
            show PW 168 d (31, [some (pvR 0), some (pvR 104), some (pvI n2), some (pvI n3)], [pvI 0], M) _
            refine pw_ifn hT (c := 0 = 0) rfl rfl (fun c30_ => absurd (by decide) c30_) (fun c30_ => ?_)
            refine pw_blk hT 1 (S' := (36, [some (pvR 0), some (pvR 104), some (pvI n2), some (pvI n3)], [pvI (-2)], M)) rfl ⟨trivial, trivial⟩ ?_
            exact pw_ret hT rfl (r := some (pvI (-2))) (M' := M) ⟨rfl, rfl⟩ ⟨⟨_, rfl, (zr_wide (show (-2) ≤ Int32.toInt (-2) ∧ Int32.toInt (-2) ≤ (-2) from (by decide)) (by decide) (by decide)), (by rw [if_neg c1_, if_neg c7_, if_neg c12_, if_neg c24_, if_pos c28_]; first | done | (rw [if_pos c28_]; done))⟩, hok, pvfr_0, (by rw [if_neg c1_, if_neg c7_, if_neg c12_, if_neg c24_, if_pos c28_]; first | done | exact rfl | (rw [if_pos c28_]; done) | (rw [if_pos c28_]; exact rfl))⟩
          · refine pw_eqI (if_neg c28_) ?_
            have b31_ : 0 ≤ Int32.toInt n3 ∧ Int32.toInt n3 ≤ 9999 := zr_nlt_r 9999 c28_ b27_ (show 9999 ≤ Int32.toInt 9999 ∧ Int32.toInt 9999 ≤ 9999 from (by decide)) (by decide)
            show PW 168 d (31, [some (pvR 0), some (pvR 104), some (pvI n2), some (pvI n3)], [pvI 1], M) _
            refine pw_ifn hT (c := 1 = 0) rfl rfl (fun c32_ => ?_) (fun c32_ => absurd c32_ (by decide))
            refine pw_blk hT 1 (S' := (38, [some (pvR 0), some (pvR 104), some (pvI n2), some (pvI n3)], [pvR 104], M)) rfl ⟨trivial, trivial⟩ ?_
            refine pw_callT hT (as := [pvR 104]) (lo1 := [some (pvR 104)]) (d1 := d) (rest := []) rfl rfl rfl rfl rfl (fun _ => rfl) (Nat.zero_le _) rfl rfl rfl (sf_X6_isFull_104 M hok d) ?_
            have b38_ : 0 ≤ Int32.toInt (M.1 104 0) ∧ Int32.toInt (M.1 104 0) ≤ 8 := pvok_r hok 104 0 rfl
            by_cases c39_ : (M.1 104 0) < (Int32.ofNat 8)
            · refine pw_eqI (if_pos c39_) ?_
              have b40_ : 0 ≤ Int32.toInt (M.1 104 0) ∧ Int32.toInt (M.1 104 0) ≤ 7 := zr_lt_l 7 c39_ b38_ (show 8 ≤ Int32.toInt (Int32.ofNat 8) ∧ Int32.toInt (Int32.ofNat 8) ≤ 8 from (by decide)) (by decide)
              show PW 168 d (41, [some (pvR 0), some (pvR 104), some (pvI n2), some (pvI n3)], [pvI 0], M) _
              refine pw_if hT (c := 0 = 0) rfl rfl (fun c41_ => ?_) (fun c41_ => absurd (by decide) c41_)
              refine pw_blk hT 3 (S' := (50, [some (pvR 0), some (pvR 104), some (pvI n2), some (pvI n3)], [pvI n3, pvI n2, pvR 104], M)) rfl ⟨trivial, trivial, trivial, trivial⟩ ?_
              refine pw_callGd hT (as := [pvR 104, pvI n2, pvI n3]) (lo1 := [some (pvR 104), some (pvI n2), some (pvI n3)]) (d1 := d) (rest := []) rfl rfl rfl rfl rfl (fun _ => rfl) (Nat.zero_le _) rfl rfl rfl (se_X6_append_104_x_x M hok n2 n3 b16_ b31_ d) (fun x43_ M44_ b45_ o46_ g47_ d42_ => ?_)
              have f48_ : pvFr fp_eX9_appendTold_0_104_x_x M M44_ := pvfr_t g47_ pvfr_0 fp_eX9_appendTold_0_104_x_x_fp_eX6_append_104_x_x
              obtain ⟨b49_, d50_⟩ := b45_
              subst d50_
              exact pw_ret hT rfl (r := some (pvI (if (M.1 104 0) < (Int32.ofNat 8) then ((M.1 104 0) + 1) else (M.1 104 0)))) (M' := M44_) ⟨rfl, rfl⟩ ⟨⟨_, rfl, (zr_wide b49_ (by decide) (by decide)), (by rw [if_neg c1_, if_neg c7_, if_neg c12_, if_neg c24_, if_neg c28_, if_pos c39_]; first | done | (rw [if_pos c39_]; done))⟩, o46_, f48_, (by rw [if_neg c1_, if_neg c7_, if_neg c12_, if_neg c24_, if_neg c28_, if_pos c39_]; first | done | exact d42_ | (rw [if_pos c39_]; done) | (rw [if_pos c39_]; exact d42_))⟩
            · refine pw_eqI (if_neg c39_) ?_
              have b51_ : 8 ≤ Int32.toInt (M.1 104 0) ∧ Int32.toInt (M.1 104 0) ≤ 8 := zr_nlt_l 8 c39_ b38_ (show 8 ≤ Int32.toInt (Int32.ofNat 8) ∧ Int32.toInt (Int32.ofNat 8) ≤ 8 from (by decide)) (by decide)
              show PW 168 d (41, [some (pvR 0), some (pvR 104), some (pvI n2), some (pvI n3)], [pvI 1], M) _
              refine pw_if hT (c := 1 = 0) rfl rfl (fun c52_ => absurd c52_ (by decide)) (fun c52_ => ?_)
              refine pw_blk hT 1 (S' := (46, [some (pvR 0), some (pvR 104), some (pvI n2), some (pvI n3)], [pvI (-4)], M)) rfl ⟨trivial, trivial⟩ ?_
              exact pw_ret hT rfl (r := some (pvI (-4))) (M' := M) ⟨rfl, rfl⟩ ⟨⟨_, rfl, (zr_wide (show (-4) ≤ Int32.toInt (-4) ∧ Int32.toInt (-4) ≤ (-4) from (by decide)) (by decide) (by decide)), (by rw [if_neg c1_, if_neg c7_, if_neg c12_, if_neg c24_, if_neg c28_, if_neg c39_]; first | done | (rw [if_neg c39_]; done))⟩, hok, pvfr_0, (by rw [if_neg c1_, if_neg c7_, if_neg c12_, if_neg c24_, if_neg c28_, if_neg c39_]; first | done | exact rfl | (rw [if_neg c39_]; done) | (rw [if_neg c39_]; exact rfl))⟩
  · have b53_ : (-1) ≤ Int32.toInt n2 ∧ Int32.toInt n2 ≤ (-1) := (by have u0 := (zbnd n2); have u1 := (zi_eq _ _).mp c1_; have u2 := (show (-1) ≤ Int32.toInt (-1) ∧ Int32.toInt (-1) ≤ (-1) from (by decide)); omega)
    refine pw_blk hT 1 (S' := (6, [some (pvR 0), some (pvR 104), some (pvI n2), some (pvI n3)], [pvR 104], M)) rfl ⟨trivial, trivial⟩ ?_
    refine pw_callGd hT (as := [pvR 104]) (lo1 := [some (pvR 104)]) (d1 := d) (rest := []) rfl rfl rfl rfl rfl (fun _ => rfl) (Nat.zero_le _) rfl rfl rfl (se_X6_clear_104 M hok d) (fun x55_ M56_ b57_ o58_ g59_ d54_ => ?_)
    have f60_ : pvFr fp_eX9_appendTold_0_104_x_x M M56_ := pvfr_t g59_ pvfr_0 fp_eX9_appendTold_0_104_x_x_fp_eX6_clear_104
    obtain ⟨b61_, d62_⟩ := b57_
    subst d62_
    exact pw_ret hT rfl (r := some (pvI 0)) (M' := M56_) ⟨rfl, rfl⟩ ⟨⟨_, rfl, (zr_wide b61_ (by decide) (by decide)), (by rw [if_pos c1_]; first | done | (rw [if_pos c1_]; done))⟩, o58_, f60_, (by rw [if_pos c1_]; first | done | exact d54_ | (rw [if_pos c1_]; done) | (rw [if_pos c1_]; exact d54_))⟩
def fpL_eX9_book_0_x_x : List (Nat × Nat × Nat) := [(0, 104, 1), (0, 112, 0), (0, 120, 0)]
def fp_eX9_book_0_x_x (q k : Nat) : Bool := pvfp fpL_eX9_book_0_x_x q k
theorem fp_eX9_book_0_x_x_fp_eX9_appendTold_0_104_x_x (a b : Nat) (h : fp_eX9_appendTold_0_104_x_x a b = true) : fp_eX9_book_0_x_x a b = true := pvfp_sub (l1 := fpL_eX9_appendTold_0_104_x_x) (l2 := fpL_eX9_book_0_x_x) (by decide) a b h
set_option maxHeartbeats 4000000 in
set_option maxRecDepth 10000 in
theorem se_X9_book_0_x_x (M : pvM) (hok : pvOk M) (n1 : Int32) (n2 : Int32) (d : Nat) : PW 171 d (0, [some (pvR 0), some (pvI n1), some (pvI n2)], [], M) (fun r X => (∃ x : Int32, r = some (pvI x) ∧ ((-4) ≤ Int32.toInt x ∧ Int32.toInt x ≤ 8) ∧ x = (if n1 = (-1) then 0 else (if n1 < 0 then (-1) else (if (M.1 8 1) ≤ n1 then (-1) else (if n2 < 0 then (-2) else (if 9999 < n2 then (-2) else (if (M.1 104 0) < (Int32.ofNat 8) then (if (M.1 104 0) < (Int32.ofNat 8) then ((M.1 104 0) + 1) else (M.1 104 0)) else (-4)))))))) ∧ pvOk X ∧ pvFr fp_eX9_book_0_x_x M X ∧ X.1 104 0 = (if n1 = (-1) then 0 else (if n1 < 0 then (M.1 104 0) else (if (M.1 8 1) ≤ n1 then (M.1 104 0) else (if n2 < 0 then (M.1 104 0) else (if 9999 < n2 then (M.1 104 0) else (if (M.1 104 0) < (Int32.ofNat 8) then (if (M.1 104 0) < (Int32.ofNat 8) then ((M.1 104 0) + 1) else (M.1 104 0)) else (M.1 104 0)))))))) := by
  have hT : pvdom 171 = pvD_171 := rfl
  refine pw_blk hT 6 (S' := (10, [some (pvR 0), some (pvI n1), some (pvI n2)], [pvI n2, pvI n1, pvR 104, pvR 0], M)) rfl ⟨trivial, trivial, rfl, rfl, trivial, trivial, trivial⟩ ?_
  refine pw_callGd hT (as := [pvR 0, pvR 104, pvI n1, pvI n2]) (lo1 := [some (pvR 0), some (pvR 104), some (pvI n1), some (pvI n2)]) (d1 := d) (rest := []) rfl rfl rfl rfl rfl (fun _ => rfl) (Nat.zero_le _) rfl rfl rfl (se_X9_appendTold_0_104_x_x M hok n1 n2 d) (fun x2_ M3_ b4_ o5_ g6_ d1_ => ?_)
  have f7_ : pvFr fp_eX9_book_0_x_x M M3_ := pvfr_t g6_ pvfr_0 fp_eX9_book_0_x_x_fp_eX9_appendTold_0_104_x_x
  obtain ⟨b8_, d9_⟩ := b4_
  subst d9_
  exact pw_ret hT rfl (r := some (pvI (if n1 = (-1) then 0 else (if n1 < 0 then (-1) else (if (M.1 8 1) ≤ n1 then (-1) else (if n2 < 0 then (-2) else (if 9999 < n2 then (-2) else (if (M.1 104 0) < (Int32.ofNat 8) then (if (M.1 104 0) < (Int32.ofNat 8) then ((M.1 104 0) + 1) else (M.1 104 0)) else (-4))))))))) (M' := M3_) ⟨rfl, rfl⟩ ⟨⟨_, rfl, b8_, rfl⟩, o5_, f7_, d1_⟩
def fpL_eX9_feed_0_x : List (Nat × Nat × Nat) := [(0, 6, 2), (0, 7, 0)]
def fp_eX9_feed_0_x (q k : Nat) : Bool := pvfp fpL_eX9_feed_0_x q k
set_option maxHeartbeats 4000000 in
set_option maxRecDepth 10000 in
theorem se_X9_feed_0_x (M : pvM) (hok : pvOk M) (n1 : Int32) (d : Nat) : PW 173 d (0, [some (pvR 0), some (pvI n1)], [], M) (fun r X => (∃ x : Int32, r = some (pvI x) ∧ (-4) ≤ Int32.toInt x ∧ Int32.toInt x ≤ 100) ∧ pvOk X ∧ pvFr fp_eX9_feed_0_x M X ∧ zFd 0 1 6 1 7 n1 r M X) := by
  have hT : pvdom 173 = pvD_173 := rfl
  refine pw_blk hT 3 (S' := (4, [some (pvR 0), some (pvI n1)], [pvI 127, pvI 0, pvI n1], M)) rfl ⟨trivial, trivial, trivial, trivial⟩ ?_
  refine pw_callT hT (as := [pvI n1, pvI 0, pvI 127]) (lo1 := [some (pvI n1), some (pvI 0), some (pvI 127)]) (d1 := d) (rest := []) rfl rfl rfl rfl rfl (fun h => absurd h (by decide)) (Nat.zero_le _) rfl rfl rfl (sf_X9_within_x_x_x M hok n1 0 127 d) ?_
  by_cases c6_ : n1 < 0
  · refine pw_eqI (if_pos c6_) ?_
    have b7_ : (-2147483648) ≤ Int32.toInt n1 ∧ Int32.toInt n1 ≤ (-1) := zr_lt_l (-1) c6_ (zbnd n1) (show 0 ≤ Int32.toInt 0 ∧ Int32.toInt 0 ≤ 0 from (by decide)) (by decide)
    show PW 173 d (7, [some (pvR 0), some (pvI n1)], [pvI 0], M) _
    refine pw_ifn hT (c := 0 = 0) rfl rfl (fun c8_ => absurd (by decide) c8_) (fun c8_ => ?_)
    refine pw_blk hT 1 (S' := (12, [some (pvR 0), some (pvI n1)], [pvI (-2)], M)) rfl ⟨trivial, trivial⟩ ?_
    exact pw_ret hT rfl (r := some (pvI (-2))) (M' := M) ⟨rfl, rfl⟩ ⟨⟨_, rfl, (zr_wide (show (-2) ≤ Int32.toInt (-2) ∧ Int32.toInt (-2) ≤ (-2) from (by decide)) (by decide) (by decide))⟩, hok, pvfr_0, (Or.inl ⟨Or.inl c6_, rfl, zKx_r 0 1 6 1 7 M⟩)⟩
  · refine pw_eqI (if_neg c6_) ?_
    have b9_ : 0 ≤ Int32.toInt n1 ∧ Int32.toInt n1 ≤ 2147483647 := zr_nlt_l 0 c6_ (zbnd n1) (show 0 ≤ Int32.toInt 0 ∧ Int32.toInt 0 ≤ 0 from (by decide)) (by decide)
    by_cases c10_ : 127 < n1
    · refine pw_eqI (if_pos c10_) ?_
      have b11_ : 128 ≤ Int32.toInt n1 ∧ Int32.toInt n1 ≤ 2147483647 := zr_lt_r 128 c10_ b9_ (show 127 ≤ Int32.toInt 127 ∧ Int32.toInt 127 ≤ 127 from (by decide)) (by decide)
      show PW 173 d (7, [some (pvR 0), some (pvI n1)], [pvI 0], M) _
      refine pw_ifn hT (c := 0 = 0) rfl rfl (fun c12_ => absurd (by decide) c12_) (fun c12_ => ?_)
      refine pw_blk hT 1 (S' := (12, [some (pvR 0), some (pvI n1)], [pvI (-2)], M)) rfl ⟨trivial, trivial⟩ ?_
      exact pw_ret hT rfl (r := some (pvI (-2))) (M' := M) ⟨rfl, rfl⟩ ⟨⟨_, rfl, (zr_wide (show (-2) ≤ Int32.toInt (-2) ∧ Int32.toInt (-2) ≤ (-2) from (by decide)) (by decide) (by decide))⟩, hok, pvfr_0, (Or.inl ⟨Or.inr c10_, rfl, zKx_r 0 1 6 1 7 M⟩)⟩
    · refine pw_eqI (if_neg c10_) ?_
      have b13_ : 0 ≤ Int32.toInt n1 ∧ Int32.toInt n1 ≤ 127 := zr_nlt_r 127 c10_ b9_ (show 127 ≤ Int32.toInt 127 ∧ Int32.toInt 127 ≤ 127 from (by decide)) (by decide)
      show PW 173 d (7, [some (pvR 0), some (pvI n1)], [pvI 1], M) _
      refine pw_ifn hT (c := 1 = 0) rfl rfl (fun c14_ => ?_) (fun c14_ => absurd c14_ (by decide))
      have b15_ : 0 ≤ Int32.toInt (M.1 6 1) ∧ Int32.toInt (M.1 6 1) ≤ 100 := pvok_r hok 6 1 rfl
      refine pw_blk hT 4 (S' := (22, [some (pvR 0), some (pvI n1)], [pvI 100, pvI (M.1 6 1)], M)) rfl ⟨trivial, rfl, rfl, trivial, trivial⟩ ?_
      refine pw_ic hT (c := (M.1 6 1) < 100) rfl rfl (fun c16_ => ?_) (fun c16_ => ?_)
      · have b17_ : 0 ≤ Int32.toInt (M.1 6 1) ∧ Int32.toInt (M.1 6 1) ≤ 99 := zr_lt_l 99 c16_ b15_ (show 100 ≤ Int32.toInt 100 ∧ Int32.toInt 100 ≤ 100 from (by decide)) (by decide)
        refine pw_blkw hT 8 (pc := 44) (lo := [some (pvR 0), some (pvI n1)]) (st := []) (M := pvu M 7 (Int32.toNatClampNeg (M.1 6 1)) n1) rfl ⟨trivial, rfl, rfl, trivial, rfl, rfl, trivial, ⟨rfl, (zr_in (n := 100) b17_ (by decide) (by decide))⟩, trivial⟩ (fun M18_ e19_ => ?_)
        have o20_ : pvOk M18_ := pvok_u2 e19_ hok rfl b13_
        have f21_ : pvFr fp_eX9_feed_0_x M M18_ := pvfr_u e19_ pvfr_0 rfl
        have e22_ : (M18_.1 6 1) = (M.1 6 1) := (pvu_n e19_ 6 1 (Or.inl (by decide)))
        have b23_ : 0 ≤ Int32.toInt (M18_.1 6 1) ∧ Int32.toInt (M18_.1 6 1) ≤ 99 := (by rw [e22_]; exact b17_)
        obtain ⟨q25_, b24_⟩ : (Int32.toInt ((M18_.1 6 1) + 1) = Int32.toInt (M18_.1 6 1) + 1) ∧ (1 ≤ Int32.toInt ((M18_.1 6 1) + 1) ∧ Int32.toInt ((M18_.1 6 1) + 1) ≤ 100) := zadd_k (M18_.1 6 1) 1 1 1 100 b23_ (by decide) (by decide) (by decide) (by decide) (by decide)
        refine pw_blkw hT 7 (pc := 57) (lo := [some (pvR 0), some (pvI n1)]) (st := []) (M := pvu M18_ 6 1 ((M18_.1 6 1) + 1)) rfl ⟨trivial, rfl, trivial, rfl, trivial, trivial, rfl, trivial⟩ (fun M26_ e27_ => ?_)
        have o28_ : pvOk M26_ := pvok_u2 e27_ o20_ rfl (zr_wide b24_ (by decide) (by decide))
        have f29_ : pvFr fp_eX9_feed_0_x M M26_ := pvfr_u e27_ f21_ rfl
        have e30_ : (M26_.1 6 1) = ((M18_.1 6 1) + 1) := (pvu_s e27_)
        have b31_ : 1 ≤ Int32.toInt (M26_.1 6 1) ∧ Int32.toInt (M26_.1 6 1) ≤ 100 := (by rw [e30_]; exact b24_)
        refine pw_blk hT 3 (S' := (64, [some (pvR 0), some (pvI n1)], [pvI (M26_.1 6 1)], M26_)) rfl ⟨trivial, rfl, rfl, trivial⟩ ?_
        exact pw_ret hT rfl (r := some (pvI (M26_.1 6 1))) (M' := M26_) ⟨rfl, rfl⟩ ⟨⟨_, rfl, (zr_wide b31_ (by decide) (by decide))⟩, o28_, f29_, (zFd_u (fun z => z.elim c6_ c10_) (by have u := b17_; omega) (by decide) (by decide) (Or.inl (by decide)) e19_ e27_)⟩
      · have b32_ : 100 ≤ Int32.toInt (M.1 6 1) ∧ Int32.toInt (M.1 6 1) ≤ 100 := zr_nlt_l 100 c16_ b15_ (show 100 ≤ Int32.toInt 100 ∧ Int32.toInt 100 ≤ 100 from (by decide)) (by decide)
        refine pw_blk hT 1 (S' := (27, [some (pvR 0), some (pvI n1)], [pvI (-4)], M)) rfl ⟨trivial, trivial⟩ ?_
        exact pw_ret hT rfl (r := some (pvI (-4))) (M' := M) ⟨rfl, rfl⟩ ⟨⟨_, rfl, (zr_wide (show (-4) ≤ Int32.toInt (-4) ∧ Int32.toInt (-4) ≤ (-4) from (by decide)) (by decide) (by decide))⟩, hok, pvfr_0, (Or.inr (Or.inl ⟨(fun z => z.elim c6_ c10_), (by have u := b32_; omega), rfl, zKx_r 0 1 6 1 7 M⟩))⟩
def fpL_eX2_becomeBare_x : List (Nat × Nat × Nat) := [(1, 2, 1), (1, 2, 2), (1, 2, 3), (1, 2, 6)]
def fp_eX2_becomeBare_x (q k : Nat) : Bool := pvfp fpL_eX2_becomeBare_x q k
set_option maxHeartbeats 4000000 in
set_option maxRecDepth 10000 in
theorem se_X2_becomeBare_x (M : pvM) (hok : pvOk M) (q0 : Nat) (hq0 : pvkl q0 = 2) (d : Nat) : PW 125 d (0, [some (pvR q0)], [], M) (fun r X => r = none ∧ pvOk X ∧ pvFr fp_eX2_becomeBare_x M X ∧ X = zpB M q0) := by
  have hT : pvdom 125 = pvD_125 := rfl
  refine pw_blkw hT 3 (pc := 5) (lo := [some (pvR q0)]) (st := []) (M := pvu M q0 0 2) rfl ⟨trivial, trivial, hq0, trivial⟩ (fun M1_ e2_ => ?_)
  have o3_ : pvOk M1_ := pvok_u2 e2_ hok ((pvrg_o 0 hq0 (by decide) (by decide)).trans rfl) (zr_wide (show 2 ≤ Int32.toInt 2 ∧ Int32.toInt 2 ≤ 2 from (by decide)) (by decide) (by decide))
  have f4_ : pvFr fp_eX2_becomeBare_x M M1_ := pvfr_u e2_ pvfr_0 (pvfp_r (l := fpL_eX2_becomeBare_x) (pvowr_2 hq0) (kk := 1) (by decide) (Or.inr rfl))
  refine pw_blkw hT 3 (pc := 11) (lo := [some (pvR q0)]) (st := []) (M := pvu M1_ q0 1 15) rfl ⟨trivial, trivial, hq0, trivial⟩ (fun M5_ e6_ => ?_)
  have o7_ : pvOk M5_ := pvok_u2 e6_ o3_ ((pvrg_o 1 hq0 (by decide) (by decide)).trans rfl) (zr_wide (show 15 ≤ Int32.toInt 15 ∧ Int32.toInt 15 ≤ 15 from (by decide)) (by decide) (by decide))
  have f8_ : pvFr fp_eX2_becomeBare_x M M5_ := pvfr_u e6_ f4_ (pvfp_r (l := fpL_eX2_becomeBare_x) (pvowr_2 hq0) (kk := 2) (by decide) (Or.inr rfl))
  refine pw_blkw hT 3 (pc := 16) (lo := [some (pvR q0)]) (st := []) (M := pvu M5_ q0 2 0) rfl ⟨trivial, trivial, hq0, trivial⟩ (fun M9_ e10_ => ?_)
  have o11_ : pvOk M9_ := pvok_u2 e10_ o7_ ((pvrg_o 2 hq0 (by decide) (by decide)).trans rfl) (zr_wide (show 0 ≤ Int32.toInt 0 ∧ Int32.toInt 0 ≤ 0 from (by decide)) (by decide) (by decide))
  have f12_ : pvFr fp_eX2_becomeBare_x M M9_ := pvfr_u e10_ f8_ (pvfp_r (l := fpL_eX2_becomeBare_x) (pvowr_2 hq0) (kk := 3) (by decide) (Or.inr rfl))
  refine pw_blkw hT 3 (pc := 21) (lo := [some (pvR q0)]) (st := []) (M := pvu M9_ q0 5 0) rfl ⟨trivial, trivial, hq0, trivial⟩ (fun M13_ e14_ => ?_)
  have o15_ : pvOk M13_ := pvok_u2 e14_ o11_ ((pvrg_o 5 hq0 (by decide) (by decide)).trans rfl) (zr_wide (show 0 ≤ Int32.toInt 0 ∧ Int32.toInt 0 ≤ 0 from (by decide)) (by decide) (by decide))
  have f16_ : pvFr fp_eX2_becomeBare_x M M13_ := pvfr_u e14_ f12_ (pvfp_r (l := fpL_eX2_becomeBare_x) (pvowr_2 hq0) (kk := 6) (by decide) (Or.inr rfl))
  exact pw_ret hT rfl (r := none) (M' := M13_) ⟨rfl, rfl⟩ ⟨rfl, o15_, f16_, (by rw [e14_, e10_, e6_, e2_]; rfl)⟩
