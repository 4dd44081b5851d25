def fpL_X9_undo_0 : List (Nat × Nat × Nat) := [(0, 100, 1), (0, 102, 1), (0, 104, 1), (0, 108, 0), (0, 110, 0), (0, 112, 0), (0, 116, 0), (0, 118, 0), (0, 120, 0), (0, 14, 0), (0, 8, 2), (0, 8, 3), (0, 8, 4), (0, 8, 5), (0, 8, 6), (0, 8, 7), (0, 8, 8), (0, 8, 9), (1, 113, 0), (1, 3, 1), (1, 3, 2), (1, 3, 3), (1, 3, 4), (1, 3, 5), (1, 3, 6)]
def fp_X9_undo_0 (q k : Nat) : Bool := pvfp fpL_X9_undo_0 q k
theorem fp_X9_undo_0_fp_X1_forget_5 (a b : Nat) (h : fp_X1_forget_5 a b = true) : fp_X9_undo_0 a b = true := pvfp_sub (l1 := fpL_X1_forget_5) (l2 := fpL_X9_undo_0) (by decide) a b h
theorem fp_X9_undo_0_fp_X7_becomeAs_8_9 (a b : Nat) (h : fp_X7_becomeAs_8_9 a b = true) : fp_X9_undo_0 a b = true := pvfp_sub (l1 := fpL_X7_becomeAs_8_9) (l2 := fpL_X9_undo_0) (by decide) a b h
set_option maxHeartbeats 4000000 in
set_option maxRecDepth 10000 in
theorem sf_X9_undo_0 (M : pvM) (hok : pvOk M) (d : Nat) : PW 208 d (0, [some (pvR 0)], [], M) (fun r X => (∃ x : Int32, r = some (pvI x) ∧ (-3) ≤ Int32.toInt x ∧ Int32.toInt x ≤ 7) ∧ pvOk X ∧ pvFr fp_X9_undo_0 M X) := by
  have hT : pvdom 208 = pvD_208 := rfl
  have b1_ : 0 ≤ Int32.toInt (M.1 0 5) ∧ Int32.toInt (M.1 0 5) ≤ 1 := pvok_r hok 0 5 rfl
  refine pw_blk hT 2 (S' := (4, [some (pvR 0)], [pvI (M.1 0 5)], M)) rfl ⟨trivial, rfl, trivial⟩ ?_
  refine pw_ifn hT (c := (M.1 0 5) = 0) rfl rfl (fun c2_ => ?_) (fun c2_ => ?_)
  · have b3_ : 1 ≤ Int32.toInt (M.1 0 5) ∧ Int32.toInt (M.1 0 5) ≤ 1 := (by have u0 := b1_; have u1 := (not_congr (zi_eq _ _)).mp c2_; have u2 := (show 0 ≤ Int32.toInt 0 ∧ Int32.toInt 0 ≤ 0 from (by decide)); omega)
    refine pw_blk hT 4 (S' := (18, [some (pvR 0)], [pvR 9, pvR 8], M)) rfl ⟨trivial, rfl, trivial, rfl, trivial⟩ ?_
    refine pw_callV hT (as := [pvR 8, pvR 9]) (lo1 := [some (pvR 8), some (pvR 9), none]) (d1 := d) (rest := []) rfl rfl rfl rfl rfl (fun _ => rfl) (Nat.zero_le _) rfl rfl rfl (sf_X7_becomeAs_8_9 M hok d) (fun M5_ o7_ g8_ => ?_)
    have f9_ : pvFr fp_X9_undo_0 M M5_ := pvfr_t g8_ pvfr_0 fp_X9_undo_0_fp_X7_becomeAs_8_9
    refine pw_blk hT 2 (S' := (25, [some (pvR 0)], [pvR 5], M5_)) rfl ⟨trivial, rfl, trivial⟩ ?_
    refine pw_callV hT (as := [pvR 5]) (lo1 := [some (pvR 5), none]) (d1 := d) (rest := []) rfl rfl rfl rfl rfl (fun _ => rfl) (Nat.zero_le _) rfl rfl rfl (sf_X1_forget_5 M5_ o7_ d) (fun M11_ o13_ g14_ => ?_)
    have f15_ : pvFr fp_X9_undo_0 M M11_ := pvfr_t g14_ f9_ fp_X9_undo_0_fp_X1_forget_5
    have b16_ : 0 ≤ Int32.toInt (M11_.1 8 1) ∧ Int32.toInt (M11_.1 8 1) ≤ 7 := pvok_r o13_ 8 1 rfl
    refine pw_blk hT 3 (S' := (35, [some (pvR 0)], [pvI (M11_.1 8 1)], M11_)) rfl ⟨trivial, rfl, rfl, trivial⟩ ?_
    exact pw_ret hT rfl (r := some (pvI (M11_.1 8 1))) (M' := M11_) ⟨rfl, rfl⟩ ⟨⟨_, rfl, (zr_wide b16_ (by decide) (by decide))⟩, o13_, f15_⟩
  · have b17_ : 0 ≤ Int32.toInt (M.1 0 5) ∧ Int32.toInt (M.1 0 5) ≤ 0 := (by have u0 := b1_; have u1 := (zi_eq _ _).mp c2_; have u2 := (show 0 ≤ Int32.toInt 0 ∧ Int32.toInt 0 ≤ 0 from (by decide)); omega)
    refine pw_blk hT 1 (S' := (9, [some (pvR 0)], [pvI (-3)], M)) rfl ⟨trivial, trivial⟩ ?_
    exact pw_ret hT rfl (r := some (pvI (-3))) (M' := M) ⟨rfl, rfl⟩ ⟨⟨_, rfl, (zr_wide (show (-3) ≤ Int32.toInt (-3) ∧ Int32.toInt (-3) ≤ (-3) from (by decide)) (by decide) (by decide))⟩, hok, pvfr_0⟩
def fpL_X9_window_0_x_x_x_x_x : List (Nat × Nat × Nat) := [(0, 14, 0), (0, 8, 2), (1, 113, 0), (1, 3, 1), (1, 3, 2), (1, 3, 3), (1, 3, 4), (1, 3, 5), (1, 3, 6)]
def fp_X9_window_0_x_x_x_x_x (q k : Nat) : Bool := pvfp fpL_X9_window_0_x_x_x_x_x q k
theorem fp_X9_window_0_x_x_x_x_x_fp_X1_forget_5 (a b : Nat) (h : fp_X1_forget_5 a b = true) : fp_X9_window_0_x_x_x_x_x a b = true := pvfp_sub (l1 := fpL_X1_forget_5) (l2 := fpL_X9_window_0_x_x_x_x_x) (by decide) a b h
theorem fp_X9_window_0_x_x_x_x_x_fp_X4_becomeNew_x_x_x_x_x_x (a b : Nat) (h : fp_X4_becomeNew_x_x_x_x_x_x a b = true) : fp_X9_window_0_x_x_x_x_x a b = true := pvfp_sub (l1 := fpL_X4_becomeNew_x_x_x_x_x_x) (l2 := fpL_X9_window_0_x_x_x_x_x) (by decide) a b h
set_option maxHeartbeats 4000000 in
set_option maxRecDepth 10000 in
theorem sf_X9_window_0_x_x_x_x_x (M : pvM) (hok : pvOk M) (n1 : Int32) (n2 : Int32) (n3 : Int32) (n4 : Int32) (n5 : Int32) (d : Nat) : PW 210 d (0, [some (pvR 0), some (pvI n1), some (pvI n2), some (pvI n3), some (pvI n4), some (pvI n5), none], [], M) (fun r X => (∃ x : Int32, r = some (pvI x) ∧ (-4) ≤ Int32.toInt x ∧ Int32.toInt x ≤ 6) ∧ pvOk X ∧ pvFr fp_X9_window_0_x_x_x_x_x M X) := by
  have hT : pvdom 210 = pvD_210 := rfl
  refine pw_blk hT 3 (S' := (4, [some (pvR 0), some (pvI n1), some (pvI n2), some (pvI n3), some (pvI n4), some (pvI n5), none], [pvI 6, pvI 0, pvI n1], M)) rfl ⟨trivial, trivial, trivial, trivial⟩ ?_
  refine pw_callT hT (as := [pvI n1, pvI 0, pvI 6]) (lo1 := [some (pvI n1), some (pvI 0), some (pvI 6)]) (d1 := d) (rest := []) rfl rfl rfl rfl rfl (fun h => absurd h (by decide)) (Nat.zero_le _) rfl rfl rfl (sf_X9_within_x_x_x M hok n1 0 6 d) ?_
  by_cases c6_ : n1 < 0
  · refine pw_eqI (if_pos c6_) ?_
    have b7_ : (-2147483648) ≤ Int32.toInt n1 ∧ Int32.toInt n1 ≤ (-1) := zr_lt_l (-1) c6_ (zbnd n1) (show 0 ≤ Int32.toInt 0 ∧ Int32.toInt 0 ≤ 0 from (by decide)) (by decide)
    show PW 210 d (7, [some (pvR 0), some (pvI n1), some (pvI n2), some (pvI n3), some (pvI n4), some (pvI n5), none], [pvI 0], M) _
    refine pw_ifn hT (c := 0 = 0) rfl rfl (fun c8_ => absurd (by decide) c8_) (fun c8_ => ?_)
    refine pw_blk hT 1 (S' := (11, [some (pvR 0), some (pvI n1), some (pvI n2), some (pvI n3), some (pvI n4), some (pvI n5), none], [pvI (-1)], M)) rfl ⟨trivial, trivial⟩ ?_
    exact pw_ret hT rfl (r := some (pvI (-1))) (M' := M) ⟨rfl, rfl⟩ ⟨⟨_, rfl, (zr_wide (show (-1) ≤ Int32.toInt (-1) ∧ Int32.toInt (-1) ≤ (-1) from (by decide)) (by decide) (by decide))⟩, hok, pvfr_0⟩
  · refine pw_eqI (if_neg c6_) ?_
    have b9_ : 0 ≤ Int32.toInt n1 ∧ Int32.toInt n1 ≤ 2147483647 := zr_nlt_l 0 c6_ (zbnd n1) (show 0 ≤ Int32.toInt 0 ∧ Int32.toInt 0 ≤ 0 from (by decide)) (by decide)
    by_cases c10_ : 6 < n1
    · refine pw_eqI (if_pos c10_) ?_
      have b11_ : 7 ≤ Int32.toInt n1 ∧ Int32.toInt n1 ≤ 2147483647 := zr_lt_r 7 c10_ b9_ (show 6 ≤ Int32.toInt 6 ∧ Int32.toInt 6 ≤ 6 from (by decide)) (by decide)
      show PW 210 d (7, [some (pvR 0), some (pvI n1), some (pvI n2), some (pvI n3), some (pvI n4), some (pvI n5), none], [pvI 0], M) _
      refine pw_ifn hT (c := 0 = 0) rfl rfl (fun c12_ => absurd (by decide) c12_) (fun c12_ => ?_)
      refine pw_blk hT 1 (S' := (11, [some (pvR 0), some (pvI n1), some (pvI n2), some (pvI n3), some (pvI n4), some (pvI n5), none], [pvI (-1)], M)) rfl ⟨trivial, trivial⟩ ?_
      exact pw_ret hT rfl (r := some (pvI (-1))) (M' := M) ⟨rfl, rfl⟩ ⟨⟨_, rfl, (zr_wide (show (-1) ≤ Int32.toInt (-1) ∧ Int32.toInt (-1) ≤ (-1) from (by decide)) (by decide) (by decide))⟩, hok, pvfr_0⟩
    · refine pw_eqI (if_neg c10_) ?_
      have b13_ : 0 ≤ Int32.toInt n1 ∧ Int32.toInt n1 ≤ 6 := zr_nlt_r 6 c10_ b9_ (show 6 ≤ Int32.toInt 6 ∧ Int32.toInt 6 ≤ 6 from (by decide)) (by decide)
      show PW 210 d (7, [some (pvR 0), some (pvI n1), some (pvI n2), some (pvI n3), some (pvI n4), some (pvI n5), none], [pvI 1], M) _
      refine pw_ifn hT (c := 1 = 0) rfl rfl (fun c14_ => ?_) (fun c14_ => absurd c14_ (by decide))
      refine pw_blk hT 3 (S' := (16, [some (pvR 0), some (pvI n1), some (pvI n2), some (pvI n3), some (pvI n4), some (pvI n5), none], [pvI 9, pvI 0, pvI n2], M)) rfl ⟨trivial, trivial, trivial, trivial⟩ ?_
      refine pw_callT hT (as := [pvI n2, pvI 0, pvI 9]) (lo1 := [some (pvI n2), some (pvI 0), some (pvI 9)]) (d1 := d) (rest := []) rfl rfl rfl rfl rfl (fun h => absurd h (by decide)) (Nat.zero_le _) rfl rfl rfl (sf_X9_within_x_x_x M hok n2 0 9 d) ?_
      by_cases c20_ : n2 < 0
      · refine pw_eqI (if_pos c20_) ?_
        have b21_ : (-2147483648) ≤ Int32.toInt n2 ∧ Int32.toInt n2 ≤ (-1) := zr_lt_l (-1) c20_ (zbnd n2) (show 0 ≤ Int32.toInt 0 ∧ Int32.toInt 0 ≤ 0 from (by decide)) (by decide)
        show PW 210 d (19, [some (pvR 0), some (pvI n1), some (pvI n2), some (pvI n3), some (pvI n4), some (pvI n5), none], [pvI 0], M) _
        refine pw_if hT (c := 0 = 0) rfl rfl (fun c22_ => ?_) (fun c22_ => absurd (by decide) c22_)
        refine pw_blk hT 1 (S' := (44, [some (pvR 0), some (pvI n1), some (pvI n2), some (pvI n3), some (pvI n4), some (pvI n5), none], [pvI (-2)], M)) rfl ⟨trivial, trivial⟩ ?_
        exact pw_ret hT rfl (r := some (pvI (-2))) (M' := M) ⟨rfl, rfl⟩ ⟨⟨_, rfl, (zr_wide (show (-2) ≤ Int32.toInt (-2) ∧ Int32.toInt (-2) ≤ (-2) from (by decide)) (by decide) (by decide))⟩, hok, pvfr_0⟩
      · refine pw_eqI (if_neg c20_) ?_
        have b23_ : 0 ≤ Int32.toInt n2 ∧ Int32.toInt n2 ≤ 2147483647 := zr_nlt_l 0 c20_ (zbnd n2) (show 0 ≤ Int32.toInt 0 ∧ Int32.toInt 0 ≤ 0 from (by decide)) (by decide)
        by_cases c24_ : 9 < n2
        · refine pw_eqI (if_pos c24_) ?_
          have b25_ : 10 ≤ Int32.toInt n2 ∧ Int32.toInt n2 ≤ 2147483647 := zr_lt_r 10 c24_ b23_ (show 9 ≤ Int32.toInt 9 ∧ Int32.toInt 9 ≤ 9 from (by decide)) (by decide)
          show PW 210 d (19, [some (pvR 0), some (pvI n1), some (pvI n2), some (pvI n3), some (pvI n4), some (pvI n5), none], [pvI 0], M) _
          refine pw_if hT (c := 0 = 0) rfl rfl (fun c26_ => ?_) (fun c26_ => absurd (by decide) c26_)
          refine pw_blk hT 1 (S' := (44, [some (pvR 0), some (pvI n1), some (pvI n2), some (pvI n3), some (pvI n4), some (pvI n5), none], [pvI (-2)], M)) rfl ⟨trivial, trivial⟩ ?_
          exact pw_ret hT rfl (r := some (pvI (-2))) (M' := M) ⟨rfl, rfl⟩ ⟨⟨_, rfl, (zr_wide (show (-2) ≤ Int32.toInt (-2) ∧ Int32.toInt (-2) ≤ (-2) from (by decide)) (by decide) (by decide))⟩, hok, pvfr_0⟩
        · refine pw_eqI (if_neg c24_) ?_
          have b27_ : 0 ≤ Int32.toInt n2 ∧ Int32.toInt n2 ≤ 9 := zr_nlt_r 9 c24_ b23_ (show 9 ≤ Int32.toInt 9 ∧ Int32.toInt 9 ≤ 9 from (by decide)) (by decide)
          show PW 210 d (19, [some (pvR 0), some (pvI n1), some (pvI n2), some (pvI n3), some (pvI n4), some (pvI n5), none], [pvI 1], M) _
          refine pw_if hT (c := 1 = 0) rfl rfl (fun c28_ => absurd c28_ (by decide)) (fun c28_ => ?_)
          refine pw_blk hT 2 (S' := (25, [some (pvR 0), some (pvI n1), some (pvI n2), some (pvI n3), some (pvI n4), some (pvI n5), none], [pvI n4, pvI n3], M)) rfl ⟨trivial, trivial, trivial⟩ ?_
          refine pw_callT hT (as := [pvI n3, pvI n4]) (lo1 := [some (pvI n3), some (pvI n4)]) (d1 := d) (rest := []) rfl rfl rfl rfl rfl (fun h => absurd h (by decide)) (Nat.zero_le _) rfl rfl rfl (sf_X9_isPlace_x_x M hok n3 n4 d) ?_
          by_cases c34_ : n3 < 0
          · refine pw_eqI (if_pos c34_) ?_
            have b35_ : (-2147483648) ≤ Int32.toInt n3 ∧ Int32.toInt n3 ≤ (-1) := zr_lt_l (-1) c34_ (zbnd n3) (show 0 ≤ Int32.toInt 0 ∧ Int32.toInt 0 ≤ 0 from (by decide)) (by decide)
            show PW 210 d (28, [some (pvR 0), some (pvI n1), some (pvI n2), some (pvI n3), some (pvI n4), some (pvI n5), none], [pvI 0], M) _
            refine pw_if hT (c := 0 = 0) rfl rfl (fun c36_ => ?_) (fun c36_ => absurd (by decide) c36_)
            refine pw_blk hT 1 (S' := (44, [some (pvR 0), some (pvI n1), some (pvI n2), some (pvI n3), some (pvI n4), some (pvI n5), none], [pvI (-2)], M)) rfl ⟨trivial, trivial⟩ ?_
            exact pw_ret hT rfl (r := some (pvI (-2))) (M' := M) ⟨rfl, rfl⟩ ⟨⟨_, rfl, (zr_wide (show (-2) ≤ Int32.toInt (-2) ∧ Int32.toInt (-2) ≤ (-2) from (by decide)) (by decide) (by decide))⟩, hok, pvfr_0⟩
          · refine pw_eqI (if_neg c34_) ?_
            have b37_ : 0 ≤ Int32.toInt n3 ∧ Int32.toInt n3 ≤ 2147483647 := zr_nlt_l 0 c34_ (zbnd n3) (show 0 ≤ Int32.toInt 0 ∧ Int32.toInt 0 ≤ 0 from (by decide)) (by decide)
            by_cases c38_ : 3 < n3
            · refine pw_eqI (if_pos c38_) ?_
              have b39_ : 4 ≤ Int32.toInt n3 ∧ Int32.toInt n3 ≤ 2147483647 := zr_lt_r 4 c38_ b37_ (show 3 ≤ Int32.toInt 3 ∧ Int32.toInt 3 ≤ 3 from (by decide)) (by decide)
              show PW 210 d (28, [some (pvR 0), some (pvI n1), some (pvI n2), some (pvI n3), some (pvI n4), some (pvI n5), none], [pvI 0], M) _
              refine pw_if hT (c := 0 = 0) rfl rfl (fun c40_ => ?_) (fun c40_ => absurd (by decide) c40_)
              refine pw_blk hT 1 (S' := (44, [some (pvR 0), some (pvI n1), some (pvI n2), some (pvI n3), some (pvI n4), some (pvI n5), none], [pvI (-2)], M)) rfl ⟨trivial, trivial⟩ ?_
              exact pw_ret hT rfl (r := some (pvI (-2))) (M' := M) ⟨rfl, rfl⟩ ⟨⟨_, rfl, (zr_wide (show (-2) ≤ Int32.toInt (-2) ∧ Int32.toInt (-2) ≤ (-2) from (by decide)) (by decide) (by decide))⟩, hok, pvfr_0⟩
            · refine pw_eqI (if_neg c38_) ?_
              have b41_ : 0 ≤ Int32.toInt n3 ∧ Int32.toInt n3 ≤ 3 := zr_nlt_r 3 c38_ b37_ (show 3 ≤ Int32.toInt 3 ∧ Int32.toInt 3 ≤ 3 from (by decide)) (by decide)
              by_cases c42_ : n4 < 0
              · refine pw_eqI (if_pos c42_) ?_
                have b43_ : (-2147483648) ≤ Int32.toInt n4 ∧ Int32.toInt n4 ≤ (-1) := zr_lt_l (-1) c42_ (zbnd n4) (show 0 ≤ Int32.toInt 0 ∧ Int32.toInt 0 ≤ 0 from (by decide)) (by decide)
                show PW 210 d (28, [some (pvR 0), some (pvI n1), some (pvI n2), some (pvI n3), some (pvI n4), some (pvI n5), none], [pvI 0], M) _
                refine pw_if hT (c := 0 = 0) rfl rfl (fun c44_ => ?_) (fun c44_ => absurd (by decide) c44_)
                refine pw_blk hT 1 (S' := (44, [some (pvR 0), some (pvI n1), some (pvI n2), some (pvI n3), some (pvI n4), some (pvI n5), none], [pvI (-2)], M)) rfl ⟨trivial, trivial⟩ ?_
                exact pw_ret hT rfl (r := some (pvI (-2))) (M' := M) ⟨rfl, rfl⟩ ⟨⟨_, rfl, (zr_wide (show (-2) ≤ Int32.toInt (-2) ∧ Int32.toInt (-2) ≤ (-2) from (by decide)) (by decide) (by decide))⟩, hok, pvfr_0⟩
              · refine pw_eqI (if_neg c42_) ?_
                have b45_ : 0 ≤ Int32.toInt n4 ∧ Int32.toInt n4 ≤ 2147483647 := zr_nlt_l 0 c42_ (zbnd n4) (show 0 ≤ Int32.toInt 0 ∧ Int32.toInt 0 ≤ 0 from (by decide)) (by decide)
                by_cases c46_ : 4 < n4
                · refine pw_eqI (if_pos c46_) ?_
                  have b47_ : 5 ≤ Int32.toInt n4 ∧ Int32.toInt n4 ≤ 2147483647 := zr_lt_r 5 c46_ b45_ (show 4 ≤ Int32.toInt 4 ∧ Int32.toInt 4 ≤ 4 from (by decide)) (by decide)
                  show PW 210 d (28, [some (pvR 0), some (pvI n1), some (pvI n2), some (pvI n3), some (pvI n4), some (pvI n5), none], [pvI 0], M) _
                  refine pw_if hT (c := 0 = 0) rfl rfl (fun c48_ => ?_) (fun c48_ => absurd (by decide) c48_)
                  refine pw_blk hT 1 (S' := (44, [some (pvR 0), some (pvI n1), some (pvI n2), some (pvI n3), some (pvI n4), some (pvI n5), none], [pvI (-2)], M)) rfl ⟨trivial, trivial⟩ ?_
                  exact pw_ret hT rfl (r := some (pvI (-2))) (M' := M) ⟨rfl, rfl⟩ ⟨⟨_, rfl, (zr_wide (show (-2) ≤ Int32.toInt (-2) ∧ Int32.toInt (-2) ≤ (-2) from (by decide)) (by decide) (by decide))⟩, hok, pvfr_0⟩
                · refine pw_eqI (if_neg c46_) ?_
                  have b49_ : 0 ≤ Int32.toInt n4 ∧ Int32.toInt n4 ≤ 4 := zr_nlt_r 4 c46_ b45_ (show 4 ≤ Int32.toInt 4 ∧ Int32.toInt 4 ≤ 4 from (by decide)) (by decide)
                  show PW 210 d (28, [some (pvR 0), some (pvI n1), some (pvI n2), some (pvI n3), some (pvI n4), some (pvI n5), none], [pvI 1], M) _
                  refine pw_if hT (c := 1 = 0) rfl rfl (fun c50_ => absurd c50_ (by decide)) (fun c50_ => ?_)
                  refine pw_blk hT 3 (S' := (36, [some (pvR 0), some (pvI n1), some (pvI n2), some (pvI n3), some (pvI n4), some (pvI n5), none], [pvI 9, pvI 1, pvI n5], M)) rfl ⟨trivial, trivial, trivial, trivial⟩ ?_
                  refine pw_callT hT (as := [pvI n5, pvI 1, pvI 9]) (lo1 := [some (pvI n5), some (pvI 1), some (pvI 9)]) (d1 := d) (rest := []) rfl rfl rfl rfl rfl (fun h => absurd h (by decide)) (Nat.zero_le _) rfl rfl rfl (sf_X9_within_x_x_x M hok n5 1 9 d) ?_
                  by_cases c56_ : n5 < 1
                  · refine pw_eqI (if_pos c56_) ?_
                    have b57_ : (-2147483648) ≤ Int32.toInt n5 ∧ Int32.toInt n5 ≤ 0 := zr_lt_l 0 c56_ (zbnd n5) (show 1 ≤ Int32.toInt 1 ∧ Int32.toInt 1 ≤ 1 from (by decide)) (by decide)
                    show PW 210 d (39, [some (pvR 0), some (pvI n1), some (pvI n2), some (pvI n3), some (pvI n4), some (pvI n5), none], [pvI 0], M) _
                    refine pw_ifn hT (c := 0 = 0) rfl rfl (fun c58_ => absurd (by decide) c58_) (fun c58_ => ?_)
                    refine pw_blk hT 1 (S' := (44, [some (pvR 0), some (pvI n1), some (pvI n2), some (pvI n3), some (pvI n4), some (pvI n5), none], [pvI (-2)], M)) rfl ⟨trivial, trivial⟩ ?_
                    exact pw_ret hT rfl (r := some (pvI (-2))) (M' := M) ⟨rfl, rfl⟩ ⟨⟨_, rfl, (zr_wide (show (-2) ≤ Int32.toInt (-2) ∧ Int32.toInt (-2) ≤ (-2) from (by decide)) (by decide) (by decide))⟩, hok, pvfr_0⟩
                  · refine pw_eqI (if_neg c56_) ?_
                    have b59_ : 1 ≤ Int32.toInt n5 ∧ Int32.toInt n5 ≤ 2147483647 := zr_nlt_l 1 c56_ (zbnd n5) (show 1 ≤ Int32.toInt 1 ∧ Int32.toInt 1 ≤ 1 from (by decide)) (by decide)
                    by_cases c60_ : 9 < n5
                    · refine pw_eqI (if_pos c60_) ?_
                      have b61_ : 10 ≤ Int32.toInt n5 ∧ Int32.toInt n5 ≤ 2147483647 := zr_lt_r 10 c60_ b59_ (show 9 ≤ Int32.toInt 9 ∧ Int32.toInt 9 ≤ 9 from (by decide)) (by decide)
                      show PW 210 d (39, [some (pvR 0), some (pvI n1), some (pvI n2), some (pvI n3), some (pvI n4), some (pvI n5), none], [pvI 0], M) _
                      refine pw_ifn hT (c := 0 = 0) rfl rfl (fun c62_ => absurd (by decide) c62_) (fun c62_ => ?_)
                      refine pw_blk hT 1 (S' := (44, [some (pvR 0), some (pvI n1), some (pvI n2), some (pvI n3), some (pvI n4), some (pvI n5), none], [pvI (-2)], M)) rfl ⟨trivial, trivial⟩ ?_
                      exact pw_ret hT rfl (r := some (pvI (-2))) (M' := M) ⟨rfl, rfl⟩ ⟨⟨_, rfl, (zr_wide (show (-2) ≤ Int32.toInt (-2) ∧ Int32.toInt (-2) ≤ (-2) from (by decide)) (by decide) (by decide))⟩, hok, pvfr_0⟩
                    · refine pw_eqI (if_neg c60_) ?_
                      have b63_ : 1 ≤ Int32.toInt n5 ∧ Int32.toInt n5 ≤ 9 := zr_nlt_r 9 c60_ b59_ (show 9 ≤ Int32.toInt 9 ∧ Int32.toInt 9 ≤ 9 from (by decide)) (by decide)
                      show PW 210 d (39, [some (pvR 0), some (pvI n1), some (pvI n2), some (pvI n3), some (pvI n4), some (pvI n5), none], [pvI 1], M) _
                      refine pw_ifn hT (c := 1 = 0) rfl rfl (fun c64_ => ?_) (fun c64_ => absurd c64_ (by decide))
                      have b65_ : 0 ≤ Int32.toInt (M.1 8 1) ∧ Int32.toInt (M.1 8 1) ≤ 7 := pvok_r hok 8 1 rfl
                      refine pw_blk hT 4 (S' := (54, [some (pvR 0), some (pvI n1), some (pvI n2), some (pvI n3), some (pvI n4), some (pvI n5), none], [pvI 7, pvI (M.1 8 1)], M)) rfl ⟨trivial, rfl, rfl, trivial, trivial⟩ ?_
                      refine pw_ic hT (c := (M.1 8 1) < 7) rfl rfl (fun c66_ => ?_) (fun c66_ => ?_)
                      · have b67_ : 0 ≤ Int32.toInt (M.1 8 1) ∧ Int32.toInt (M.1 8 1) ≤ 6 := zr_lt_l 6 c66_ b65_ (show 7 ≤ Int32.toInt 7 ∧ Int32.toInt 7 ≤ 7 from (by decide)) (by decide)
                        obtain ⟨q69_, b68_⟩ : (Int32.toInt ((M.1 8 1) + 1) = Int32.toInt (M.1 8 1) + 1) ∧ (1 ≤ Int32.toInt ((M.1 8 1) + 1) ∧ Int32.toInt ((M.1 8 1) + 1) ≤ 7) := zadd_k (M.1 8 1) 1 1 1 7 b67_ (by decide) (by decide) (by decide) (by decide) (by decide)
                        refine pw_blkw hT 8 (pc := 74) (lo := [some (pvR 0), some (pvI n1), some (pvI n2), some (pvI n3), some (pvI n4), some (pvI n5), none]) (st := [pvI (M.1 8 1)]) (M := pvu M 8 1 ((M.1 8 1) + 1)) rfl ⟨trivial, rfl, trivial, rfl, trivial, trivial, trivial, rfl, trivial⟩ (fun M70_ e71_ => ?_)
                        have o72_ : pvOk M70_ := pvok_u2 e71_ hok rfl (zr_wide b68_ (by decide) (by decide))
                        have f73_ : pvFr fp_X9_window_0_x_x_x_x_x M M70_ := pvfr_u e71_ pvfr_0 rfl
                        refine pw_blkr hT 6 (pc := 86) (lo := [some (pvR 0), some (pvI n1), some (pvI n2), some (pvI n3), some (pvI n4), some (pvI n5), some (pvI (M.1 8 1))]) (st := []) (M := M70_) (z := (pvbs 10 + Int32.toNatClampNeg (M.1 8 1))) rfl ⟨trivial, trivial, rfl, rfl, trivial, ⟨rfl, (zr_in (n := 7) b67_ (by decide) (by decide))⟩, trivial⟩ (fun q74_ e76_ => ?_)
                        have k75_ : pvkl q74_ = 3 := pvel_10 (zr_in (n := 7) b67_ (by decide) (by decide)) e76_
                        refine pw_blk hT 5 (S' := (93, [some (pvR 0), some (pvI n1), some (pvI n2), some (pvI n3), some (pvI n4), some (pvI n5), some (pvI (M.1 8 1))], [pvI n5, pvI n4, pvI n3, pvI n2, pvI n1, pvR q74_], M70_)) rfl ⟨trivial, trivial, trivial, trivial, trivial, trivial⟩ ?_
                        refine pw_callV hT (as := [pvR q74_, pvI n1, pvI n2, pvI n3, pvI n4, pvI n5]) (lo1 := [some (pvR q74_), some (pvI n1), some (pvI n2), some (pvI n3), some (pvI n4), some (pvI n5), none]) (d1 := d) (rest := []) rfl rfl rfl rfl rfl (fun _ => k75_) (Nat.zero_le _) rfl rfl rfl (sf_X4_becomeNew_x_x_x_x_x_x M70_ o72_ q74_ n1 n2 n3 n4 n5 k75_ b13_ b27_ b41_ b49_ (zr_wide b63_ (by decide) (by decide)) d) (fun M78_ o80_ g81_ => ?_)
                        have f82_ : pvFr fp_X9_window_0_x_x_x_x_x M M78_ := pvfr_t g81_ f73_ fp_X9_window_0_x_x_x_x_x_fp_X4_becomeNew_x_x_x_x_x_x
                        refine pw_blk hT 2 (S' := (100, [some (pvR 0), some (pvI n1), some (pvI n2), some (pvI n3), some (pvI n4), some (pvI n5), some (pvI (M.1 8 1))], [pvR 5], M78_)) rfl ⟨trivial, rfl, trivial⟩ ?_
                        refine pw_callV hT (as := [pvR 5]) (lo1 := [some (pvR 5), none]) (d1 := d) (rest := []) rfl rfl rfl rfl rfl (fun _ => rfl) (Nat.zero_le _) rfl rfl rfl (sf_X1_forget_5 M78_ o80_ d) (fun M84_ o86_ g87_ => ?_)
                        have f88_ : pvFr fp_X9_window_0_x_x_x_x_x M M84_ := pvfr_t g87_ f82_ fp_X9_window_0_x_x_x_x_x_fp_X1_forget_5
                        refine pw_blk hT 1 (S' := (105, [some (pvR 0), some (pvI n1), some (pvI n2), some (pvI n3), some (pvI n4), some (pvI n5), some (pvI (M.1 8 1))], [pvI (M.1 8 1)], M84_)) rfl ⟨trivial, trivial⟩ ?_
                        exact pw_ret hT rfl (r := some (pvI (M.1 8 1))) (M' := M84_) ⟨rfl, rfl⟩ ⟨⟨_, rfl, (zr_wide b67_ (by decide) (by decide))⟩, o86_, f88_⟩
                      · have b89_ : 7 ≤ Int32.toInt (M.1 8 1) ∧ Int32.toInt (M.1 8 1) ≤ 7 := zr_nlt_l 7 c66_ b65_ (show 7 ≤ Int32.toInt 7 ∧ Int32.toInt 7 ≤ 7 from (by decide)) (by decide)
                        refine pw_blk hT 1 (S' := (59, [some (pvR 0), some (pvI n1), some (pvI n2), some (pvI n3), some (pvI n4), some (pvI n5), none], [pvI (-4)], M)) rfl ⟨trivial, trivial⟩ ?_
                        exact pw_ret hT rfl (r := some (pvI (-4))) (M' := M) ⟨rfl, rfl⟩ ⟨⟨_, rfl, (zr_wide (show (-4) ≤ Int32.toInt (-4) ∧ Int32.toInt (-4) ≤ (-4) from (by decide)) (by decide) (by decide))⟩, hok, pvfr_0⟩
def fpL_X9_worth_0_x : List (Nat × Nat × Nat) := [(0, 12, 0), (0, 13, 0), (0, 14, 0), (0, 5, 2), (0, 5, 3), (1, 112, 0)]
def fp_X9_worth_0_x (q k : Nat) : Bool := pvfp fpL_X9_worth_0_x q k
theorem fp_X9_worth_0_x_fp_X1_beginFromNow_5 (a b : Nat) (h : fp_X1_beginFromNow_5 a b = true) : fp_X9_worth_0_x a b = true := pvfp_sub (l1 := fpL_X1_beginFromNow_5) (l2 := fpL_X9_worth_0_x) (by decide) a b h
set_option maxHeartbeats 4000000 in
set_option maxRecDepth 10000 in
theorem sf_X9_worth_0_x (M : pvM) (hok : pvOk M) (n1 : Int32) (d : Nat) : PW 212 d (0, [some (pvR 0), some (pvI n1), none], [], M) (fun r X => (∃ x : Int32, r = some (pvI x) ∧ True) ∧ pvOk X ∧ pvFr fp_X9_worth_0_x M X) := by
  have hT : pvdom 212 = pvD_212 := rfl
  refine pw_blk hT 3 (S' := (5, [some (pvR 0), some (pvI n1), none], [pvI n1, pvR 8], M)) rfl ⟨trivial, rfl, trivial, trivial⟩ ?_
  refine pw_callT hT (as := [pvR 8, pvI n1]) (lo1 := [some (pvR 8), some (pvI n1)]) (d1 := d) (rest := []) rfl rfl rfl rfl rfl (fun _ => rfl) (Nat.zero_le _) rfl rfl rfl (sf_X7_has_8_x M hok n1 d) ?_
  by_cases c6_ : n1 < 0
  · refine pw_eqI (if_pos c6_) ?_
    have b7_ : (-2147483648) ≤ Int32.toInt n1 ∧ Int32.toInt n1 ≤ (-1) := zr_lt_l (-1) c6_ (zbnd n1) (show 0 ≤ Int32.toInt 0 ∧ Int32.toInt 0 ≤ 0 from (by decide)) (by decide)
    show PW 212 d (8, [some (pvR 0), some (pvI n1), none], [pvI 0], M) _
    refine pw_ifn hT (c := 0 = 0) rfl rfl (fun c8_ => absurd (by decide) c8_) (fun c8_ => ?_)
    refine pw_blk hT 1 (S' := (12, [some (pvR 0), some (pvI n1), none], [pvI (-1)], M)) rfl ⟨trivial, trivial⟩ ?_
    exact pw_ret hT rfl (r := some (pvI (-1))) (M' := M) ⟨rfl, rfl⟩ ⟨⟨_, rfl, trivial⟩, hok, pvfr_0⟩
  · refine pw_eqI (if_neg c6_) ?_
    have b9_ : 0 ≤ Int32.toInt n1 ∧ Int32.toInt n1 ≤ 2147483647 := zr_nlt_l 0 c6_ (zbnd n1) (show 0 ≤ Int32.toInt 0 ∧ Int32.toInt 0 ≤ 0 from (by decide)) (by decide)
    have b10_ : 0 ≤ Int32.toInt (M.1 8 1) ∧ Int32.toInt (M.1 8 1) ≤ 7 := pvok_r hok 8 1 rfl
    by_cases c11_ : (M.1 8 1) ≤ n1
    · refine pw_eqI (if_pos c11_) ?_
      have d12_ : Int32.toInt (M.1 8 1) ≤ Int32.toInt n1 := (zi_le _ _).mp c11_
      show PW 212 d (8, [some (pvR 0), some (pvI n1), none], [pvI 0], M) _
      refine pw_ifn hT (c := 0 = 0) rfl rfl (fun c13_ => absurd (by decide) c13_) (fun c13_ => ?_)
      refine pw_blk hT 1 (S' := (12, [some (pvR 0), some (pvI n1), none], [pvI (-1)], M)) rfl ⟨trivial, trivial⟩ ?_
      exact pw_ret hT rfl (r := some (pvI (-1))) (M' := M) ⟨rfl, rfl⟩ ⟨⟨_, rfl, trivial⟩, hok, pvfr_0⟩
    · refine pw_eqI (if_neg c11_) ?_
      have b14_ : 1 ≤ Int32.toInt (M.1 8 1) ∧ Int32.toInt (M.1 8 1) ≤ 7 := zr_nle_l 1 c11_ b10_ b9_ (by decide)
      have b15_ : 0 ≤ Int32.toInt n1 ∧ Int32.toInt n1 ≤ 6 := zr_nle_r 6 c11_ b9_ b14_ (by decide)
      have d16_ : Int32.toInt (M.1 8 1) > Int32.toInt n1 := Int.not_le.mp ((not_congr (zi_le _ _)).mp c11_)
      show PW 212 d (8, [some (pvR 0), some (pvI n1), none], [pvI 1], M) _
      refine pw_ifn hT (c := 1 = 0) rfl rfl (fun c17_ => ?_) (fun c17_ => absurd c17_ (by decide))
      refine pw_blk hT 2 (S' := (17, [some (pvR 0), some (pvI n1), none], [pvR 5], M)) rfl ⟨trivial, rfl, trivial⟩ ?_
      refine pw_callV hT (as := [pvR 5]) (lo1 := [some (pvR 5)]) (d1 := d) (rest := []) rfl rfl rfl rfl rfl (fun _ => rfl) (Nat.zero_le _) rfl rfl rfl (sf_X1_beginFromNow_5 M hok d) (fun M19_ o21_ g22_ => ?_)
      have f23_ : pvFr fp_X9_worth_0_x M M19_ := pvfr_t g22_ pvfr_0 fp_X9_worth_0_x_fp_X1_beginFromNow_5
      refine pw_blk hT 2 (S' := (24, [some (pvR 0), some (pvI n1), none], [pvR 5], M19_)) rfl ⟨trivial, rfl, trivial⟩ ?_
      refine pw_callGp hT (as := [pvR 5]) (lo1 := [some (pvR 5)]) (d1 := d) (rest := []) rfl rfl rfl rfl rfl (fun _ => rfl) (Nat.zero_le _) rfl rfl rfl (sf_X1_cost_5 M19_ o21_ d) (fun x24_ b26_ => ?_)
      refine pw_blkw hT 7 (pc := 38) (lo := [some (pvR 0), some (pvI n1), some (pvI x24_)]) (st := []) (M := pvu M19_ 12 (Int32.toNatClampNeg n1) 0) rfl ⟨trivial, trivial, rfl, rfl, trivial, trivial, ⟨rfl, (zr_in (n := 7) b15_ (by decide) (by decide))⟩, trivial⟩ (fun M29_ e30_ => ?_)
      have o31_ : pvOk M29_ := pvok_u2 e30_ o21_ rfl (zr_wide (show 0 ≤ Int32.toInt 0 ∧ Int32.toInt 0 ≤ 0 from (by decide)) (by decide) (by decide))
      have f32_ : pvFr fp_X9_worth_0_x M M29_ := pvfr_u e30_ f23_ rfl
      refine pw_blk hT 3 (S' := (43, [some (pvR 0), some (pvI n1), some (pvI x24_)], [pvR 5, pvI x24_], M29_)) rfl ⟨trivial, trivial, rfl, trivial⟩ ?_
      refine pw_callGp hT (as := [pvR 5]) (lo1 := [some (pvR 5)]) (d1 := d) (rest := [pvI x24_]) rfl rfl rfl rfl rfl (fun _ => rfl) (Nat.zero_le _) rfl rfl rfl (sf_X1_cost_5 M29_ o31_ d) (fun x33_ b35_ => ?_)
      refine pw_blk hT 1 (S' := (47, [some (pvR 0), some (pvI n1), some (pvI x24_)], [pvI (x24_ - x33_)], M29_)) rfl ⟨trivial, trivial⟩ ?_
      exact pw_ret hT rfl (r := some (pvI (x24_ - x33_))) (M' := M29_) ⟨rfl, rfl⟩ ⟨⟨_, rfl, trivial⟩, o31_, f32_⟩
