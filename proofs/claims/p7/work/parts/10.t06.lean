def fpL_X10_row_124_x_x_x : List (Nat × Nat × Nat) := [(0, 130, 0)]
def fp_X10_row_124_x_x_x (q k : Nat) : Bool := pvfp fpL_X10_row_124_x_x_x q k
set_option maxHeartbeats 4000000 in
set_option maxRecDepth 10000 in
theorem sf_X10_row_124_x_x_x (M : pvM) (hok : pvOk M) (n1 : Int32) (n2 : Int32) (n3 : Int32) (d : Nat) : PW 70 d (0, [some (pvR 124), some (pvI n1), some (pvI n2), some (pvI n3), none], [], M) (fun r X => (∃ x : Int32, r = some (pvI x) ∧ (-3) ≤ Int32.toInt x ∧ Int32.toInt x ≤ 9) ∧ pvOk X ∧ pvFr fp_X10_row_124_x_x_x M X) := by
  have hT : pvdom 70 = pvD_70 := rfl
  refine pw_blk hT 2 (S' := (2, [some (pvR 124), some (pvI n1), some (pvI n2), some (pvI n3), none], [pvI n1, pvR 124], M)) rfl ⟨trivial, trivial, trivial⟩ ?_
  refine pw_callT hT (as := [pvR 124, pvI n1]) (lo1 := [some (pvR 124), some (pvI n1)]) (d1 := d) (rest := []) rfl rfl rfl rfl rfl (fun _ => rfl) (Nat.zero_le _) rfl rfl rfl (sf_X10_isWindow_124_x M hok n1 d) ?_
  by_cases c6_ : n1 < 0
  · refine pw_eqI (if_pos c6_) ?_
    have b7_ : (-2147483648) ≤ Int32.toInt n1 ∧ Int32.toInt n1 ≤ (-1) := zr_lt_l (-1) c6_ (zbnd n1) (show 0 ≤ Int32.toInt 0 ∧ Int32.toInt 0 ≤ 0 from (by decide)) (by decide)
    show PW 70 d (5, [some (pvR 124), some (pvI n1), some (pvI n2), some (pvI n3), none], [pvI 0], M) _
    refine pw_if hT (c := 0 = 0) rfl rfl (fun c8_ => ?_) (fun c8_ => absurd (by decide) c8_)
    refine pw_blk hT 1 (S' := (19, [some (pvR 124), some (pvI n1), some (pvI n2), some (pvI n3), none], [pvI (-1)], M)) rfl ⟨trivial, trivial⟩ ?_
    exact pw_ret hT rfl (r := some (pvI (-1))) (M' := M) ⟨rfl, rfl⟩ ⟨⟨_, rfl, (zr_wide (show (-1) ≤ Int32.toInt (-1) ∧ Int32.toInt (-1) ≤ (-1) from (by decide)) (by decide) (by decide))⟩, hok, pvfr_0⟩
  · refine pw_eqI (if_neg c6_) ?_
    have b9_ : 0 ≤ Int32.toInt n1 ∧ Int32.toInt n1 ≤ 2147483647 := zr_nlt_l 0 c6_ (zbnd n1) (show 0 ≤ Int32.toInt 0 ∧ Int32.toInt 0 ≤ 0 from (by decide)) (by decide)
    have b10_ : 0 ≤ Int32.toInt (M.1 124 0) ∧ Int32.toInt (M.1 124 0) ≤ 7 := pvok_r hok 124 0 rfl
    obtain ⟨q12_, b11_⟩ : (Int32.toInt ((M.1 124 0) - 1) = Int32.toInt (M.1 124 0) - Int32.toInt 1) ∧ ((-1) ≤ Int32.toInt ((M.1 124 0) - 1) ∧ Int32.toInt ((M.1 124 0) - 1) ≤ 6) := zsub_r (M.1 124 0) 1 (-1) 6 b10_ (show 1 ≤ Int32.toInt 1 ∧ Int32.toInt 1 ≤ 1 from (by decide)) (by decide) (by decide) (by decide) (by decide)
    have u13_ : Int32.toInt 1 = 1 := by decide
    by_cases c14_ : ((M.1 124 0) - 1) < n1
    · refine pw_eqI (if_pos c14_) ?_
      have d15_ : Int32.toInt ((M.1 124 0) - 1) < Int32.toInt n1 := (zi_lt _ _).mp c14_
      show PW 70 d (5, [some (pvR 124), some (pvI n1), some (pvI n2), some (pvI n3), none], [pvI 0], M) _
      refine pw_if hT (c := 0 = 0) rfl rfl (fun c16_ => ?_) (fun c16_ => absurd (by decide) c16_)
      refine pw_blk hT 1 (S' := (19, [some (pvR 124), some (pvI n1), some (pvI n2), some (pvI n3), none], [pvI (-1)], M)) rfl ⟨trivial, trivial⟩ ?_
      exact pw_ret hT rfl (r := some (pvI (-1))) (M' := M) ⟨rfl, rfl⟩ ⟨⟨_, rfl, (zr_wide (show (-1) ≤ Int32.toInt (-1) ∧ Int32.toInt (-1) ≤ (-1) from (by decide)) (by decide) (by decide))⟩, hok, pvfr_0⟩
    · refine pw_eqI (if_neg c14_) ?_
      have b17_ : 0 ≤ Int32.toInt ((M.1 124 0) - 1) ∧ Int32.toInt ((M.1 124 0) - 1) ≤ 6 := zr_nlt_l 0 c14_ b11_ b9_ (by decide)
      have b18_ : 0 ≤ Int32.toInt n1 ∧ Int32.toInt n1 ≤ 6 := zr_nlt_r 6 c14_ b9_ b17_ (by decide)
      have d19_ : Int32.toInt ((M.1 124 0) - 1) ≥ Int32.toInt n1 := Int.not_lt.mp ((not_congr (zi_lt _ _)).mp c14_)
      show PW 70 d (5, [some (pvR 124), some (pvI n1), some (pvI n2), some (pvI n3), none], [pvI 1], M) _
      refine pw_if hT (c := 1 = 0) rfl rfl (fun c20_ => absurd c20_ (by decide)) (fun c20_ => ?_)
      refine pw_blk hT 4 (S' := (12, [some (pvR 124), some (pvI n1), some (pvI n2), some (pvI n3), none], [pvI 3, pvI 0, pvI n2, pvR 124], M)) rfl ⟨trivial, trivial, trivial, trivial, trivial⟩ ?_
      refine pw_callT hT (as := [pvR 124, pvI n2, pvI 0, pvI 3]) (lo1 := [some (pvR 124), some (pvI n2), some (pvI 0), some (pvI 3)]) (d1 := d) (rest := []) rfl rfl rfl rfl rfl (fun _ => rfl) (Nat.zero_le _) rfl rfl rfl (sf_X10_in_124_x_x_x M hok n2 0 3 d) ?_
      by_cases c26_ : n2 < 0
      · refine pw_eqI (if_pos c26_) ?_
        have b27_ : (-2147483648) ≤ Int32.toInt n2 ∧ Int32.toInt n2 ≤ (-1) := zr_lt_l (-1) c26_ (zbnd n2) (show 0 ≤ Int32.toInt 0 ∧ Int32.toInt 0 ≤ 0 from (by decide)) (by decide)
        show PW 70 d (15, [some (pvR 124), some (pvI n1), some (pvI n2), some (pvI n3), none], [pvI 0], M) _
        refine pw_ifn hT (c := 0 = 0) rfl rfl (fun c28_ => absurd (by decide) c28_) (fun c28_ => ?_)
        refine pw_blk hT 1 (S' := (19, [some (pvR 124), some (pvI n1), some (pvI n2), some (pvI n3), none], [pvI (-1)], M)) rfl ⟨trivial, trivial⟩ ?_
        exact pw_ret hT rfl (r := some (pvI (-1))) (M' := M) ⟨rfl, rfl⟩ ⟨⟨_, rfl, (zr_wide (show (-1) ≤ Int32.toInt (-1) ∧ Int32.toInt (-1) ≤ (-1) from (by decide)) (by decide) (by decide))⟩, hok, pvfr_0⟩
      · refine pw_eqI (if_neg c26_) ?_
        have b29_ : 0 ≤ Int32.toInt n2 ∧ Int32.toInt n2 ≤ 2147483647 := zr_nlt_l 0 c26_ (zbnd n2) (show 0 ≤ Int32.toInt 0 ∧ Int32.toInt 0 ≤ 0 from (by decide)) (by decide)
        by_cases c30_ : 3 < n2
        · refine pw_eqI (if_pos c30_) ?_
          have b31_ : 4 ≤ Int32.toInt n2 ∧ Int32.toInt n2 ≤ 2147483647 := zr_lt_r 4 c30_ b29_ (show 3 ≤ Int32.toInt 3 ∧ Int32.toInt 3 ≤ 3 from (by decide)) (by decide)
          show PW 70 d (15, [some (pvR 124), some (pvI n1), some (pvI n2), some (pvI n3), none], [pvI 0], M) _
          refine pw_ifn hT (c := 0 = 0) rfl rfl (fun c32_ => absurd (by decide) c32_) (fun c32_ => ?_)
          refine pw_blk hT 1 (S' := (19, [some (pvR 124), some (pvI n1), some (pvI n2), some (pvI n3), none], [pvI (-1)], M)) rfl ⟨trivial, trivial⟩ ?_
          exact pw_ret hT rfl (r := some (pvI (-1))) (M' := M) ⟨rfl, rfl⟩ ⟨⟨_, rfl, (zr_wide (show (-1) ≤ Int32.toInt (-1) ∧ Int32.toInt (-1) ≤ (-1) from (by decide)) (by decide) (by decide))⟩, hok, pvfr_0⟩
        · refine pw_eqI (if_neg c30_) ?_
          have b33_ : 0 ≤ Int32.toInt n2 ∧ Int32.toInt n2 ≤ 3 := zr_nlt_r 3 c30_ b29_ (show 3 ≤ Int32.toInt 3 ∧ Int32.toInt 3 ≤ 3 from (by decide)) (by decide)
          show PW 70 d (15, [some (pvR 124), some (pvI n1), some (pvI n2), some (pvI n3), none], [pvI 1], M) _
          refine pw_ifn hT (c := 1 = 0) rfl rfl (fun c34_ => ?_) (fun c34_ => absurd c34_ (by decide))
          refine pw_blk hT 4 (S' := (25, [some (pvR 124), some (pvI n1), some (pvI n2), some (pvI n3), none], [pvI 9, pvI 0, pvI n3, pvR 124], M)) rfl ⟨trivial, trivial, trivial, trivial, trivial⟩ ?_
          refine pw_callT hT (as := [pvR 124, pvI n3, pvI 0, pvI 9]) (lo1 := [some (pvR 124), some (pvI n3), some (pvI 0), some (pvI 9)]) (d1 := d) (rest := []) rfl rfl rfl rfl rfl (fun _ => rfl) (Nat.zero_le _) rfl rfl rfl (sf_X10_in_124_x_x_x M hok n3 0 9 d) ?_
          by_cases c40_ : n3 < 0
          · refine pw_eqI (if_pos c40_) ?_
            have b41_ : (-2147483648) ≤ Int32.toInt n3 ∧ Int32.toInt n3 ≤ (-1) := zr_lt_l (-1) c40_ (zbnd n3) (show 0 ≤ Int32.toInt 0 ∧ Int32.toInt 0 ≤ 0 from (by decide)) (by decide)
            show PW 70 d (28, [some (pvR 124), some (pvI n1), some (pvI n2), some (pvI n3), none], [pvI 0], M) _
            refine pw_ifn hT (c := 0 = 0) rfl rfl (fun c42_ => absurd (by decide) c42_) (fun c42_ => ?_)
            refine pw_blk hT 1 (S' := (33, [some (pvR 124), some (pvI n1), some (pvI n2), some (pvI n3), none], [pvI (-2)], M)) rfl ⟨trivial, trivial⟩ ?_
            exact pw_ret hT rfl (r := some (pvI (-2))) (M' := M) ⟨rfl, rfl⟩ ⟨⟨_, rfl, (zr_wide (show (-2) ≤ Int32.toInt (-2) ∧ Int32.toInt (-2) ≤ (-2) from (by decide)) (by decide) (by decide))⟩, hok, pvfr_0⟩
          · refine pw_eqI (if_neg c40_) ?_
            have b43_ : 0 ≤ Int32.toInt n3 ∧ Int32.toInt n3 ≤ 2147483647 := zr_nlt_l 0 c40_ (zbnd n3) (show 0 ≤ Int32.toInt 0 ∧ Int32.toInt 0 ≤ 0 from (by decide)) (by decide)
            by_cases c44_ : 9 < n3
            · refine pw_eqI (if_pos c44_) ?_
              have b45_ : 10 ≤ Int32.toInt n3 ∧ Int32.toInt n3 ≤ 2147483647 := zr_lt_r 10 c44_ b43_ (show 9 ≤ Int32.toInt 9 ∧ Int32.toInt 9 ≤ 9 from (by decide)) (by decide)
              show PW 70 d (28, [some (pvR 124), some (pvI n1), some (pvI n2), some (pvI n3), none], [pvI 0], M) _
              refine pw_ifn hT (c := 0 = 0) rfl rfl (fun c46_ => absurd (by decide) c46_) (fun c46_ => ?_)
              refine pw_blk hT 1 (S' := (33, [some (pvR 124), some (pvI n1), some (pvI n2), some (pvI n3), none], [pvI (-2)], M)) rfl ⟨trivial, trivial⟩ ?_
              exact pw_ret hT rfl (r := some (pvI (-2))) (M' := M) ⟨rfl, rfl⟩ ⟨⟨_, rfl, (zr_wide (show (-2) ≤ Int32.toInt (-2) ∧ Int32.toInt (-2) ≤ (-2) from (by decide)) (by decide) (by decide))⟩, hok, pvfr_0⟩
            · refine pw_eqI (if_neg c44_) ?_
              have b47_ : 0 ≤ Int32.toInt n3 ∧ Int32.toInt n3 ≤ 9 := zr_nlt_r 9 c44_ b43_ (show 9 ≤ Int32.toInt 9 ∧ Int32.toInt 9 ≤ 9 from (by decide)) (by decide)
              show PW 70 d (28, [some (pvR 124), some (pvI n1), some (pvI n2), some (pvI n3), none], [pvI 1], M) _
              refine pw_ifn hT (c := 1 = 0) rfl rfl (fun c48_ => ?_) (fun c48_ => absurd c48_ (by decide))
              have b49_ : 0 ≤ Int32.toInt (M.1 125 (Int32.toNatClampNeg n1)) ∧ Int32.toInt (M.1 125 (Int32.toNatClampNeg n1)) ≤ 6 := pvok_r hok 125 (Int32.toNatClampNeg n1) rfl
              refine pw_blk hT 5 (S' := (42, [some (pvR 124), some (pvI n1), some (pvI n2), some (pvI n3), none], [pvI 6, pvI (M.1 125 (Int32.toNatClampNeg n1))], M)) rfl ⟨trivial, rfl, trivial, ⟨rfl, (zr_in (n := 7) b18_ (by decide) (by decide))⟩, trivial, trivial⟩ ?_
              refine pw_ic hT (c := (M.1 125 (Int32.toNatClampNeg n1)) = 6) rfl rfl (fun c50_ => ?_) (fun c50_ => ?_)
              · have b51_ : 6 ≤ Int32.toInt (M.1 125 (Int32.toNatClampNeg n1)) ∧ Int32.toInt (M.1 125 (Int32.toNatClampNeg n1)) ≤ 6 := (by have u0 := b49_; have u1 := (zi_eq _ _).mp c50_; have u2 := (show 6 ≤ Int32.toInt 6 ∧ Int32.toInt 6 ≤ 6 from (by decide)); omega)
                have q52_ : Int32.toInt (4 * n1) = 4 * Int32.toInt n1 := by have u0 : Int32.toInt 4 = 4 := (by decide); have u1 := b18_; have u2 := zmul 4 n1 (by rw [u0]; omega) (by rw [u0]; omega); rw [u0] at u2; omega
                have b53_ : 0 ≤ Int32.toInt (4 * n1) ∧ Int32.toInt (4 * n1) ≤ 24 := (by have u1 := b18_; omega)
                obtain ⟨q55_, b54_⟩ : (Int32.toInt ((4 * n1) + n2) = Int32.toInt (4 * n1) + Int32.toInt n2) ∧ (0 ≤ Int32.toInt ((4 * n1) + n2) ∧ Int32.toInt ((4 * n1) + n2) ≤ 27) := zadd_r (4 * n1) n2 0 27 b53_ b33_ (by decide) (by decide) (by decide) (by decide)
                have b56_ : 0 ≤ Int32.toInt (M.1 130 (Int32.toNatClampNeg ((4 * n1) + n2))) ∧ Int32.toInt (M.1 130 (Int32.toNatClampNeg ((4 * n1) + n2))) ≤ 9 := pvok_r hok 130 (Int32.toNatClampNeg ((4 * n1) + n2)) rfl
                refine pw_blkw hT 18 (pc := 71) (lo := [some (pvR 124), some (pvI n1), some (pvI n2), some (pvI n3), some (pvI (M.1 130 (Int32.toNatClampNeg ((4 * n1) + n2))))]) (st := []) (M := pvu M 130 (Int32.toNatClampNeg ((4 * n1) + n2)) n3) rfl ⟨trivial, rfl, trivial, trivial, trivial, trivial, trivial, ⟨rfl, (zr_in (n := 28) b54_ (by decide) (by decide))⟩, trivial, trivial, rfl, trivial, trivial, trivial, trivial, trivial, trivial, ⟨rfl, (zr_in (n := 28) b54_ (by decide) (by decide))⟩, trivial⟩ (fun M57_ e58_ => ?_)
                have o59_ : pvOk M57_ := pvok_u2 e58_ hok rfl b47_
                have f60_ : pvFr fp_X10_row_124_x_x_x M M57_ := pvfr_u e58_ pvfr_0 rfl
                refine pw_blk hT 1 (S' := (73, [some (pvR 124), some (pvI n1), some (pvI n2), some (pvI n3), some (pvI (M.1 130 (Int32.toNatClampNeg ((4 * n1) + n2))))], [pvI (M.1 130 (Int32.toNatClampNeg ((4 * n1) + n2)))], M57_)) rfl ⟨trivial, trivial⟩ ?_
                exact pw_ret hT rfl (r := some (pvI (M.1 130 (Int32.toNatClampNeg ((4 * n1) + n2))))) (M' := M57_) ⟨rfl, rfl⟩ ⟨⟨_, rfl, (zr_wide b56_ (by decide) (by decide))⟩, o59_, f60_⟩
              · have b61_ : 0 ≤ Int32.toInt (M.1 125 (Int32.toNatClampNeg n1)) ∧ Int32.toInt (M.1 125 (Int32.toNatClampNeg n1)) ≤ 5 := (by have u0 := b49_; have u1 := (not_congr (zi_eq _ _)).mp c50_; have u2 := (show 6 ≤ Int32.toInt 6 ∧ Int32.toInt 6 ≤ 6 from (by decide)); omega)
                refine pw_blk hT 1 (S' := (47, [some (pvR 124), some (pvI n1), some (pvI n2), some (pvI n3), none], [pvI (-3)], M)) rfl ⟨trivial, trivial⟩ ?_
                exact pw_ret hT rfl (r := some (pvI (-3))) (M' := M) ⟨rfl, rfl⟩ ⟨⟨_, rfl, (zr_wide (show (-3) ≤ Int32.toInt (-3) ∧ Int32.toInt (-3) ≤ (-3) from (by decide)) (by decide) (by decide))⟩, hok, pvfr_0⟩
def fpL_X10_see_124_x_x : List (Nat × Nat × Nat) := [(0, 124, 41), (0, 147, 0), (0, 148, 0)]
def fp_X10_see_124_x_x (q k : Nat) : Bool := pvfp fpL_X10_see_124_x_x q k
set_option maxHeartbeats 4000000 in
set_option maxRecDepth 10000 in
theorem sf_X10_see_124_x_x (M : pvM) (hok : pvOk M) (n1 : Int32) (n2 : Int32) (d : Nat) : PW 71 d (0, [some (pvR 124), some (pvI n1), some (pvI n2)], [], M) (fun r X => (∃ x : Int32, r = some (pvI x) ∧ (-4) ≤ Int32.toInt x ∧ Int32.toInt x ≤ 6) ∧ pvOk X ∧ pvFr fp_X10_see_124_x_x M X) := by
  have hT : pvdom 71 = pvD_71 := rfl
  refine pw_blk hT 2 (S' := (2, [some (pvR 124), some (pvI n1), some (pvI n2)], [pvI (-1), pvI n1], M)) rfl ⟨trivial, trivial, trivial⟩ ?_
  refine pw_icn hT (c := n1 = (-1)) rfl rfl (fun c1_ => ?_) (fun c1_ => ?_)
  · refine pw_blk hT 2 (S' := (14, [some (pvR 124), some (pvI n1), some (pvI n2)], [pvI n1, pvR 124], M)) rfl ⟨trivial, trivial, trivial⟩ ?_
    refine pw_callT hT (as := [pvR 124, pvI n1]) (lo1 := [some (pvR 124), some (pvI n1)]) (d1 := d) (rest := []) rfl rfl rfl rfl rfl (fun _ => rfl) (Nat.zero_le _) rfl rfl rfl (sf_X10_isWindow_124_x M hok n1 d) ?_
    by_cases c7_ : n1 < 0
    · refine pw_eqI (if_pos c7_) ?_
      have b8_ : (-2147483648) ≤ Int32.toInt n1 ∧ Int32.toInt n1 ≤ (-2) := (by have u0 := (zbnd n1); have u9 := (show _ ∧ _ from ⟨(zi_lt _ _).mp c7_, (show 0 ≤ Int32.toInt 0 ∧ Int32.toInt 0 ≤ 0 from (by decide))⟩); have v1 := (not_congr (zi_eq _ _)).mp c1_; have w1 : ((-1) : Int32).toInt = -1 := (by decide); omega)
      show PW 71 d (17, [some (pvR 124), some (pvI n1), some (pvI n2)], [pvI 0], M) _
      refine pw_ifn hT (c := 0 = 0) rfl rfl (fun c9_ => absurd (by decide) c9_) (fun c9_ => ?_)
      refine pw_blk hT 1 (S' := (21, [some (pvR 124), some (pvI n1), some (pvI n2)], [pvI (-1)], M)) rfl ⟨trivial, trivial⟩ ?_
      exact pw_ret hT rfl (r := some (pvI (-1))) (M' := M) ⟨rfl, rfl⟩ ⟨⟨_, rfl, (zr_wide (show (-1) ≤ Int32.toInt (-1) ∧ Int32.toInt (-1) ≤ (-1) from (by decide)) (by decide) (by decide))⟩, hok, pvfr_0⟩
    · refine pw_eqI (if_neg c7_) ?_
      have b10_ : 0 ≤ Int32.toInt n1 ∧ Int32.toInt n1 ≤ 2147483647 := zr_nlt_l 0 c7_ (zbnd n1) (show 0 ≤ Int32.toInt 0 ∧ Int32.toInt 0 ≤ 0 from (by decide)) (by decide)
      have b11_ : 0 ≤ Int32.toInt (M.1 124 0) ∧ Int32.toInt (M.1 124 0) ≤ 7 := pvok_r hok 124 0 rfl
      obtain ⟨q13_, b12_⟩ : (Int32.toInt ((M.1 124 0) - 1) = Int32.toInt (M.1 124 0) - Int32.toInt 1) ∧ ((-1) ≤ Int32.toInt ((M.1 124 0) - 1) ∧ Int32.toInt ((M.1 124 0) - 1) ≤ 6) := zsub_r (M.1 124 0) 1 (-1) 6 b11_ (show 1 ≤ Int32.toInt 1 ∧ Int32.toInt 1 ≤ 1 from (by decide)) (by decide) (by decide) (by decide) (by decide)
      have u14_ : Int32.toInt 1 = 1 := by decide
      by_cases c15_ : ((M.1 124 0) - 1) < n1
      · refine pw_eqI (if_pos c15_) ?_
        have d16_ : Int32.toInt ((M.1 124 0) - 1) < Int32.toInt n1 := (zi_lt _ _).mp c15_
        show PW 71 d (17, [some (pvR 124), some (pvI n1), some (pvI n2)], [pvI 0], M) _
        refine pw_ifn hT (c := 0 = 0) rfl rfl (fun c17_ => absurd (by decide) c17_) (fun c17_ => ?_)
        refine pw_blk hT 1 (S' := (21, [some (pvR 124), some (pvI n1), some (pvI n2)], [pvI (-1)], M)) rfl ⟨trivial, trivial⟩ ?_
        exact pw_ret hT rfl (r := some (pvI (-1))) (M' := M) ⟨rfl, rfl⟩ ⟨⟨_, rfl, (zr_wide (show (-1) ≤ Int32.toInt (-1) ∧ Int32.toInt (-1) ≤ (-1) from (by decide)) (by decide) (by decide))⟩, hok, pvfr_0⟩
      · refine pw_eqI (if_neg c15_) ?_
        have b18_ : 0 ≤ Int32.toInt ((M.1 124 0) - 1) ∧ Int32.toInt ((M.1 124 0) - 1) ≤ 6 := zr_nlt_l 0 c15_ b12_ b10_ (by decide)
        have b19_ : 0 ≤ Int32.toInt n1 ∧ Int32.toInt n1 ≤ 6 := zr_nlt_r 6 c15_ b10_ b18_ (by decide)
        have d20_ : Int32.toInt ((M.1 124 0) - 1) ≥ Int32.toInt n1 := Int.not_lt.mp ((not_congr (zi_lt _ _)).mp c15_)
        show PW 71 d (17, [some (pvR 124), some (pvI n1), some (pvI n2)], [pvI 1], M) _
        refine pw_ifn hT (c := 1 = 0) rfl rfl (fun c21_ => ?_) (fun c21_ => absurd c21_ (by decide))
        refine pw_blk hT 4 (S' := (28, [some (pvR 124), some (pvI n1), some (pvI n2)], [pvI 9999, pvI 0, pvI n2, pvR 124], M)) rfl ⟨trivial, trivial, trivial, trivial, trivial⟩ ?_
        refine pw_callT hT (as := [pvR 124, pvI n2, pvI 0, pvI 9999]) (lo1 := [some (pvR 124), some (pvI n2), some (pvI 0), some (pvI 9999)]) (d1 := d) (rest := []) rfl rfl rfl rfl rfl (fun _ => rfl) (Nat.zero_le _) rfl rfl rfl (sf_X10_in_124_x_x_x M hok n2 0 9999 d) ?_
        by_cases c27_ : n2 < 0
        · refine pw_eqI (if_pos c27_) ?_
          have b28_ : (-2147483648) ≤ Int32.toInt n2 ∧ Int32.toInt n2 ≤ (-1) := zr_lt_l (-1) c27_ (zbnd n2) (show 0 ≤ Int32.toInt 0 ∧ Int32.toInt 0 ≤ 0 from (by decide)) (by decide)
          show PW 71 d (31, [some (pvR 124), some (pvI n1), some (pvI n2)], [pvI 0], M) _
          refine pw_ifn hT (c := 0 = 0) rfl rfl (fun c29_ => absurd (by decide) c29_) (fun c29_ => ?_)
          refine pw_blk hT 1 (S' := (36, [some (pvR 124), some (pvI n1), some (pvI n2)], [pvI (-2)], M)) rfl ⟨trivial, trivial⟩ ?_
          exact pw_ret hT rfl (r := some (pvI (-2))) (M' := M) ⟨rfl, rfl⟩ ⟨⟨_, rfl, (zr_wide (show (-2) ≤ Int32.toInt (-2) ∧ Int32.toInt (-2) ≤ (-2) from (by decide)) (by decide) (by decide))⟩, hok, pvfr_0⟩
        · refine pw_eqI (if_neg c27_) ?_
          have b30_ : 0 ≤ Int32.toInt n2 ∧ Int32.toInt n2 ≤ 2147483647 := zr_nlt_l 0 c27_ (zbnd n2) (show 0 ≤ Int32.toInt 0 ∧ Int32.toInt 0 ≤ 0 from (by decide)) (by decide)
          by_cases c31_ : 9999 < n2
          · refine pw_eqI (if_pos c31_) ?_
            have b32_ : 10000 ≤ Int32.toInt n2 ∧ Int32.toInt n2 ≤ 2147483647 := zr_lt_r 10000 c31_ b30_ (show 9999 ≤ Int32.toInt 9999 ∧ Int32.toInt 9999 ≤ 9999 from (by decide)) (by decide)
            show PW 71 d (31, [some (pvR 124), some (pvI n1), some (pvI n2)], [pvI 0], M) _
            refine pw_ifn hT (c := 0 = 0) rfl rfl (fun c33_ => absurd (by decide) c33_) (fun c33_ => ?_)
            refine pw_blk hT 1 (S' := (36, [some (pvR 124), some (pvI n1), some (pvI n2)], [pvI (-2)], M)) rfl ⟨trivial, trivial⟩ ?_
            exact pw_ret hT rfl (r := some (pvI (-2))) (M' := M) ⟨rfl, rfl⟩ ⟨⟨_, rfl, (zr_wide (show (-2) ≤ Int32.toInt (-2) ∧ Int32.toInt (-2) ≤ (-2) from (by decide)) (by decide) (by decide))⟩, hok, pvfr_0⟩
          · refine pw_eqI (if_neg c31_) ?_
            have b34_ : 0 ≤ Int32.toInt n2 ∧ Int32.toInt n2 ≤ 9999 := zr_nlt_r 9999 c31_ b30_ (show 9999 ≤ Int32.toInt 9999 ∧ Int32.toInt 9999 ≤ 9999 from (by decide)) (by decide)
            show PW 71 d (31, [some (pvR 124), some (pvI n1), some (pvI n2)], [pvI 1], M) _
            refine pw_ifn hT (c := 1 = 0) rfl rfl (fun c35_ => ?_) (fun c35_ => absurd c35_ (by decide))
            have b36_ : 0 ≤ Int32.toInt (M.1 124 40) ∧ Int32.toInt (M.1 124 40) ≤ 6 := pvok_r hok 124 40 rfl
            refine pw_blk hT 3 (S' := (43, [some (pvR 124), some (pvI n1), some (pvI n2)], [pvI 6, pvI (M.1 124 40)], M)) rfl ⟨trivial, rfl, trivial, trivial⟩ ?_
            refine pw_icn hT (c := (M.1 124 40) = 6) rfl rfl (fun c37_ => ?_) (fun c37_ => ?_)
            · have b38_ : 0 ≤ Int32.toInt (M.1 124 40) ∧ Int32.toInt (M.1 124 40) ≤ 5 := (by have u0 := b36_; have u1 := (not_congr (zi_eq _ _)).mp c37_; have u2 := (show 6 ≤ Int32.toInt 6 ∧ Int32.toInt 6 ≤ 6 from (by decide)); omega)
              refine pw_blkw hT 6 (pc := 59) (lo := [some (pvR 124), some (pvI n1), some (pvI n2)]) (st := []) (M := pvu M 147 (Int32.toNatClampNeg (M.1 124 40)) n1) rfl ⟨trivial, rfl, trivial, rfl, trivial, ⟨rfl, (zr_in (n := 6) b38_ (by decide) (by decide))⟩, trivial⟩ (fun M39_ e40_ => ?_)
              have o41_ : pvOk M39_ := pvok_u2 e40_ hok rfl b19_
              have f42_ : pvFr fp_X10_see_124_x_x M M39_ := pvfr_u e40_ pvfr_0 rfl
              have e43_ : (M39_.1 124 40) = (M.1 124 40) := (pvu_n e40_ 124 40 (Or.inl (by decide)))
              have b44_ : 0 ≤ Int32.toInt (M39_.1 124 40) ∧ Int32.toInt (M39_.1 124 40) ≤ 5 := (by rw [e43_]; exact b38_)
              refine pw_blkw hT 6 (pc := 69) (lo := [some (pvR 124), some (pvI n1), some (pvI n2)]) (st := []) (M := pvu M39_ 148 (Int32.toNatClampNeg (M39_.1 124 40)) n2) rfl ⟨trivial, rfl, trivial, rfl, trivial, ⟨rfl, (zr_in (n := 6) b44_ (by decide) (by decide))⟩, trivial⟩ (fun M45_ e46_ => ?_)
              have o47_ : pvOk M45_ := pvok_u2 e46_ o41_ rfl b34_
              have f48_ : pvFr fp_X10_see_124_x_x M M45_ := pvfr_u e46_ f42_ rfl
              have e49_ : (M45_.1 124 40) = (M39_.1 124 40) := (pvu_n e46_ 124 40 (Or.inl (by decide)))
              have b50_ : 0 ≤ Int32.toInt (M45_.1 124 40) ∧ Int32.toInt (M45_.1 124 40) ≤ 5 := (by rw [e49_]; exact b44_)
              obtain ⟨q52_, b51_⟩ : (Int32.toInt ((M45_.1 124 40) + 1) = Int32.toInt (M45_.1 124 40) + Int32.toInt 1) ∧ (1 ≤ Int32.toInt ((M45_.1 124 40) + 1) ∧ Int32.toInt ((M45_.1 124 40) + 1) ≤ 6) := zadd_r (M45_.1 124 40) 1 1 6 b50_ (show 1 ≤ Int32.toInt 1 ∧ Int32.toInt 1 ≤ 1 from (by decide)) (by decide) (by decide) (by decide) (by decide)
              refine pw_blkw hT 6 (pc := 79) (lo := [some (pvR 124), some (pvI n1), some (pvI n2)]) (st := []) (M := pvu M45_ 124 40 ((M45_.1 124 40) + 1)) rfl ⟨trivial, trivial, rfl, trivial, trivial, rfl, trivial⟩ (fun M53_ e54_ => ?_)
              have o55_ : pvOk M53_ := pvok_u2 e54_ o47_ rfl (zr_wide b51_ (by decide) (by decide))
              have f56_ : pvFr fp_X10_see_124_x_x M M53_ := pvfr_u e54_ f48_ rfl
              have e57_ : (M53_.1 124 40) = ((M45_.1 124 40) + 1) := (pvu_s e54_)
              have b58_ : 1 ≤ Int32.toInt (M53_.1 124 40) ∧ Int32.toInt (M53_.1 124 40) ≤ 6 := (by rw [e57_]; exact b51_)
              refine pw_blk hT 2 (S' := (83, [some (pvR 124), some (pvI n1), some (pvI n2)], [pvI (M53_.1 124 40)], M53_)) rfl ⟨trivial, rfl, trivial⟩ ?_
              exact pw_ret hT rfl (r := some (pvI (M53_.1 124 40))) (M' := M53_) ⟨rfl, rfl⟩ ⟨⟨_, rfl, (zr_wide b58_ (by decide) (by decide))⟩, o55_, f56_⟩
            · have b59_ : 6 ≤ Int32.toInt (M.1 124 40) ∧ Int32.toInt (M.1 124 40) ≤ 6 := (by have u0 := b36_; have u1 := (zi_eq _ _).mp c37_; have u2 := (show 6 ≤ Int32.toInt 6 ∧ Int32.toInt 6 ≤ 6 from (by decide)); omega)
              refine pw_blk hT 1 (S' := (48, [some (pvR 124), some (pvI n1), some (pvI n2)], [pvI (-4)], M)) rfl ⟨trivial, trivial⟩ ?_
              exact pw_ret hT rfl (r := some (pvI (-4))) (M' := M) ⟨rfl, rfl⟩ ⟨⟨_, rfl, (zr_wide (show (-4) ≤ Int32.toInt (-4) ∧ Int32.toInt (-4) ≤ (-4) from (by decide)) (by decide) (by decide))⟩, hok, pvfr_0⟩
  · have b60_ : (-1) ≤ Int32.toInt n1 ∧ Int32.toInt n1 ≤ (-1) := (by have u0 := (zbnd n1); have u1 := (zi_eq _ _).mp c1_; have u2 := (show (-1) ≤ Int32.toInt (-1) ∧ Int32.toInt (-1) ≤ (-1) from (by decide)); omega)
    refine pw_blkw hT 3 (pc := 10) (lo := [some (pvR 124), some (pvI n1), some (pvI n2)]) (st := []) (M := pvu M 124 40 0) rfl ⟨trivial, trivial, rfl, trivial⟩ (fun M61_ e62_ => ?_)
    have o63_ : pvOk M61_ := pvok_u2 e62_ hok rfl (zr_wide (show 0 ≤ Int32.toInt 0 ∧ Int32.toInt 0 ≤ 0 from (by decide)) (by decide) (by decide))
    have f64_ : pvFr fp_X10_see_124_x_x M M61_ := pvfr_u e62_ pvfr_0 rfl
    refine pw_blk hT 1 (S' := (11, [some (pvR 124), some (pvI n1), some (pvI n2)], [pvI 0], M61_)) rfl ⟨trivial, trivial⟩ ?_
    exact pw_ret hT rfl (r := some (pvI 0)) (M' := M61_) ⟨rfl, rfl⟩ ⟨⟨_, rfl, (zr_wide (show 0 ≤ Int32.toInt 0 ∧ Int32.toInt 0 ≤ 0 from (by decide)) (by decide) (by decide))⟩, o63_, f64_⟩
def fpL_X10_shift_124_x_x_x_x_x : List (Nat × Nat × Nat) := []
def fp_X10_shift_124_x_x_x_x_x (q k : Nat) : Bool := pvfp fpL_X10_shift_124_x_x_x_x_x q k
set_option maxHeartbeats 4000000 in
set_option maxRecDepth 10000 in
theorem sf_X10_shift_124_x_x_x_x_x (M : pvM) (hok : pvOk M) (n1 : Int32) (n2 : Int32) (n3 : Int32) (n4 : Int32) (n5 : Int32) (d : Nat) : PW 73 d (0, [some (pvR 124), some (pvI n1), some (pvI n2), some (pvI n3), some (pvI n4), some (pvI n5), none], [], M) (fun r X => (∃ x : Int32, r = some (pvI x) ∧ (-13) ≤ Int32.toInt x ∧ Int32.toInt x ≤ 60) ∧ pvOk X ∧ pvFr fp_X10_shift_124_x_x_x_x_x M X) := by
  have hT : pvdom 73 = pvD_73 := rfl
  refine pw_blk hT 2 (S' := (2, [some (pvR 124), some (pvI n1), some (pvI n2), some (pvI n3), some (pvI n4), some (pvI n5), none], [pvI n1, pvR 124], M)) rfl ⟨trivial, trivial, trivial⟩ ?_
  refine pw_callT hT (as := [pvR 124, pvI n1]) (lo1 := [some (pvR 124), some (pvI n1)]) (d1 := d) (rest := []) rfl rfl rfl rfl rfl (fun _ => rfl) (Nat.zero_le _) rfl rfl rfl (sf_X10_isTape_124_x M hok n1 d) ?_
  by_cases c6_ : n1 < 0
  · refine pw_eqI (if_pos c6_) ?_
    have b7_ : (-2147483648) ≤ Int32.toInt n1 ∧ Int32.toInt n1 ≤ (-1) := zr_lt_l (-1) c6_ (zbnd n1) (show 0 ≤ Int32.toInt 0 ∧ Int32.toInt 0 ≤ 0 from (by decide)) (by decide)
    show PW 73 d (5, [some (pvR 124), some (pvI n1), some (pvI n2), some (pvI n3), some (pvI n4), some (pvI n5), none], [pvI 0], M) _
    refine pw_if hT (c := 0 = 0) rfl rfl (fun c8_ => ?_) (fun c8_ => absurd (by decide) c8_)
    refine pw_blk hT 1 (S' := (17, [some (pvR 124), some (pvI n1), some (pvI n2), some (pvI n3), some (pvI n4), some (pvI n5), none], [pvI (-1)], M)) rfl ⟨trivial, trivial⟩ ?_
    exact pw_ret hT rfl (r := some (pvI (-1))) (M' := M) ⟨rfl, rfl⟩ ⟨⟨_, rfl, (zr_wide (show (-1) ≤ Int32.toInt (-1) ∧ Int32.toInt (-1) ≤ (-1) from (by decide)) (by decide) (by decide))⟩, hok, pvfr_0⟩
  · refine pw_eqI (if_neg c6_) ?_
    have b9_ : 0 ≤ Int32.toInt n1 ∧ Int32.toInt n1 ≤ 2147483647 := zr_nlt_l 0 c6_ (zbnd n1) (show 0 ≤ Int32.toInt 0 ∧ Int32.toInt 0 ≤ 0 from (by decide)) (by decide)
    by_cases c10_ : 5 < n1
    · refine pw_eqI (if_pos c10_) ?_
      have b11_ : 6 ≤ Int32.toInt n1 ∧ Int32.toInt n1 ≤ 2147483647 := zr_lt_r 6 c10_ b9_ (show 5 ≤ Int32.toInt 5 ∧ Int32.toInt 5 ≤ 5 from (by decide)) (by decide)
      show PW 73 d (5, [some (pvR 124), some (pvI n1), some (pvI n2), some (pvI n3), some (pvI n4), some (pvI n5), none], [pvI 0], M) _
      refine pw_if hT (c := 0 = 0) rfl rfl (fun c12_ => ?_) (fun c12_ => absurd (by decide) c12_)
      refine pw_blk hT 1 (S' := (17, [some (pvR 124), some (pvI n1), some (pvI n2), some (pvI n3), some (pvI n4), some (pvI n5), none], [pvI (-1)], M)) rfl ⟨trivial, trivial⟩ ?_
      exact pw_ret hT rfl (r := some (pvI (-1))) (M' := M) ⟨rfl, rfl⟩ ⟨⟨_, rfl, (zr_wide (show (-1) ≤ Int32.toInt (-1) ∧ Int32.toInt (-1) ≤ (-1) from (by decide)) (by decide) (by decide))⟩, hok, pvfr_0⟩
    · refine pw_eqI (if_neg c10_) ?_
      have b13_ : 0 ≤ Int32.toInt n1 ∧ Int32.toInt n1 ≤ 5 := zr_nlt_r 5 c10_ b9_ (show 5 ≤ Int32.toInt 5 ∧ Int32.toInt 5 ≤ 5 from (by decide)) (by decide)
      show PW 73 d (5, [some (pvR 124), some (pvI n1), some (pvI n2), some (pvI n3), some (pvI n4), some (pvI n5), none], [pvI 1], M) _
      refine pw_if hT (c := 1 = 0) rfl rfl (fun c14_ => absurd c14_ (by decide)) (fun c14_ => ?_)
      refine pw_blk hT 2 (S' := (10, [some (pvR 124), some (pvI n1), some (pvI n2), some (pvI n3), some (pvI n4), some (pvI n5), none], [pvI n3, pvR 124], M)) rfl ⟨trivial, trivial, trivial⟩ ?_
      refine pw_callT hT (as := [pvR 124, pvI n3]) (lo1 := [some (pvR 124), some (pvI n3)]) (d1 := d) (rest := []) rfl rfl rfl rfl rfl (fun _ => rfl) (Nat.zero_le _) rfl rfl rfl (sf_X10_isTape_124_x M hok n3 d) ?_
      by_cases c20_ : n3 < 0
      · refine pw_eqI (if_pos c20_) ?_
        have b21_ : (-2147483648) ≤ Int32.toInt n3 ∧ Int32.toInt n3 ≤ (-1) := zr_lt_l (-1) c20_ (zbnd n3) (show 0 ≤ Int32.toInt 0 ∧ Int32.toInt 0 ≤ 0 from (by decide)) (by decide)
        show PW 73 d (13, [some (pvR 124), some (pvI n1), some (pvI n2), some (pvI n3), some (pvI n4), some (pvI n5), none], [pvI 0], M) _
        refine pw_ifn hT (c := 0 = 0) rfl rfl (fun c22_ => absurd (by decide) c22_) (fun c22_ => ?_)
        refine pw_blk hT 1 (S' := (17, [some (pvR 124), some (pvI n1), some (pvI n2), some (pvI n3), some (pvI n4), some (pvI n5), none], [pvI (-1)], M)) rfl ⟨trivial, trivial⟩ ?_
        exact pw_ret hT rfl (r := some (pvI (-1))) (M' := M) ⟨rfl, rfl⟩ ⟨⟨_, rfl, (zr_wide (show (-1) ≤ Int32.toInt (-1) ∧ Int32.toInt (-1) ≤ (-1) from (by decide)) (by decide) (by decide))⟩, hok, pvfr_0⟩
      · refine pw_eqI (if_neg c20_) ?_
        have b23_ : 0 ≤ Int32.toInt n3 ∧ Int32.toInt n3 ≤ 2147483647 := zr_nlt_l 0 c20_ (zbnd n3) (show 0 ≤ Int32.toInt 0 ∧ Int32.toInt 0 ≤ 0 from (by decide)) (by decide)
        by_cases c24_ : 5 < n3
        · refine pw_eqI (if_pos c24_) ?_
          have b25_ : 6 ≤ Int32.toInt n3 ∧ Int32.toInt n3 ≤ 2147483647 := zr_lt_r 6 c24_ b23_ (show 5 ≤ Int32.toInt 5 ∧ Int32.toInt 5 ≤ 5 from (by decide)) (by decide)
          show PW 73 d (13, [some (pvR 124), some (pvI n1), some (pvI n2), some (pvI n3), some (pvI n4), some (pvI n5), none], [pvI 0], M) _
          refine pw_ifn hT (c := 0 = 0) rfl rfl (fun c26_ => absurd (by decide) c26_) (fun c26_ => ?_)
          refine pw_blk hT 1 (S' := (17, [some (pvR 124), some (pvI n1), some (pvI n2), some (pvI n3), some (pvI n4), some (pvI n5), none], [pvI (-1)], M)) rfl ⟨trivial, trivial⟩ ?_
          exact pw_ret hT rfl (r := some (pvI (-1))) (M' := M) ⟨rfl, rfl⟩ ⟨⟨_, rfl, (zr_wide (show (-1) ≤ Int32.toInt (-1) ∧ Int32.toInt (-1) ≤ (-1) from (by decide)) (by decide) (by decide))⟩, hok, pvfr_0⟩
        · refine pw_eqI (if_neg c24_) ?_
          have b27_ : 0 ≤ Int32.toInt n3 ∧ Int32.toInt n3 ≤ 5 := zr_nlt_r 5 c24_ b23_ (show 5 ≤ Int32.toInt 5 ∧ Int32.toInt 5 ≤ 5 from (by decide)) (by decide)
          show PW 73 d (13, [some (pvR 124), some (pvI n1), some (pvI n2), some (pvI n3), some (pvI n4), some (pvI n5), none], [pvI 1], M) _
          refine pw_ifn hT (c := 1 = 0) rfl rfl (fun c28_ => ?_) (fun c28_ => absurd c28_ (by decide))
          have b29_ : (-1) ≤ Int32.toInt (M.1 164 (Int32.toNatClampNeg n1)) ∧ Int32.toInt (M.1 164 (Int32.toNatClampNeg n1)) ≤ 4 := pvok_r hok 164 (Int32.toNatClampNeg n1) rfl
          refine pw_blk hT 4 (S' := (24, [some (pvR 124), some (pvI n1), some (pvI n2), some (pvI n3), some (pvI n4), some (pvI n5), none], [pvI (M.1 164 (Int32.toNatClampNeg n1))], M)) rfl ⟨trivial, rfl, trivial, ⟨rfl, (zr_in (n := 6) b13_ (by decide) (by decide))⟩, trivial⟩ ?_
          refine pw_if hT (c := (M.1 164 (Int32.toNatClampNeg n1)) < 0) rfl rfl (fun c30_ => ?_) (fun c30_ => ?_)
          · have b31_ : (-1) ≤ Int32.toInt (M.1 164 (Int32.toNatClampNeg n1)) ∧ Int32.toInt (M.1 164 (Int32.toNatClampNeg n1)) ≤ (-1) := zr_lt_l (-1) c30_ b29_ (show 0 ≤ Int32.toInt 0 ∧ Int32.toInt 0 ≤ 0 from (by decide)) (by decide)
            refine pw_blk hT 1 (S' := (38, [some (pvR 124), some (pvI n1), some (pvI n2), some (pvI n3), some (pvI n4), some (pvI n5), none], [pvI (-11)], M)) rfl ⟨trivial, trivial⟩ ?_
            exact pw_ret hT rfl (r := some (pvI (-11))) (M' := M) ⟨rfl, rfl⟩ ⟨⟨_, rfl, (zr_wide (show (-11) ≤ Int32.toInt (-11) ∧ Int32.toInt (-11) ≤ (-11) from (by decide)) (by decide) (by decide))⟩, hok, pvfr_0⟩
          · have b32_ : 0 ≤ Int32.toInt (M.1 164 (Int32.toNatClampNeg n1)) ∧ Int32.toInt (M.1 164 (Int32.toNatClampNeg n1)) ≤ 4 := zr_nlt_l 0 c30_ b29_ (show 0 ≤ Int32.toInt 0 ∧ Int32.toInt 0 ≤ 0 from (by decide)) (by decide)
            have b33_ : (-1) ≤ Int32.toInt (M.1 164 (Int32.toNatClampNeg n3)) ∧ Int32.toInt (M.1 164 (Int32.toNatClampNeg n3)) ≤ 4 := pvok_r hok 164 (Int32.toNatClampNeg n3) rfl
            refine pw_blk hT 4 (S' := (33, [some (pvR 124), some (pvI n1), some (pvI n2), some (pvI n3), some (pvI n4), some (pvI n5), none], [pvI (M.1 164 (Int32.toNatClampNeg n3))], M)) rfl ⟨trivial, rfl, trivial, ⟨rfl, (zr_in (n := 6) b27_ (by decide) (by decide))⟩, trivial⟩ ?_
            refine pw_if hT (c := 0 ≤ (M.1 164 (Int32.toNatClampNeg n3))) rfl rfl (fun c34_ => ?_) (fun c34_ => ?_)
            · have b35_ : 0 ≤ Int32.toInt (M.1 164 (Int32.toNatClampNeg n3)) ∧ Int32.toInt (M.1 164 (Int32.toNatClampNeg n3)) ≤ 4 := zr_le_r 0 c34_ b33_ (show 0 ≤ Int32.toInt 0 ∧ Int32.toInt 0 ≤ 0 from (by decide)) (by decide)
              refine pw_blk hT 8 (S' := (51, [some (pvR 124), some (pvI n1), some (pvI n2), some (pvI n3), some (pvI n4), some (pvI n5), none], [pvI (M.1 164 (Int32.toNatClampNeg n3)), pvI (M.1 164 (Int32.toNatClampNeg n1))], M)) rfl ⟨trivial, rfl, trivial, ⟨rfl, (zr_in (n := 6) b13_ (by decide) (by decide))⟩, trivial, rfl, trivial, ⟨rfl, (zr_in (n := 6) b27_ (by decide) (by decide))⟩, trivial⟩ ?_
              refine pw_ic hT (c := (M.1 164 (Int32.toNatClampNeg n1)) = (M.1 164 (Int32.toNatClampNeg n3))) rfl rfl (fun c36_ => ?_) (fun c36_ => ?_)
              · have d37_ : Int32.toInt (M.1 164 (Int32.toNatClampNeg n1)) = Int32.toInt (M.1 164 (Int32.toNatClampNeg n3)) := (zi_eq _ _).mp c36_
                refine pw_blk hT 1 (S' := (59, [some (pvR 124), some (pvI n1), some (pvI n2), some (pvI n3), some (pvI n4), some (pvI n5), none], [pvI n5], M)) rfl ⟨trivial, trivial⟩ ?_
                refine pw_if hT (c := n5 < 0) rfl rfl (fun c38_ => ?_) (fun c38_ => ?_)
                · have b39_ : (-2147483648) ≤ Int32.toInt n5 ∧ Int32.toInt n5 ≤ (-1) := zr_lt_l (-1) c38_ (zbnd n5) (show 0 ≤ Int32.toInt 0 ∧ Int32.toInt 0 ≤ 0 from (by decide)) (by decide)
                  refine pw_blk hT 1 (S' := (100, [some (pvR 124), some (pvI n1), some (pvI n2), some (pvI n3), some (pvI n4), some (pvI n5), none], [pvI (-13)], M)) rfl ⟨trivial, trivial⟩ ?_
                  exact pw_ret hT rfl (r := some (pvI (-13))) (M' := M) ⟨rfl, rfl⟩ ⟨⟨_, rfl, (zr_wide (show (-13) ≤ Int32.toInt (-13) ∧ Int32.toInt (-13) ≤ (-13) from (by decide)) (by decide) (by decide))⟩, hok, pvfr_0⟩
                · have b40_ : 0 ≤ Int32.toInt n5 ∧ Int32.toInt n5 ≤ 2147483647 := zr_nlt_l 0 c38_ (zbnd n5) (show 0 ≤ Int32.toInt 0 ∧ Int32.toInt 0 ≤ 0 from (by decide)) (by decide)
                  refine pw_blk hT 1 (S' := (63, [some (pvR 124), some (pvI n1), some (pvI n2), some (pvI n3), some (pvI n4), some (pvI n5), none], [pvI n2], M)) rfl ⟨trivial, trivial⟩ ?_
                  refine pw_if hT (c := n2 < 0) rfl rfl (fun c41_ => ?_) (fun c41_ => ?_)
                  · have b42_ : (-2147483648) ≤ Int32.toInt n2 ∧ Int32.toInt n2 ≤ (-1) := zr_lt_l (-1) c41_ (zbnd n2) (show 0 ≤ Int32.toInt 0 ∧ Int32.toInt 0 ≤ 0 from (by decide)) (by decide)
                    refine pw_blk hT 1 (S' := (100, [some (pvR 124), some (pvI n1), some (pvI n2), some (pvI n3), some (pvI n4), some (pvI n5), none], [pvI (-13)], M)) rfl ⟨trivial, trivial⟩ ?_
                    exact pw_ret hT rfl (r := some (pvI (-13))) (M' := M) ⟨rfl, rfl⟩ ⟨⟨_, rfl, (zr_wide (show (-13) ≤ Int32.toInt (-13) ∧ Int32.toInt (-13) ≤ (-13) from (by decide)) (by decide) (by decide))⟩, hok, pvfr_0⟩
                  · have b43_ : 0 ≤ Int32.toInt n2 ∧ Int32.toInt n2 ≤ 2147483647 := zr_nlt_l 0 c41_ (zbnd n2) (show 0 ≤ Int32.toInt 0 ∧ Int32.toInt 0 ≤ 0 from (by decide)) (by decide)
                    refine pw_blk hT 1 (S' := (68, [some (pvR 124), some (pvI n1), some (pvI n2), some (pvI n3), some (pvI n4), some (pvI n5), none], [pvI n4], M)) rfl ⟨trivial, trivial⟩ ?_
                    refine pw_if hT (c := n4 < 0) rfl rfl (fun c44_ => ?_) (fun c44_ => ?_)
                    · have b45_ : (-2147483648) ≤ Int32.toInt n4 ∧ Int32.toInt n4 ≤ (-1) := zr_lt_l (-1) c44_ (zbnd n4) (show 0 ≤ Int32.toInt 0 ∧ Int32.toInt 0 ≤ 0 from (by decide)) (by decide)
                      refine pw_blk hT 1 (S' := (100, [some (pvR 124), some (pvI n1), some (pvI n2), some (pvI n3), some (pvI n4), some (pvI n5), none], [pvI (-13)], M)) rfl ⟨trivial, trivial⟩ ?_
                      exact pw_ret hT rfl (r := some (pvI (-13))) (M' := M) ⟨rfl, rfl⟩ ⟨⟨_, rfl, (zr_wide (show (-13) ≤ Int32.toInt (-13) ∧ Int32.toInt (-13) ≤ (-13) from (by decide)) (by decide) (by decide))⟩, hok, pvfr_0⟩
                    · have b46_ : 0 ≤ Int32.toInt n4 ∧ Int32.toInt n4 ≤ 2147483647 := zr_nlt_l 0 c44_ (zbnd n4) (show 0 ≤ Int32.toInt 0 ∧ Int32.toInt 0 ≤ 0 from (by decide)) (by decide)
                      have b47_ : 0 ≤ Int32.toInt (M.1 165 (Int32.toNatClampNeg n1)) ∧ Int32.toInt (M.1 165 (Int32.toNatClampNeg n1)) ≤ 60 := pvok_r hok 165 (Int32.toNatClampNeg n1) rfl
                      obtain ⟨q49_, b48_⟩ : (Int32.toInt ((M.1 165 (Int32.toNatClampNeg n1)) - n5) = Int32.toInt (M.1 165 (Int32.toNatClampNeg n1)) - Int32.toInt n5) ∧ ((-2147483647) ≤ Int32.toInt ((M.1 165 (Int32.toNatClampNeg n1)) - n5) ∧ Int32.toInt ((M.1 165 (Int32.toNatClampNeg n1)) - n5) ≤ 60) := zsub_r (M.1 165 (Int32.toNatClampNeg n1)) n5 (-2147483647) 60 b47_ b40_ (by decide) (by decide) (by decide) (by decide)
                      refine pw_blk hT 7 (S' := (81, [some (pvR 124), some (pvI n1), some (pvI n2), some (pvI n3), some (pvI n4), some (pvI n5), none], [pvI ((M.1 165 (Int32.toNatClampNeg n1)) - n5), pvI n2], M)) rfl ⟨trivial, trivial, rfl, trivial, ⟨rfl, (zr_in (n := 6) b13_ (by decide) (by decide))⟩, trivial, trivial, trivial⟩ ?_
                      refine pw_ic hT (c := ((M.1 165 (Int32.toNatClampNeg n1)) - n5) < n2) rfl rfl (fun c50_ => ?_) (fun c50_ => ?_)
                      · have d51_ : Int32.toInt ((M.1 165 (Int32.toNatClampNeg n1)) - n5) < Int32.toInt n2 := (zi_lt _ _).mp c50_
                        refine pw_blk hT 1 (S' := (100, [some (pvR 124), some (pvI n1), some (pvI n2), some (pvI n3), some (pvI n4), some (pvI n5), none], [pvI (-13)], M)) rfl ⟨trivial, trivial⟩ ?_
                        exact pw_ret hT rfl (r := some (pvI (-13))) (M' := M) ⟨rfl, rfl⟩ ⟨⟨_, rfl, (zr_wide (show (-13) ≤ Int32.toInt (-13) ∧ Int32.toInt (-13) ≤ (-13) from (by decide)) (by decide) (by decide))⟩, hok, pvfr_0⟩
                      · have b52_ : 0 ≤ Int32.toInt ((M.1 165 (Int32.toNatClampNeg n1)) - n5) ∧ Int32.toInt ((M.1 165 (Int32.toNatClampNeg n1)) - n5) ≤ 60 := zr_nlt_l 0 c50_ b48_ b43_ (by decide)
                        have b53_ : 0 ≤ Int32.toInt n2 ∧ Int32.toInt n2 ≤ 60 := zr_nlt_r 60 c50_ b43_ b52_ (by decide)
                        have d54_ : Int32.toInt ((M.1 165 (Int32.toNatClampNeg n1)) - n5) ≥ Int32.toInt n2 := Int.not_lt.mp ((not_congr (zi_lt _ _)).mp c50_)
                        have b55_ : 0 ≤ Int32.toInt (M.1 165 (Int32.toNatClampNeg n3)) ∧ Int32.toInt (M.1 165 (Int32.toNatClampNeg n3)) ≤ 60 := pvok_r hok 165 (Int32.toNatClampNeg n3) rfl
                        obtain ⟨q57_, b56_⟩ : (Int32.toInt ((M.1 165 (Int32.toNatClampNeg n3)) - n5) = Int32.toInt (M.1 165 (Int32.toNatClampNeg n3)) - Int32.toInt n5) ∧ ((-2147483647) ≤ Int32.toInt ((M.1 165 (Int32.toNatClampNeg n3)) - n5) ∧ Int32.toInt ((M.1 165 (Int32.toNatClampNeg n3)) - n5) ≤ 60) := zsub_r (M.1 165 (Int32.toNatClampNeg n3)) n5 (-2147483647) 60 b55_ b40_ (by decide) (by decide) (by decide) (by decide)
                        refine pw_blk hT 7 (S' := (95, [some (pvR 124), some (pvI n1), some (pvI n2), some (pvI n3), some (pvI n4), some (pvI n5), none], [pvI ((M.1 165 (Int32.toNatClampNeg n3)) - n5), pvI n4], M)) rfl ⟨trivial, trivial, rfl, trivial, ⟨rfl, (zr_in (n := 6) b27_ (by decide) (by decide))⟩, trivial, trivial, trivial⟩ ?_
                        refine pw_ic hT (c := n4 ≤ ((M.1 165 (Int32.toNatClampNeg n3)) - n5)) rfl rfl (fun c58_ => ?_) (fun c58_ => ?_)
                        · have b59_ : 0 ≤ Int32.toInt n4 ∧ Int32.toInt n4 ≤ 60 := zr_le_l 60 c58_ b46_ b56_ (by decide)
                          have b60_ : 0 ≤ Int32.toInt ((M.1 165 (Int32.toNatClampNeg n3)) - n5) ∧ Int32.toInt ((M.1 165 (Int32.toNatClampNeg n3)) - n5) ≤ 60 := zr_le_r 0 c58_ b56_ b59_ (by decide)
                          have d61_ : Int32.toInt n4 ≤ Int32.toInt ((M.1 165 (Int32.toNatClampNeg n3)) - n5) := (zi_le _ _).mp c58_
                          have b62_ : 0 ≤ Int32.toInt n5 ∧ Int32.toInt n5 ≤ 60 := (by omega)
                          refine pw_blk hT 2 (S' := (104, [some (pvR 124), some (pvI n1), some (pvI n2), some (pvI n3), some (pvI n4), some (pvI n5), some (pvI 0)], [], M)) rfl ⟨trivial, trivial, trivial⟩ ?_
                          have hlz337_ : ∀ (nz337_ : Nat) (i6z337_ : Int32) (Mz337_ : pvM), (pvOk Mz337_) → (pvFr fp_X10_shift_124_x_x_x_x_x M Mz337_) → (0 ≤ Int32.toInt i6z337_ ∧ Int32.toInt i6z337_ ≤ 60) → ((61 - Int32.toInt i6z337_).toNat < nz337_) → PW 73 d (104, [some (pvR 124), some (pvI n1), some (pvI n2), some (pvI n3), some (pvI n4), some (pvI n5), some (pvI i6z337_)], [], Mz337_) (fun r X => (∃ x : Int32, r = some (pvI x) ∧ (-13) ≤ Int32.toInt x ∧ Int32.toInt x ≤ 60) ∧ pvOk X ∧ pvFr fp_X10_shift_124_x_x_x_x_x M X) := by
                            intro nz337_
                            induction nz337_ with
                            | zero => intro i6z337_ Mz337_ oz337_ fz337_ h6z337_ hmz337_; exact absurd hmz337_ (Nat.not_lt_zero _)
                            | succ nz337_ ihz337_ =>
                              intro i6z337_ Mz337_ oz337_ fz337_ h6z337_ hmz337_
                              refine pw_blk hT 2 (S' := (108, [some (pvR 124), some (pvI n1), some (pvI n2), some (pvI n3), some (pvI n4), some (pvI n5), some (pvI i6z337_)], [pvI n5, pvI i6z337_], Mz337_)) rfl ⟨trivial, trivial, trivial⟩ ?_
                              refine pw_ic hT (c := n5 ≤ i6z337_) rfl rfl (fun c338_ => ?_) (fun c338_ => ?_)
                              · have d339_ : Int32.toInt n5 ≤ Int32.toInt i6z337_ := (zi_le _ _).mp c338_
                                refine pw_blk hT 2 (S' := (141, [some (pvR 124), some (pvI n1), some (pvI n2), some (pvI n3), some (pvI n4), some (pvI n5), some (pvI 0)], [], Mz337_)) rfl ⟨trivial, trivial, trivial⟩ ?_
                                have hlz416_ : ∀ (nz416_ : Nat) (i6z416_ : Int32) (Mz416_ : pvM), (pvOk Mz416_) → (pvFr fp_X10_shift_124_x_x_x_x_x M Mz416_) → (0 ≤ Int32.toInt i6z416_ ∧ Int32.toInt i6z416_ ≤ 60) → ((61 - Int32.toInt i6z416_).toNat < nz416_) → PW 73 d (141, [some (pvR 124), some (pvI n1), some (pvI n2), some (pvI n3), some (pvI n4), some (pvI n5), some (pvI i6z416_)], [], Mz416_) (fun r X => (∃ x : Int32, r = some (pvI x) ∧ (-13) ≤ Int32.toInt x ∧ Int32.toInt x ≤ 60) ∧ pvOk X ∧ pvFr fp_X10_shift_124_x_x_x_x_x M X) := by
                                  intro nz416_
                                  induction nz416_ with
                                  | zero => intro i6z416_ Mz416_ oz416_ fz416_ h6z416_ hmz416_; exact absurd hmz416_ (Nat.not_lt_zero _)
                                  | succ nz416_ ihz416_ =>
                                    intro i6z416_ Mz416_ oz416_ fz416_ h6z416_ hmz416_
                                    refine pw_blk hT 2 (S' := (145, [some (pvR 124), some (pvI n1), some (pvI n2), some (pvI n3), some (pvI n4), some (pvI n5), some (pvI i6z416_)], [pvI n5, pvI i6z416_], Mz416_)) rfl ⟨trivial, trivial, trivial⟩ ?_
                                    refine pw_ic hT (c := n5 ≤ i6z416_) rfl rfl (fun c417_ => ?_) (fun c417_ => ?_)
                                    · have d418_ : Int32.toInt n5 ≤ Int32.toInt i6z416_ := (zi_le _ _).mp c417_
                                      refine pw_blk hT 1 (S' := (178, [some (pvR 124), some (pvI n1), some (pvI n2), some (pvI n3), some (pvI n4), some (pvI n5), some (pvI i6z416_)], [pvI n5], Mz416_)) rfl ⟨trivial, trivial⟩ ?_
                                      exact pw_ret hT rfl (r := some (pvI n5)) (M' := Mz416_) ⟨rfl, rfl⟩ ⟨⟨_, rfl, (zr_wide b62_ (by decide) (by decide))⟩, oz416_, fz416_⟩
                                    · have b419_ : 1 ≤ Int32.toInt n5 ∧ Int32.toInt n5 ≤ 60 := zr_nle_l 1 c417_ b62_ h6z416_ (by decide)
                                      have b420_ : 0 ≤ Int32.toInt i6z416_ ∧ Int32.toInt i6z416_ ≤ 59 := zr_nle_r 59 c417_ h6z416_ b419_ (by decide)
                                      have d421_ : Int32.toInt n5 > Int32.toInt i6z416_ := Int.not_le.mp ((not_congr (zi_le _ _)).mp c417_)
                                      have q422_ : Int32.toInt (60 * n3) = 60 * Int32.toInt n3 := by have u0 : Int32.toInt 60 = 60 := (by decide); have u1 := b27_; have u2 := zmul 60 n3 (by rw [u0]; omega) (by rw [u0]; omega); rw [u0] at u2; omega
                                      have b423_ : 0 ≤ Int32.toInt (60 * n3) ∧ Int32.toInt (60 * n3) ≤ 300 := (by have u1 := b27_; omega)
                                      obtain ⟨q425_, b424_⟩ : (Int32.toInt ((60 * n3) + n4) = Int32.toInt (60 * n3) + Int32.toInt n4) ∧ (0 ≤ Int32.toInt ((60 * n3) + n4) ∧ Int32.toInt ((60 * n3) + n4) ≤ 360) := zadd_r (60 * n3) n4 0 360 b423_ b59_ (by decide) (by decide) (by decide) (by decide)
                                      obtain ⟨q427_, b426_⟩ : (Int32.toInt (((60 * n3) + n4) + i6z416_) = Int32.toInt ((60 * n3) + n4) + Int32.toInt i6z416_) ∧ (0 ≤ Int32.toInt (((60 * n3) + n4) + i6z416_) ∧ Int32.toInt (((60 * n3) + n4) + i6z416_) ≤ 419) := zadd_r ((60 * n3) + n4) i6z416_ 0 419 b424_ b420_ (by decide) (by decide) (by decide) (by decide)
                                      refine pw_blkw hT 14 (pc := 170) (lo := [some (pvR 124), some (pvI n1), some (pvI n2), some (pvI n3), some (pvI n4), some (pvI n5), some (pvI i6z416_)]) (st := []) (M := pvw Mz416_ 166 (Int32.toNatClampNeg (((60 * n3) + n4) + i6z416_)) (Mz416_.2 167 (Int32.toNatClampNeg i6z416_))) rfl ⟨trivial, rfl, trivial, trivial, trivial, trivial, trivial, trivial, trivial, trivial, rfl, trivial, ⟨rfl, (zr_in (n := 60) b420_ (by decide) (by decide))⟩, ⟨rfl, (vp_in_iff.mpr (show 0 ≤ Int32.toInt (((60 * n3) + n4) + i6z416_) ∧ Int32.toInt (((60 * n3) + n4) + i6z416_) < ((360 : Nat) : Int) from (by have u0 := b426_; omega)))⟩, trivial⟩ (fun M428_ e429_ => ?_)
                                      have o430_ : pvOk M428_ := pvok_w e429_ oz416_
                                      have f431_ : pvFr fp_X10_shift_124_x_x_x_x_x M M428_ := pvfr_w e429_ fz416_
                                      obtain ⟨q433_, b432_⟩ : (Int32.toInt (i6z416_ + 1) = Int32.toInt i6z416_ + Int32.toInt 1) ∧ (1 ≤ Int32.toInt (i6z416_ + 1) ∧ Int32.toInt (i6z416_ + 1) ≤ 60) := zadd_r i6z416_ 1 1 60 b420_ (show 1 ≤ Int32.toInt 1 ∧ Int32.toInt 1 ≤ 1 from (by decide)) (by decide) (by decide) (by decide) (by decide)
                                      have u434_ : Int32.toInt 1 = 1 := by decide
                                      refine pw_blk hT 2 (S' := (141, [some (pvR 124), some (pvI n1), some (pvI n2), some (pvI n3), some (pvI n4), some (pvI n5), some (pvI (i6z416_ + 1))], [], M428_)) rfl ⟨trivial, trivial, trivial⟩ ?_
                                      exact ihz416_ (i6z416_ + 1) M428_ o430_ f431_ (zr_wide b432_ (by decide) (by decide)) (by omega)
                                exact hlz416_ _ 0 Mz337_ oz337_ fz337_ (zr_wide (show 0 ≤ Int32.toInt 0 ∧ Int32.toInt 0 ≤ 0 from (by decide)) (by decide) (by decide)) (Nat.lt_succ_self _)
                              · have b435_ : 1 ≤ Int32.toInt n5 ∧ Int32.toInt n5 ≤ 60 := zr_nle_l 1 c338_ b62_ h6z337_ (by decide)
                                have b436_ : 0 ≤ Int32.toInt i6z337_ ∧ Int32.toInt i6z337_ ≤ 59 := zr_nle_r 59 c338_ h6z337_ b435_ (by decide)
                                have d437_ : Int32.toInt n5 > Int32.toInt i6z337_ := Int.not_le.mp ((not_congr (zi_le _ _)).mp c338_)
                                have q438_ : Int32.toInt (60 * n1) = 60 * Int32.toInt n1 := by have u0 : Int32.toInt 60 = 60 := (by decide); have u1 := b13_; have u2 := zmul 60 n1 (by rw [u0]; omega) (by rw [u0]; omega); rw [u0] at u2; omega
                                have b439_ : 0 ≤ Int32.toInt (60 * n1) ∧ Int32.toInt (60 * n1) ≤ 300 := (by have u1 := b13_; omega)
                                obtain ⟨q441_, b440_⟩ : (Int32.toInt ((60 * n1) + n2) = Int32.toInt (60 * n1) + Int32.toInt n2) ∧ (0 ≤ Int32.toInt ((60 * n1) + n2) ∧ Int32.toInt ((60 * n1) + n2) ≤ 360) := zadd_r (60 * n1) n2 0 360 b439_ b53_ (by decide) (by decide) (by decide) (by decide)
                                obtain ⟨q443_, b442_⟩ : (Int32.toInt (((60 * n1) + n2) + i6z337_) = Int32.toInt ((60 * n1) + n2) + Int32.toInt i6z337_) ∧ (0 ≤ Int32.toInt (((60 * n1) + n2) + i6z337_) ∧ Int32.toInt (((60 * n1) + n2) + i6z337_) ≤ 419) := zadd_r ((60 * n1) + n2) i6z337_ 0 419 b440_ b436_ (by decide) (by decide) (by decide) (by decide)
                                refine pw_blkw hT 14 (pc := 132) (lo := [some (pvR 124), some (pvI n1), some (pvI n2), some (pvI n3), some (pvI n4), some (pvI n5), some (pvI i6z337_)]) (st := []) (M := pvw Mz337_ 167 (Int32.toNatClampNeg i6z337_) (Mz337_.2 166 (Int32.toNatClampNeg (((60 * n1) + n2) + i6z337_)))) rfl ⟨trivial, rfl, trivial, trivial, rfl, trivial, trivial, trivial, trivial, trivial, trivial, trivial, ⟨rfl, (vp_in_iff.mpr (show 0 ≤ Int32.toInt (((60 * n1) + n2) + i6z337_) ∧ Int32.toInt (((60 * n1) + n2) + i6z337_) < ((360 : Nat) : Int) from (by have u0 := b442_; omega)))⟩, ⟨rfl, (zr_in (n := 60) b436_ (by decide) (by decide))⟩, trivial⟩ (fun M444_ e445_ => ?_)
                                have o446_ : pvOk M444_ := pvok_w e445_ oz337_
                                have f447_ : pvFr fp_X10_shift_124_x_x_x_x_x M M444_ := pvfr_w e445_ fz337_
                                obtain ⟨q449_, b448_⟩ : (Int32.toInt (i6z337_ + 1) = Int32.toInt i6z337_ + Int32.toInt 1) ∧ (1 ≤ Int32.toInt (i6z337_ + 1) ∧ Int32.toInt (i6z337_ + 1) ≤ 60) := zadd_r i6z337_ 1 1 60 b436_ (show 1 ≤ Int32.toInt 1 ∧ Int32.toInt 1 ≤ 1 from (by decide)) (by decide) (by decide) (by decide) (by decide)
                                have u450_ : Int32.toInt 1 = 1 := by decide
                                refine pw_blk hT 2 (S' := (104, [some (pvR 124), some (pvI n1), some (pvI n2), some (pvI n3), some (pvI n4), some (pvI n5), some (pvI (i6z337_ + 1))], [], M444_)) rfl ⟨trivial, trivial, trivial⟩ ?_
                                exact ihz337_ (i6z337_ + 1) M444_ o446_ f447_ (zr_wide b448_ (by decide) (by decide)) (by omega)
                          exact hlz337_ _ 0 M hok pvfr_0 (zr_wide (show 0 ≤ Int32.toInt 0 ∧ Int32.toInt 0 ≤ 0 from (by decide)) (by decide) (by decide)) (Nat.lt_succ_self _)
                        · have d451_ : Int32.toInt n4 > Int32.toInt ((M.1 165 (Int32.toNatClampNeg n3)) - n5) := Int.not_le.mp ((not_congr (zi_le _ _)).mp c58_)
                          refine pw_blk hT 1 (S' := (100, [some (pvR 124), some (pvI n1), some (pvI n2), some (pvI n3), some (pvI n4), some (pvI n5), none], [pvI (-13)], M)) rfl ⟨trivial, trivial⟩ ?_
                          exact pw_ret hT rfl (r := some (pvI (-13))) (M' := M) ⟨rfl, rfl⟩ ⟨⟨_, rfl, (zr_wide (show (-13) ≤ Int32.toInt (-13) ∧ Int32.toInt (-13) ≤ (-13) from (by decide)) (by decide) (by decide))⟩, hok, pvfr_0⟩
              · refine pw_blk hT 1 (S' := (56, [some (pvR 124), some (pvI n1), some (pvI n2), some (pvI n3), some (pvI n4), some (pvI n5), none], [pvI (-12)], M)) rfl ⟨trivial, trivial⟩ ?_
                exact pw_ret hT rfl (r := some (pvI (-12))) (M' := M) ⟨rfl, rfl⟩ ⟨⟨_, rfl, (zr_wide (show (-12) ≤ Int32.toInt (-12) ∧ Int32.toInt (-12) ≤ (-12) from (by decide)) (by decide) (by decide))⟩, hok, pvfr_0⟩
            · have b452_ : (-1) ≤ Int32.toInt (M.1 164 (Int32.toNatClampNeg n3)) ∧ Int32.toInt (M.1 164 (Int32.toNatClampNeg n3)) ≤ (-1) := zr_nle_r (-1) c34_ b33_ (show 0 ≤ Int32.toInt 0 ∧ Int32.toInt 0 ≤ 0 from (by decide)) (by decide)
              refine pw_blk hT 1 (S' := (38, [some (pvR 124), some (pvI n1), some (pvI n2), some (pvI n3), some (pvI n4), some (pvI n5), none], [pvI (-11)], M)) rfl ⟨trivial, trivial⟩ ?_
              exact pw_ret hT rfl (r := some (pvI (-11))) (M' := M) ⟨rfl, rfl⟩ ⟨⟨_, rfl, (zr_wide (show (-11) ≤ Int32.toInt (-11) ∧ Int32.toInt (-11) ≤ (-11) from (by decide)) (by decide) (by decide))⟩, hok, pvfr_0⟩
def fpL_X10_shut_124_x : List (Nat × Nat × Nat) := [(0, 124, 2), (0, 124, 3), (0, 124, 33), (0, 124, 6), (0, 124, 7), (0, 131, 0), (0, 141, 0), (0, 142, 0), (0, 143, 0)]
def fp_X10_shut_124_x (q k : Nat) : Bool := pvfp fpL_X10_shut_124_x q k
theorem fp_X10_shut_124_x_fp_X10_goMinutes_124_x (a b : Nat) (h : fp_X10_goMinutes_124_x a b = true) : fp_X10_shut_124_x a b = true := pvfp_sub (l1 := fpL_X10_goMinutes_124_x) (l2 := fpL_X10_shut_124_x) (by decide) a b h
set_option maxHeartbeats 4000000 in
set_option maxRecDepth 10000 in
theorem sf_X10_shut_124_x (M : pvM) (hok : pvOk M) (n1 : Int32) (d : Nat) : PW 74 d (0, [some (pvR 124), some (pvI n1), none, none], [], M) (fun r X => (∃ x : Int32, r = some (pvI x) ∧ (-3) ≤ Int32.toInt x ∧ Int32.toInt x ≤ 319) ∧ pvOk X ∧ pvFr fp_X10_shut_124_x M X) := by
  have hT : pvdom 74 = pvD_74 := rfl
  refine pw_blk hT 2 (S' := (2, [some (pvR 124), some (pvI n1), none, none], [pvI n1, pvR 124], M)) rfl ⟨trivial, trivial, trivial⟩ ?_
  refine pw_callT hT (as := [pvR 124, pvI n1]) (lo1 := [some (pvR 124), some (pvI n1)]) (d1 := d) (rest := []) rfl rfl rfl rfl rfl (fun _ => rfl) (Nat.zero_le _) rfl rfl rfl (sf_X10_isWindow_124_x M hok n1 d) ?_
  by_cases c6_ : n1 < 0
  · refine pw_eqI (if_pos c6_) ?_
    have b7_ : (-2147483648) ≤ Int32.toInt n1 ∧ Int32.toInt n1 ≤ (-1) := zr_lt_l (-1) c6_ (zbnd n1) (show 0 ≤ Int32.toInt 0 ∧ Int32.toInt 0 ≤ 0 from (by decide)) (by decide)
    show PW 74 d (5, [some (pvR 124), some (pvI n1), none, none], [pvI 0], M) _
    refine pw_ifn hT (c := 0 = 0) rfl rfl (fun c8_ => absurd (by decide) c8_) (fun c8_ => ?_)
    refine pw_blk hT 1 (S' := (9, [some (pvR 124), some (pvI n1), none, none], [pvI (-1)], M)) rfl ⟨trivial, trivial⟩ ?_
    exact pw_ret hT rfl (r := some (pvI (-1))) (M' := M) ⟨rfl, rfl⟩ ⟨⟨_, rfl, (zr_wide (show (-1) ≤ Int32.toInt (-1) ∧ Int32.toInt (-1) ≤ (-1) from (by decide)) (by decide) (by decide))⟩, hok, pvfr_0⟩
  · refine pw_eqI (if_neg c6_) ?_
    have b9_ : 0 ≤ Int32.toInt n1 ∧ Int32.toInt n1 ≤ 2147483647 := zr_nlt_l 0 c6_ (zbnd n1) (show 0 ≤ Int32.toInt 0 ∧ Int32.toInt 0 ≤ 0 from (by decide)) (by decide)
    have b10_ : 0 ≤ Int32.toInt (M.1 124 0) ∧ Int32.toInt (M.1 124 0) ≤ 7 := pvok_r hok 124 0 rfl
    obtain ⟨q12_, b11_⟩ : (Int32.toInt ((M.1 124 0) - 1) = Int32.toInt (M.1 124 0) - Int32.toInt 1) ∧ ((-1) ≤ Int32.toInt ((M.1 124 0) - 1) ∧ Int32.toInt ((M.1 124 0) - 1) ≤ 6) := zsub_r (M.1 124 0) 1 (-1) 6 b10_ (show 1 ≤ Int32.toInt 1 ∧ Int32.toInt 1 ≤ 1 from (by decide)) (by decide) (by decide) (by decide) (by decide)
    have u13_ : Int32.toInt 1 = 1 := by decide
    by_cases c14_ : ((M.1 124 0) - 1) < n1
    · refine pw_eqI (if_pos c14_) ?_
      have d15_ : Int32.toInt ((M.1 124 0) - 1) < Int32.toInt n1 := (zi_lt _ _).mp c14_
      show PW 74 d (5, [some (pvR 124), some (pvI n1), none, none], [pvI 0], M) _
      refine pw_ifn hT (c := 0 = 0) rfl rfl (fun c16_ => absurd (by decide) c16_) (fun c16_ => ?_)
      refine pw_blk hT 1 (S' := (9, [some (pvR 124), some (pvI n1), none, none], [pvI (-1)], M)) rfl ⟨trivial, trivial⟩ ?_
      exact pw_ret hT rfl (r := some (pvI (-1))) (M' := M) ⟨rfl, rfl⟩ ⟨⟨_, rfl, (zr_wide (show (-1) ≤ Int32.toInt (-1) ∧ Int32.toInt (-1) ≤ (-1) from (by decide)) (by decide) (by decide))⟩, hok, pvfr_0⟩
    · refine pw_eqI (if_neg c14_) ?_
      have b17_ : 0 ≤ Int32.toInt ((M.1 124 0) - 1) ∧ Int32.toInt ((M.1 124 0) - 1) ≤ 6 := zr_nlt_l 0 c14_ b11_ b9_ (by decide)
      have b18_ : 0 ≤ Int32.toInt n1 ∧ Int32.toInt n1 ≤ 6 := zr_nlt_r 6 c14_ b9_ b17_ (by decide)
      have d19_ : Int32.toInt ((M.1 124 0) - 1) ≥ Int32.toInt n1 := Int.not_lt.mp ((not_congr (zi_lt _ _)).mp c14_)
      show PW 74 d (5, [some (pvR 124), some (pvI n1), none, none], [pvI 1], M) _
      refine pw_ifn hT (c := 1 = 0) rfl rfl (fun c20_ => ?_) (fun c20_ => absurd c20_ (by decide))
      have b21_ : 0 ≤ Int32.toInt (M.1 124 5) ∧ Int32.toInt (M.1 124 5) ≤ 3 := pvok_r hok 124 5 rfl
      have b22_ : 0 ≤ Int32.toInt (M.1 124 6) ∧ Int32.toInt (M.1 124 6) ≤ 4 := pvok_r hok 124 6 rfl
      refine pw_blk hT 6 (S' := (20, [some (pvR 124), some (pvI n1), none, none], [pvI n1, pvI (M.1 124 6), pvI (M.1 124 5), pvR 124], M)) rfl ⟨trivial, trivial, rfl, trivial, rfl, trivial, trivial⟩ ?_
      refine pw_callGp hT (as := [pvR 124, pvI (M.1 124 5), pvI (M.1 124 6), pvI n1]) (lo1 := [some (pvR 124), some (pvI (M.1 124 5)), some (pvI (M.1 124 6)), some (pvI n1)]) (d1 := d) (rest := []) rfl rfl rfl rfl rfl (fun _ => rfl) (Nat.zero_le _) rfl rfl rfl (sf_X10_way_124_x_x_x M hok (M.1 124 5) (M.1 124 6) n1 b21_ b22_ b18_ d) (fun x23_ b25_ => ?_)
      refine pw_blk hT 2 (S' := (25, [some (pvR 124), some (pvI n1), none, none], [pvI n1, pvR 124, pvI x23_], M)) rfl ⟨trivial, trivial, trivial⟩ ?_
      refine pw_callT hT (as := [pvR 124, pvI n1]) (lo1 := [some (pvR 124), some (pvI n1)]) (d1 := d) (rest := [pvI x23_]) rfl rfl rfl rfl rfl (fun _ => rfl) (Nat.zero_le _) rfl rfl rfl (sf_X10_shutting_124_x M hok n1 b18_ d) ?_
      have b33_ : 0 ≤ Int32.toInt (M.1 125 (Int32.toNatClampNeg n1)) ∧ Int32.toInt (M.1 125 (Int32.toNatClampNeg n1)) ≤ 6 := pvok_r hok 125 (Int32.toNatClampNeg n1) rfl
      by_cases c34_ : (M.1 125 (Int32.toNatClampNeg n1)) = 1
      · refine pw_eqI (if_pos c34_) ?_
        have b35_ : 1 ≤ Int32.toInt (M.1 125 (Int32.toNatClampNeg n1)) ∧ Int32.toInt (M.1 125 (Int32.toNatClampNeg n1)) ≤ 1 := (by have u0 := b33_; have u1 := (zi_eq _ _).mp c34_; have u2 := (show 1 ≤ Int32.toInt 1 ∧ Int32.toInt 1 ≤ 1 from (by decide)); omega)
        have b36_ : 0 ≤ Int32.toInt (M.1 129 (Int32.toNatClampNeg n1)) ∧ Int32.toInt (M.1 129 (Int32.toNatClampNeg n1)) ≤ 9 := pvok_r hok 129 (Int32.toNatClampNeg n1) rfl
        have q37_ : Int32.toInt (2 * (M.1 129 (Int32.toNatClampNeg n1))) = 2 * Int32.toInt (M.1 129 (Int32.toNatClampNeg n1)) := by have u0 : Int32.toInt 2 = 2 := (by decide); have u1 := b36_; have u2 := zmul 2 (M.1 129 (Int32.toNatClampNeg n1)) (by rw [u0]; omega) (by rw [u0]; omega); rw [u0] at u2; omega
        have b38_ : 0 ≤ Int32.toInt (2 * (M.1 129 (Int32.toNatClampNeg n1))) ∧ Int32.toInt (2 * (M.1 129 (Int32.toNatClampNeg n1))) ≤ 18 := (by have u1 := b36_; omega)
        show PW 74 d (28, [some (pvR 124), some (pvI n1), none, none], [pvI (2 * (M.1 129 (Int32.toNatClampNeg n1))), pvI x23_], M) _
        obtain ⟨q40_, b39_⟩ : (Int32.toInt (x23_ + (2 * (M.1 129 (Int32.toNatClampNeg n1)))) = Int32.toInt x23_ + Int32.toInt (2 * (M.1 129 (Int32.toNatClampNeg n1)))) ∧ (0 ≤ Int32.toInt (x23_ + (2 * (M.1 129 (Int32.toNatClampNeg n1)))) ∧ Int32.toInt (x23_ + (2 * (M.1 129 (Int32.toNatClampNeg n1)))) ≤ 319) := zadd_r x23_ (2 * (M.1 129 (Int32.toNatClampNeg n1))) 0 319 b25_ b38_ (by decide) (by decide) (by decide) (by decide)
        have b41_ : 0 ≤ Int32.toInt (M.1 131 (Int32.toNatClampNeg n1)) ∧ Int32.toInt (M.1 131 (Int32.toNatClampNeg n1)) ≤ 1 := pvok_r hok 131 (Int32.toNatClampNeg n1) rfl
        refine pw_blk hT 6 (S' := (36, [some (pvR 124), some (pvI n1), some (pvI (x23_ + (2 * (M.1 129 (Int32.toNatClampNeg n1))))), none], [pvI (M.1 131 (Int32.toNatClampNeg n1))], M)) rfl ⟨trivial, trivial, trivial, rfl, trivial, ⟨rfl, (zr_in (n := 7) b18_ (by decide) (by decide))⟩, trivial⟩ ?_
        refine pw_ifn hT (c := (M.1 131 (Int32.toNatClampNeg n1)) = 0) rfl rfl (fun c42_ => ?_) (fun c42_ => ?_)
        · have b43_ : 1 ≤ Int32.toInt (M.1 131 (Int32.toNatClampNeg n1)) ∧ Int32.toInt (M.1 131 (Int32.toNatClampNeg n1)) ≤ 1 := (by have u0 := b41_; have u1 := (not_congr (zi_eq _ _)).mp c42_; have u2 := (show 0 ≤ Int32.toInt 0 ∧ Int32.toInt 0 ≤ 0 from (by decide)); omega)
          refine pw_blk hT 1 (S' := (53, [some (pvR 124), some (pvI n1), some (pvI (x23_ + (2 * (M.1 129 (Int32.toNatClampNeg n1))))), none], [pvI (-3)], M)) rfl ⟨trivial, trivial⟩ ?_
          exact pw_ret hT rfl (r := some (pvI (-3))) (M' := M) ⟨rfl, rfl⟩ ⟨⟨_, rfl, (zr_wide (show (-3) ≤ Int32.toInt (-3) ∧ Int32.toInt (-3) ≤ (-3) from (by decide)) (by decide) (by decide))⟩, hok, pvfr_0⟩
        · have b44_ : 0 ≤ Int32.toInt (M.1 131 (Int32.toNatClampNeg n1)) ∧ Int32.toInt (M.1 131 (Int32.toNatClampNeg n1)) ≤ 0 := (by have u0 := b41_; have u1 := (zi_eq _ _).mp c42_; have u2 := (show 0 ≤ Int32.toInt 0 ∧ Int32.toInt 0 ≤ 0 from (by decide)); omega)
          have b45_ : 0 ≤ Int32.toInt (M.1 124 1) ∧ Int32.toInt (M.1 124 1) ≤ 9999 := pvok_r hok 124 1 rfl
          obtain ⟨q47_, b46_⟩ : (Int32.toInt ((M.1 124 1) + (x23_ + (2 * (M.1 129 (Int32.toNatClampNeg n1))))) = Int32.toInt (M.1 124 1) + Int32.toInt (x23_ + (2 * (M.1 129 (Int32.toNatClampNeg n1))))) ∧ (0 ≤ Int32.toInt ((M.1 124 1) + (x23_ + (2 * (M.1 129 (Int32.toNatClampNeg n1))))) ∧ Int32.toInt ((M.1 124 1) + (x23_ + (2 * (M.1 129 (Int32.toNatClampNeg n1))))) ≤ 10318) := zadd_r (M.1 124 1) (x23_ + (2 * (M.1 129 (Int32.toNatClampNeg n1)))) 0 10318 b45_ b39_ (by decide) (by decide) (by decide) (by decide)
          refine pw_blk hT 5 (S' := (48, [some (pvR 124), some (pvI n1), some (pvI (x23_ + (2 * (M.1 129 (Int32.toNatClampNeg n1))))), none], [pvI 9999, pvI ((M.1 124 1) + (x23_ + (2 * (M.1 129 (Int32.toNatClampNeg n1)))))], M)) rfl ⟨trivial, rfl, trivial, trivial, trivial, trivial⟩ ?_
          refine pw_ic hT (c := ((M.1 124 1) + (x23_ + (2 * (M.1 129 (Int32.toNatClampNeg n1))))) ≤ 9999) rfl rfl (fun c48_ => ?_) (fun c48_ => ?_)
          · have b49_ : 0 ≤ Int32.toInt ((M.1 124 1) + (x23_ + (2 * (M.1 129 (Int32.toNatClampNeg n1))))) ∧ Int32.toInt ((M.1 124 1) + (x23_ + (2 * (M.1 129 (Int32.toNatClampNeg n1))))) ≤ 9999 := zr_le_l 9999 c48_ b46_ (show 9999 ≤ Int32.toInt 9999 ∧ Int32.toInt 9999 ≤ 9999 from (by decide)) (by decide)
            refine pw_blk hT 2 (S' := (56, [some (pvR 124), some (pvI n1), some (pvI (x23_ + (2 * (M.1 129 (Int32.toNatClampNeg n1))))), none], [pvI (x23_ + (2 * (M.1 129 (Int32.toNatClampNeg n1)))), pvR 124], M)) rfl ⟨trivial, trivial, trivial⟩ ?_
            refine pw_callG hT (as := [pvR 124, pvI (x23_ + (2 * (M.1 129 (Int32.toNatClampNeg n1))))]) (lo1 := [some (pvR 124), some (pvI (x23_ + (2 * (M.1 129 (Int32.toNatClampNeg n1))))), none]) (d1 := d) (rest := []) rfl rfl rfl rfl rfl (fun _ => rfl) (Nat.zero_le _) rfl rfl rfl (sf_X10_goMinutes_124_x M hok (x23_ + (2 * (M.1 129 (Int32.toNatClampNeg n1)))) (zr_wide b39_ (by decide) (by decide)) (show Int32.toInt (M.1 124 1) + Int32.toInt (x23_ + (2 * (M.1 129 (Int32.toNatClampNeg n1)))) ≤ 9999 from (by omega)) d) (fun x50_ M51_ b52_ o53_ g54_ => ?_)
            have f55_ : pvFr fp_X10_shut_124_x M M51_ := pvfr_t g54_ pvfr_0 fp_X10_shut_124_x_fp_X10_goMinutes_124_x
            refine pw_blkw hT 6 (pc := 67) (lo := [some (pvR 124), some (pvI n1), some (pvI (x23_ + (2 * (M.1 129 (Int32.toNatClampNeg n1))))), some (pvI x50_)]) (st := []) (M := pvu M51_ 131 (Int32.toNatClampNeg n1) (vp_nar .boolean 1)) rfl ⟨trivial, trivial, rfl, trivial, trivial, ⟨rfl, (zr_in (n := 7) b18_ (by decide) (by decide))⟩, trivial⟩ (fun M56_ e57_ => ?_)
            have o58_ : pvOk M56_ := pvok_u2 e57_ o53_ rfl (zboolr 1)
            have f59_ : pvFr fp_X10_shut_124_x M M56_ := pvfr_u e57_ f55_ rfl
            have b60_ : 0 ≤ Int32.toInt (M56_.1 127 (Int32.toNatClampNeg n1)) ∧ Int32.toInt (M56_.1 127 (Int32.toNatClampNeg n1)) ≤ 3 := pvok_r o58_ 127 (Int32.toNatClampNeg n1) rfl
            refine pw_blkw hT 6 (pc := 77) (lo := [some (pvR 124), some (pvI n1), some (pvI (x23_ + (2 * (M.1 129 (Int32.toNatClampNeg n1))))), some (pvI x50_)]) (st := []) (M := pvu M56_ 124 5 (M56_.1 127 (Int32.toNatClampNeg n1))) rfl ⟨trivial, trivial, rfl, trivial, ⟨rfl, (zr_in (n := 7) b18_ (by decide) (by decide))⟩, rfl, trivial⟩ (fun M61_ e62_ => ?_)
            have o63_ : pvOk M61_ := pvok_u2 e62_ o58_ rfl b60_
            have f64_ : pvFr fp_X10_shut_124_x M M61_ := pvfr_u e62_ f59_ rfl
            have b65_ : 0 ≤ Int32.toInt (M61_.1 128 (Int32.toNatClampNeg n1)) ∧ Int32.toInt (M61_.1 128 (Int32.toNatClampNeg n1)) ≤ 4 := pvok_r o63_ 128 (Int32.toNatClampNeg n1) rfl
            refine pw_blkw hT 6 (pc := 87) (lo := [some (pvR 124), some (pvI n1), some (pvI (x23_ + (2 * (M.1 129 (Int32.toNatClampNeg n1))))), some (pvI x50_)]) (st := []) (M := pvu M61_ 124 6 (M61_.1 128 (Int32.toNatClampNeg n1))) rfl ⟨trivial, trivial, rfl, trivial, ⟨rfl, (zr_in (n := 7) b18_ (by decide) (by decide))⟩, rfl, trivial⟩ (fun M66_ e67_ => ?_)
            have o68_ : pvOk M66_ := pvok_u2 e67_ o63_ rfl b65_
            have f69_ : pvFr fp_X10_shut_124_x M M66_ := pvfr_u e67_ f64_ rfl
            refine pw_blk hT 1 (S' := (88, [some (pvR 124), some (pvI n1), some (pvI (x23_ + (2 * (M.1 129 (Int32.toNatClampNeg n1))))), some (pvI x50_)], [pvI (x23_ + (2 * (M.1 129 (Int32.toNatClampNeg n1))))], M66_)) rfl ⟨trivial, trivial⟩ ?_
            exact pw_ret hT rfl (r := some (pvI (x23_ + (2 * (M.1 129 (Int32.toNatClampNeg n1)))))) (M' := M66_) ⟨rfl, rfl⟩ ⟨⟨_, rfl, (zr_wide b39_ (by decide) (by decide))⟩, o68_, f69_⟩
          · have b70_ : 10000 ≤ Int32.toInt ((M.1 124 1) + (x23_ + (2 * (M.1 129 (Int32.toNatClampNeg n1))))) ∧ Int32.toInt ((M.1 124 1) + (x23_ + (2 * (M.1 129 (Int32.toNatClampNeg n1))))) ≤ 10318 := zr_nle_l 10000 c48_ b46_ (show 9999 ≤ Int32.toInt 9999 ∧ Int32.toInt 9999 ≤ 9999 from (by decide)) (by decide)
            refine pw_blk hT 1 (S' := (53, [some (pvR 124), some (pvI n1), some (pvI (x23_ + (2 * (M.1 129 (Int32.toNatClampNeg n1))))), none], [pvI (-3)], M)) rfl ⟨trivial, trivial⟩ ?_
            exact pw_ret hT rfl (r := some (pvI (-3))) (M' := M) ⟨rfl, rfl⟩ ⟨⟨_, rfl, (zr_wide (show (-3) ≤ Int32.toInt (-3) ∧ Int32.toInt (-3) ≤ (-3) from (by decide)) (by decide) (by decide))⟩, hok, pvfr_0⟩
      · refine pw_eqI (if_neg c34_) ?_
        by_cases c71_ : (M.1 125 (Int32.toNatClampNeg n1)) = 4
        · refine pw_eqI (if_pos c71_) ?_
          have b72_ : 4 ≤ Int32.toInt (M.1 125 (Int32.toNatClampNeg n1)) ∧ Int32.toInt (M.1 125 (Int32.toNatClampNeg n1)) ≤ 4 := (by have u0 := b33_; have u1 := (zi_eq _ _).mp c71_; have u2 := (show 4 ≤ Int32.toInt 4 ∧ Int32.toInt 4 ≤ 4 from (by decide)); omega)
          have b73_ : 0 ≤ Int32.toInt (M.1 129 (Int32.toNatClampNeg n1)) ∧ Int32.toInt (M.1 129 (Int32.toNatClampNeg n1)) ≤ 9 := pvok_r hok 129 (Int32.toNatClampNeg n1) rfl
          have q74_ : Int32.toInt (2 * (M.1 129 (Int32.toNatClampNeg n1))) = 2 * Int32.toInt (M.1 129 (Int32.toNatClampNeg n1)) := by have u0 : Int32.toInt 2 = 2 := (by decide); have u1 := b73_; have u2 := zmul 2 (M.1 129 (Int32.toNatClampNeg n1)) (by rw [u0]; omega) (by rw [u0]; omega); rw [u0] at u2; omega
          have b75_ : 0 ≤ Int32.toInt (2 * (M.1 129 (Int32.toNatClampNeg n1))) ∧ Int32.toInt (2 * (M.1 129 (Int32.toNatClampNeg n1))) ≤ 18 := (by have u1 := b73_; omega)
          show PW 74 d (28, [some (pvR 124), some (pvI n1), none, none], [pvI (2 * (M.1 129 (Int32.toNatClampNeg n1))), pvI x23_], M) _
          obtain ⟨q77_, b76_⟩ : (Int32.toInt (x23_ + (2 * (M.1 129 (Int32.toNatClampNeg n1)))) = Int32.toInt x23_ + Int32.toInt (2 * (M.1 129 (Int32.toNatClampNeg n1)))) ∧ (0 ≤ Int32.toInt (x23_ + (2 * (M.1 129 (Int32.toNatClampNeg n1)))) ∧ Int32.toInt (x23_ + (2 * (M.1 129 (Int32.toNatClampNeg n1)))) ≤ 319) := zadd_r x23_ (2 * (M.1 129 (Int32.toNatClampNeg n1))) 0 319 b25_ b75_ (by decide) (by decide) (by decide) (by decide)
          have b78_ : 0 ≤ Int32.toInt (M.1 131 (Int32.toNatClampNeg n1)) ∧ Int32.toInt (M.1 131 (Int32.toNatClampNeg n1)) ≤ 1 := pvok_r hok 131 (Int32.toNatClampNeg n1) rfl
          refine pw_blk hT 6 (S' := (36, [some (pvR 124), some (pvI n1), some (pvI (x23_ + (2 * (M.1 129 (Int32.toNatClampNeg n1))))), none], [pvI (M.1 131 (Int32.toNatClampNeg n1))], M)) rfl ⟨trivial, trivial, trivial, rfl, trivial, ⟨rfl, (zr_in (n := 7) b18_ (by decide) (by decide))⟩, trivial⟩ ?_
          refine pw_ifn hT (c := (M.1 131 (Int32.toNatClampNeg n1)) = 0) rfl rfl (fun c79_ => ?_) (fun c79_ => ?_)
          · have b80_ : 1 ≤ Int32.toInt (M.1 131 (Int32.toNatClampNeg n1)) ∧ Int32.toInt (M.1 131 (Int32.toNatClampNeg n1)) ≤ 1 := (by have u0 := b78_; have u1 := (not_congr (zi_eq _ _)).mp c79_; have u2 := (show 0 ≤ Int32.toInt 0 ∧ Int32.toInt 0 ≤ 0 from (by decide)); omega)
            refine pw_blk hT 1 (S' := (53, [some (pvR 124), some (pvI n1), some (pvI (x23_ + (2 * (M.1 129 (Int32.toNatClampNeg n1))))), none], [pvI (-3)], M)) rfl ⟨trivial, trivial⟩ ?_
            exact pw_ret hT rfl (r := some (pvI (-3))) (M' := M) ⟨rfl, rfl⟩ ⟨⟨_, rfl, (zr_wide (show (-3) ≤ Int32.toInt (-3) ∧ Int32.toInt (-3) ≤ (-3) from (by decide)) (by decide) (by decide))⟩, hok, pvfr_0⟩
          · have b81_ : 0 ≤ Int32.toInt (M.1 131 (Int32.toNatClampNeg n1)) ∧ Int32.toInt (M.1 131 (Int32.toNatClampNeg n1)) ≤ 0 := (by have u0 := b78_; have u1 := (zi_eq _ _).mp c79_; have u2 := (show 0 ≤ Int32.toInt 0 ∧ Int32.toInt 0 ≤ 0 from (by decide)); omega)
            have b82_ : 0 ≤ Int32.toInt (M.1 124 1) ∧ Int32.toInt (M.1 124 1) ≤ 9999 := pvok_r hok 124 1 rfl
            obtain ⟨q84_, b83_⟩ : (Int32.toInt ((M.1 124 1) + (x23_ + (2 * (M.1 129 (Int32.toNatClampNeg n1))))) = Int32.toInt (M.1 124 1) + Int32.toInt (x23_ + (2 * (M.1 129 (Int32.toNatClampNeg n1))))) ∧ (0 ≤ Int32.toInt ((M.1 124 1) + (x23_ + (2 * (M.1 129 (Int32.toNatClampNeg n1))))) ∧ Int32.toInt ((M.1 124 1) + (x23_ + (2 * (M.1 129 (Int32.toNatClampNeg n1))))) ≤ 10318) := zadd_r (M.1 124 1) (x23_ + (2 * (M.1 129 (Int32.toNatClampNeg n1)))) 0 10318 b82_ b76_ (by decide) (by decide) (by decide) (by decide)
            refine pw_blk hT 5 (S' := (48, [some (pvR 124), some (pvI n1), some (pvI (x23_ + (2 * (M.1 129 (Int32.toNatClampNeg n1))))), none], [pvI 9999, pvI ((M.1 124 1) + (x23_ + (2 * (M.1 129 (Int32.toNatClampNeg n1)))))], M)) rfl ⟨trivial, rfl, trivial, trivial, trivial, trivial⟩ ?_
            refine pw_ic hT (c := ((M.1 124 1) + (x23_ + (2 * (M.1 129 (Int32.toNatClampNeg n1))))) ≤ 9999) rfl rfl (fun c85_ => ?_) (fun c85_ => ?_)
            · have b86_ : 0 ≤ Int32.toInt ((M.1 124 1) + (x23_ + (2 * (M.1 129 (Int32.toNatClampNeg n1))))) ∧ Int32.toInt ((M.1 124 1) + (x23_ + (2 * (M.1 129 (Int32.toNatClampNeg n1))))) ≤ 9999 := zr_le_l 9999 c85_ b83_ (show 9999 ≤ Int32.toInt 9999 ∧ Int32.toInt 9999 ≤ 9999 from (by decide)) (by decide)
              refine pw_blk hT 2 (S' := (56, [some (pvR 124), some (pvI n1), some (pvI (x23_ + (2 * (M.1 129 (Int32.toNatClampNeg n1))))), none], [pvI (x23_ + (2 * (M.1 129 (Int32.toNatClampNeg n1)))), pvR 124], M)) rfl ⟨trivial, trivial, trivial⟩ ?_
              refine pw_callG hT (as := [pvR 124, pvI (x23_ + (2 * (M.1 129 (Int32.toNatClampNeg n1))))]) (lo1 := [some (pvR 124), some (pvI (x23_ + (2 * (M.1 129 (Int32.toNatClampNeg n1))))), none]) (d1 := d) (rest := []) rfl rfl rfl rfl rfl (fun _ => rfl) (Nat.zero_le _) rfl rfl rfl (sf_X10_goMinutes_124_x M hok (x23_ + (2 * (M.1 129 (Int32.toNatClampNeg n1)))) (zr_wide b76_ (by decide) (by decide)) (show Int32.toInt (M.1 124 1) + Int32.toInt (x23_ + (2 * (M.1 129 (Int32.toNatClampNeg n1)))) ≤ 9999 from (by omega)) d) (fun x87_ M88_ b89_ o90_ g91_ => ?_)
              have f92_ : pvFr fp_X10_shut_124_x M M88_ := pvfr_t g91_ pvfr_0 fp_X10_shut_124_x_fp_X10_goMinutes_124_x
              refine pw_blkw hT 6 (pc := 67) (lo := [some (pvR 124), some (pvI n1), some (pvI (x23_ + (2 * (M.1 129 (Int32.toNatClampNeg n1))))), some (pvI x87_)]) (st := []) (M := pvu M88_ 131 (Int32.toNatClampNeg n1) (vp_nar .boolean 1)) rfl ⟨trivial, trivial, rfl, trivial, trivial, ⟨rfl, (zr_in (n := 7) b18_ (by decide) (by decide))⟩, trivial⟩ (fun M93_ e94_ => ?_)
              have o95_ : pvOk M93_ := pvok_u2 e94_ o90_ rfl (zboolr 1)
              have f96_ : pvFr fp_X10_shut_124_x M M93_ := pvfr_u e94_ f92_ rfl
              have b97_ : 0 ≤ Int32.toInt (M93_.1 127 (Int32.toNatClampNeg n1)) ∧ Int32.toInt (M93_.1 127 (Int32.toNatClampNeg n1)) ≤ 3 := pvok_r o95_ 127 (Int32.toNatClampNeg n1) rfl
              refine pw_blkw hT 6 (pc := 77) (lo := [some (pvR 124), some (pvI n1), some (pvI (x23_ + (2 * (M.1 129 (Int32.toNatClampNeg n1))))), some (pvI x87_)]) (st := []) (M := pvu M93_ 124 5 (M93_.1 127 (Int32.toNatClampNeg n1))) rfl ⟨trivial, trivial, rfl, trivial, ⟨rfl, (zr_in (n := 7) b18_ (by decide) (by decide))⟩, rfl, trivial⟩ (fun M98_ e99_ => ?_)
              have o100_ : pvOk M98_ := pvok_u2 e99_ o95_ rfl b97_
              have f101_ : pvFr fp_X10_shut_124_x M M98_ := pvfr_u e99_ f96_ rfl
              have b102_ : 0 ≤ Int32.toInt (M98_.1 128 (Int32.toNatClampNeg n1)) ∧ Int32.toInt (M98_.1 128 (Int32.toNatClampNeg n1)) ≤ 4 := pvok_r o100_ 128 (Int32.toNatClampNeg n1) rfl
              refine pw_blkw hT 6 (pc := 87) (lo := [some (pvR 124), some (pvI n1), some (pvI (x23_ + (2 * (M.1 129 (Int32.toNatClampNeg n1))))), some (pvI x87_)]) (st := []) (M := pvu M98_ 124 6 (M98_.1 128 (Int32.toNatClampNeg n1))) rfl ⟨trivial, trivial, rfl, trivial, ⟨rfl, (zr_in (n := 7) b18_ (by decide) (by decide))⟩, rfl, trivial⟩ (fun M103_ e104_ => ?_)
              have o105_ : pvOk M103_ := pvok_u2 e104_ o100_ rfl b102_
              have f106_ : pvFr fp_X10_shut_124_x M M103_ := pvfr_u e104_ f101_ rfl
              refine pw_blk hT 1 (S' := (88, [some (pvR 124), some (pvI n1), some (pvI (x23_ + (2 * (M.1 129 (Int32.toNatClampNeg n1))))), some (pvI x87_)], [pvI (x23_ + (2 * (M.1 129 (Int32.toNatClampNeg n1))))], M103_)) rfl ⟨trivial, trivial⟩ ?_
              exact pw_ret hT rfl (r := some (pvI (x23_ + (2 * (M.1 129 (Int32.toNatClampNeg n1)))))) (M' := M103_) ⟨rfl, rfl⟩ ⟨⟨_, rfl, (zr_wide b76_ (by decide) (by decide))⟩, o105_, f106_⟩
            · have b107_ : 10000 ≤ Int32.toInt ((M.1 124 1) + (x23_ + (2 * (M.1 129 (Int32.toNatClampNeg n1))))) ∧ Int32.toInt ((M.1 124 1) + (x23_ + (2 * (M.1 129 (Int32.toNatClampNeg n1))))) ≤ 10318 := zr_nle_l 10000 c85_ b83_ (show 9999 ≤ Int32.toInt 9999 ∧ Int32.toInt 9999 ≤ 9999 from (by decide)) (by decide)
              refine pw_blk hT 1 (S' := (53, [some (pvR 124), some (pvI n1), some (pvI (x23_ + (2 * (M.1 129 (Int32.toNatClampNeg n1))))), none], [pvI (-3)], M)) rfl ⟨trivial, trivial⟩ ?_
              exact pw_ret hT rfl (r := some (pvI (-3))) (M' := M) ⟨rfl, rfl⟩ ⟨⟨_, rfl, (zr_wide (show (-3) ≤ Int32.toInt (-3) ∧ Int32.toInt (-3) ≤ (-3) from (by decide)) (by decide) (by decide))⟩, hok, pvfr_0⟩
        · refine pw_eqI (if_neg c71_) ?_
          have b108_ : 0 ≤ Int32.toInt (M.1 129 (Int32.toNatClampNeg n1)) ∧ Int32.toInt (M.1 129 (Int32.toNatClampNeg n1)) ≤ 9 := pvok_r hok 129 (Int32.toNatClampNeg n1) rfl
          show PW 74 d (28, [some (pvR 124), some (pvI n1), none, none], [pvI (M.1 129 (Int32.toNatClampNeg n1)), pvI x23_], M) _
          obtain ⟨q110_, b109_⟩ : (Int32.toInt (x23_ + (M.1 129 (Int32.toNatClampNeg n1))) = Int32.toInt x23_ + Int32.toInt (M.1 129 (Int32.toNatClampNeg n1))) ∧ (0 ≤ Int32.toInt (x23_ + (M.1 129 (Int32.toNatClampNeg n1))) ∧ Int32.toInt (x23_ + (M.1 129 (Int32.toNatClampNeg n1))) ≤ 310) := zadd_r x23_ (M.1 129 (Int32.toNatClampNeg n1)) 0 310 b25_ b108_ (by decide) (by decide) (by decide) (by decide)
          have b111_ : 0 ≤ Int32.toInt (M.1 131 (Int32.toNatClampNeg n1)) ∧ Int32.toInt (M.1 131 (Int32.toNatClampNeg n1)) ≤ 1 := pvok_r hok 131 (Int32.toNatClampNeg n1) rfl
          refine pw_blk hT 6 (S' := (36, [some (pvR 124), some (pvI n1), some (pvI (x23_ + (M.1 129 (Int32.toNatClampNeg n1)))), none], [pvI (M.1 131 (Int32.toNatClampNeg n1))], M)) rfl ⟨trivial, trivial, trivial, rfl, trivial, ⟨rfl, (zr_in (n := 7) b18_ (by decide) (by decide))⟩, trivial⟩ ?_
          refine pw_ifn hT (c := (M.1 131 (Int32.toNatClampNeg n1)) = 0) rfl rfl (fun c112_ => ?_) (fun c112_ => ?_)
          · have b113_ : 1 ≤ Int32.toInt (M.1 131 (Int32.toNatClampNeg n1)) ∧ Int32.toInt (M.1 131 (Int32.toNatClampNeg n1)) ≤ 1 := (by have u0 := b111_; have u1 := (not_congr (zi_eq _ _)).mp c112_; have u2 := (show 0 ≤ Int32.toInt 0 ∧ Int32.toInt 0 ≤ 0 from (by decide)); omega)
            refine pw_blk hT 1 (S' := (53, [some (pvR 124), some (pvI n1), some (pvI (x23_ + (M.1 129 (Int32.toNatClampNeg n1)))), none], [pvI (-3)], M)) rfl ⟨trivial, trivial⟩ ?_
            exact pw_ret hT rfl (r := some (pvI (-3))) (M' := M) ⟨rfl, rfl⟩ ⟨⟨_, rfl, (zr_wide (show (-3) ≤ Int32.toInt (-3) ∧ Int32.toInt (-3) ≤ (-3) from (by decide)) (by decide) (by decide))⟩, hok, pvfr_0⟩
          · have b114_ : 0 ≤ Int32.toInt (M.1 131 (Int32.toNatClampNeg n1)) ∧ Int32.toInt (M.1 131 (Int32.toNatClampNeg n1)) ≤ 0 := (by have u0 := b111_; have u1 := (zi_eq _ _).mp c112_; have u2 := (show 0 ≤ Int32.toInt 0 ∧ Int32.toInt 0 ≤ 0 from (by decide)); omega)
            have b115_ : 0 ≤ Int32.toInt (M.1 124 1) ∧ Int32.toInt (M.1 124 1) ≤ 9999 := pvok_r hok 124 1 rfl
            obtain ⟨q117_, b116_⟩ : (Int32.toInt ((M.1 124 1) + (x23_ + (M.1 129 (Int32.toNatClampNeg n1)))) = Int32.toInt (M.1 124 1) + Int32.toInt (x23_ + (M.1 129 (Int32.toNatClampNeg n1)))) ∧ (0 ≤ Int32.toInt ((M.1 124 1) + (x23_ + (M.1 129 (Int32.toNatClampNeg n1)))) ∧ Int32.toInt ((M.1 124 1) + (x23_ + (M.1 129 (Int32.toNatClampNeg n1)))) ≤ 10309) := zadd_r (M.1 124 1) (x23_ + (M.1 129 (Int32.toNatClampNeg n1))) 0 10309 b115_ b109_ (by decide) (by decide) (by decide) (by decide)
            refine pw_blk hT 5 (S' := (48, [some (pvR 124), some (pvI n1), some (pvI (x23_ + (M.1 129 (Int32.toNatClampNeg n1)))), none], [pvI 9999, pvI ((M.1 124 1) + (x23_ + (M.1 129 (Int32.toNatClampNeg n1))))], M)) rfl ⟨trivial, rfl, trivial, trivial, trivial, trivial⟩ ?_
            refine pw_ic hT (c := ((M.1 124 1) + (x23_ + (M.1 129 (Int32.toNatClampNeg n1)))) ≤ 9999) rfl rfl (fun c118_ => ?_) (fun c118_ => ?_)
            · have b119_ : 0 ≤ Int32.toInt ((M.1 124 1) + (x23_ + (M.1 129 (Int32.toNatClampNeg n1)))) ∧ Int32.toInt ((M.1 124 1) + (x23_ + (M.1 129 (Int32.toNatClampNeg n1)))) ≤ 9999 := zr_le_l 9999 c118_ b116_ (show 9999 ≤ Int32.toInt 9999 ∧ Int32.toInt 9999 ≤ 9999 from (by decide)) (by decide)
              refine pw_blk hT 2 (S' := (56, [some (pvR 124), some (pvI n1), some (pvI (x23_ + (M.1 129 (Int32.toNatClampNeg n1)))), none], [pvI (x23_ + (M.1 129 (Int32.toNatClampNeg n1))), pvR 124], M)) rfl ⟨trivial, trivial, trivial⟩ ?_
              refine pw_callG hT (as := [pvR 124, pvI (x23_ + (M.1 129 (Int32.toNatClampNeg n1)))]) (lo1 := [some (pvR 124), some (pvI (x23_ + (M.1 129 (Int32.toNatClampNeg n1)))), none]) (d1 := d) (rest := []) rfl rfl rfl rfl rfl (fun _ => rfl) (Nat.zero_le _) rfl rfl rfl (sf_X10_goMinutes_124_x M hok (x23_ + (M.1 129 (Int32.toNatClampNeg n1))) (zr_wide b109_ (by decide) (by decide)) (show Int32.toInt (M.1 124 1) + Int32.toInt (x23_ + (M.1 129 (Int32.toNatClampNeg n1))) ≤ 9999 from (by omega)) d) (fun x120_ M121_ b122_ o123_ g124_ => ?_)
              have f125_ : pvFr fp_X10_shut_124_x M M121_ := pvfr_t g124_ pvfr_0 fp_X10_shut_124_x_fp_X10_goMinutes_124_x
              refine pw_blkw hT 6 (pc := 67) (lo := [some (pvR 124), some (pvI n1), some (pvI (x23_ + (M.1 129 (Int32.toNatClampNeg n1)))), some (pvI x120_)]) (st := []) (M := pvu M121_ 131 (Int32.toNatClampNeg n1) (vp_nar .boolean 1)) rfl ⟨trivial, trivial, rfl, trivial, trivial, ⟨rfl, (zr_in (n := 7) b18_ (by decide) (by decide))⟩, trivial⟩ (fun M126_ e127_ => ?_)
              have o128_ : pvOk M126_ := pvok_u2 e127_ o123_ rfl (zboolr 1)
              have f129_ : pvFr fp_X10_shut_124_x M M126_ := pvfr_u e127_ f125_ rfl
              have b130_ : 0 ≤ Int32.toInt (M126_.1 127 (Int32.toNatClampNeg n1)) ∧ Int32.toInt (M126_.1 127 (Int32.toNatClampNeg n1)) ≤ 3 := pvok_r o128_ 127 (Int32.toNatClampNeg n1) rfl
              refine pw_blkw hT 6 (pc := 77) (lo := [some (pvR 124), some (pvI n1), some (pvI (x23_ + (M.1 129 (Int32.toNatClampNeg n1)))), some (pvI x120_)]) (st := []) (M := pvu M126_ 124 5 (M126_.1 127 (Int32.toNatClampNeg n1))) rfl ⟨trivial, trivial, rfl, trivial, ⟨rfl, (zr_in (n := 7) b18_ (by decide) (by decide))⟩, rfl, trivial⟩ (fun M131_ e132_ => ?_)
              have o133_ : pvOk M131_ := pvok_u2 e132_ o128_ rfl b130_
              have f134_ : pvFr fp_X10_shut_124_x M M131_ := pvfr_u e132_ f129_ rfl
              have b135_ : 0 ≤ Int32.toInt (M131_.1 128 (Int32.toNatClampNeg n1)) ∧ Int32.toInt (M131_.1 128 (Int32.toNatClampNeg n1)) ≤ 4 := pvok_r o133_ 128 (Int32.toNatClampNeg n1) rfl
              refine pw_blkw hT 6 (pc := 87) (lo := [some (pvR 124), some (pvI n1), some (pvI (x23_ + (M.1 129 (Int32.toNatClampNeg n1)))), some (pvI x120_)]) (st := []) (M := pvu M131_ 124 6 (M131_.1 128 (Int32.toNatClampNeg n1))) rfl ⟨trivial, trivial, rfl, trivial, ⟨rfl, (zr_in (n := 7) b18_ (by decide) (by decide))⟩, rfl, trivial⟩ (fun M136_ e137_ => ?_)
              have o138_ : pvOk M136_ := pvok_u2 e137_ o133_ rfl b135_
              have f139_ : pvFr fp_X10_shut_124_x M M136_ := pvfr_u e137_ f134_ rfl
              refine pw_blk hT 1 (S' := (88, [some (pvR 124), some (pvI n1), some (pvI (x23_ + (M.1 129 (Int32.toNatClampNeg n1)))), some (pvI x120_)], [pvI (x23_ + (M.1 129 (Int32.toNatClampNeg n1)))], M136_)) rfl ⟨trivial, trivial⟩ ?_
              exact pw_ret hT rfl (r := some (pvI (x23_ + (M.1 129 (Int32.toNatClampNeg n1))))) (M' := M136_) ⟨rfl, rfl⟩ ⟨⟨_, rfl, (zr_wide b109_ (by decide) (by decide))⟩, o138_, f139_⟩
            · have b140_ : 10000 ≤ Int32.toInt ((M.1 124 1) + (x23_ + (M.1 129 (Int32.toNatClampNeg n1)))) ∧ Int32.toInt ((M.1 124 1) + (x23_ + (M.1 129 (Int32.toNatClampNeg n1)))) ≤ 10309 := zr_nle_l 10000 c118_ b116_ (show 9999 ≤ Int32.toInt 9999 ∧ Int32.toInt 9999 ≤ 9999 from (by decide)) (by decide)
              refine pw_blk hT 1 (S' := (53, [some (pvR 124), some (pvI n1), some (pvI (x23_ + (M.1 129 (Int32.toNatClampNeg n1)))), none], [pvI (-3)], M)) rfl ⟨trivial, trivial⟩ ?_
              exact pw_ret hT rfl (r := some (pvI (-3))) (M' := M) ⟨rfl, rfl⟩ ⟨⟨_, rfl, (zr_wide (show (-3) ≤ Int32.toInt (-3) ∧ Int32.toInt (-3) ≤ (-3) from (by decide)) (by decide) (by decide))⟩, hok, pvfr_0⟩
def fpL_X10_sides_124_x : List (Nat × Nat × Nat) := [(0, 124, 33), (0, 124, 5), (0, 141, 0), (0, 142, 0), (0, 143, 0)]
def fp_X10_sides_124_x (q k : Nat) : Bool := pvfp fpL_X10_sides_124_x q k
theorem fp_X10_sides_124_x_fp_X10_costOfNone_124 (a b : Nat) (h : fp_X10_costOfNone_124 a b = true) : fp_X10_sides_124_x a b = true := pvfp_sub (l1 := fpL_X10_costOfNone_124) (l2 := fpL_X10_sides_124_x) (by decide) a b h
theorem fp_X10_sides_124_x_fp_X10_layRain_124 (a b : Nat) (h : fp_X10_layRain_124 a b = true) : fp_X10_sides_124_x a b = true := pvfp_sub (l1 := fpL_X10_layRain_124) (l2 := fpL_X10_sides_124_x) (by decide) a b h
set_option maxHeartbeats 4000000 in
set_option maxRecDepth 10000 in
theorem sf_X10_sides_124_x (M : pvM) (hok : pvOk M) (n1 : Int32) (d : Nat) : PW 77 d (0, [some (pvR 124), some (pvI n1), none, none, none, none], [], M) (fun r X => (∃ x : Int32, r = some (pvI x) ∧ (-1) ≤ Int32.toInt x ∧ Int32.toInt x ≤ 2147483647) ∧ pvOk X ∧ pvFr fp_X10_sides_124_x M X) := by
  have hT : pvdom 77 = pvD_77 := rfl
  refine pw_blk hT 4 (S' := (4, [some (pvR 124), some (pvI n1), none, none, none, none], [pvI 1, pvI 0, pvI n1, pvR 124], M)) rfl ⟨trivial, trivial, trivial, trivial, trivial⟩ ?_
  refine pw_callT hT (as := [pvR 124, pvI n1, pvI 0, pvI 1]) (lo1 := [some (pvR 124), some (pvI n1), some (pvI 0), some (pvI 1)]) (d1 := d) (rest := []) rfl rfl rfl rfl rfl (fun _ => rfl) (Nat.zero_le _) rfl rfl rfl (sf_X10_in_124_x_x_x M hok n1 0 1 d) ?_
  by_cases c6_ : n1 < 0
  · refine pw_eqI (if_pos c6_) ?_
    have b7_ : (-2147483648) ≤ Int32.toInt n1 ∧ Int32.toInt n1 ≤ (-1) := zr_lt_l (-1) c6_ (zbnd n1) (show 0 ≤ Int32.toInt 0 ∧ Int32.toInt 0 ≤ 0 from (by decide)) (by decide)
    show PW 77 d (7, [some (pvR 124), some (pvI n1), none, none, none, none], [pvI 0], M) _
    refine pw_ifn hT (c := 0 = 0) rfl rfl (fun c8_ => absurd (by decide) c8_) (fun c8_ => ?_)
    refine pw_blk hT 1 (S' := (11, [some (pvR 124), some (pvI n1), none, none, none, none], [pvI (-1)], M)) rfl ⟨trivial, trivial⟩ ?_
    exact pw_ret hT rfl (r := some (pvI (-1))) (M' := M) ⟨rfl, rfl⟩ ⟨⟨_, rfl, (zr_wide (show (-1) ≤ Int32.toInt (-1) ∧ Int32.toInt (-1) ≤ (-1) from (by decide)) (by decide) (by decide))⟩, hok, pvfr_0⟩
  · refine pw_eqI (if_neg c6_) ?_
    have b9_ : 0 ≤ Int32.toInt n1 ∧ Int32.toInt n1 ≤ 2147483647 := zr_nlt_l 0 c6_ (zbnd n1) (show 0 ≤ Int32.toInt 0 ∧ Int32.toInt 0 ≤ 0 from (by decide)) (by decide)
    by_cases c10_ : 1 < n1
    · refine pw_eqI (if_pos c10_) ?_
      have b11_ : 2 ≤ Int32.toInt n1 ∧ Int32.toInt n1 ≤ 2147483647 := zr_lt_r 2 c10_ b9_ (show 1 ≤ Int32.toInt 1 ∧ Int32.toInt 1 ≤ 1 from (by decide)) (by decide)
      show PW 77 d (7, [some (pvR 124), some (pvI n1), none, none, none, none], [pvI 0], M) _
      refine pw_ifn hT (c := 0 = 0) rfl rfl (fun c12_ => absurd (by decide) c12_) (fun c12_ => ?_)
      refine pw_blk hT 1 (S' := (11, [some (pvR 124), some (pvI n1), none, none, none, none], [pvI (-1)], M)) rfl ⟨trivial, trivial⟩ ?_
      exact pw_ret hT rfl (r := some (pvI (-1))) (M' := M) ⟨rfl, rfl⟩ ⟨⟨_, rfl, (zr_wide (show (-1) ≤ Int32.toInt (-1) ∧ Int32.toInt (-1) ≤ (-1) from (by decide)) (by decide) (by decide))⟩, hok, pvfr_0⟩
    · refine pw_eqI (if_neg c10_) ?_
      have b13_ : 0 ≤ Int32.toInt n1 ∧ Int32.toInt n1 ≤ 1 := zr_nlt_r 1 c10_ b9_ (show 1 ≤ Int32.toInt 1 ∧ Int32.toInt 1 ≤ 1 from (by decide)) (by decide)
      show PW 77 d (7, [some (pvR 124), some (pvI n1), none, none, none, none], [pvI 1], M) _
      refine pw_ifn hT (c := 1 = 0) rfl rfl (fun c14_ => ?_) (fun c14_ => absurd c14_ (by decide))
      have b15_ : 0 ≤ Int32.toInt (M.1 124 4) ∧ Int32.toInt (M.1 124 4) ≤ 4 := pvok_r hok 124 4 rfl
      refine pw_blkw hT 10 (pc := 27) (lo := [some (pvR 124), some (pvI n1), some (pvI (M.1 124 4)), some (pvI 0), some (pvI (-1)), none]) (st := []) (M := pvu M 124 4 0) rfl ⟨trivial, rfl, trivial, trivial, trivial, trivial, trivial, trivial, trivial, rfl, trivial⟩ (fun M16_ e17_ => ?_)
      have o18_ : pvOk M16_ := pvok_u2 e17_ hok rfl (zr_wide (show 0 ≤ Int32.toInt 0 ∧ Int32.toInt 0 ≤ 0 from (by decide)) (by decide) (by decide))
      have f19_ : pvFr fp_X10_sides_124_x M M16_ := pvfr_u e17_ pvfr_0 rfl
      have hlz179_ : ∀ (nz179_ : Nat) (i3z179_ : Int32) (i4z179_ : Int32) (v5z179_ : Option pvV) (Mz179_ : pvM), (pvOk Mz179_) → (pvFr fp_X10_sides_124_x M Mz179_) → (0 ≤ Int32.toInt i3z179_ ∧ Int32.toInt i3z179_ ≤ 2147483647) → ((-1) ≤ Int32.toInt i4z179_ ∧ Int32.toInt i4z179_ ≤ 2147483647) → ((5 - Int32.toInt (Mz179_.1 124 4)).toNat < nz179_) → PW 77 d (27, [some (pvR 124), some (pvI n1), some (pvI (M.1 124 4)), some (pvI i3z179_), some (pvI i4z179_), v5z179_], [], Mz179_) (fun r X => (∃ x : Int32, r = some (pvI x) ∧ (-1) ≤ Int32.toInt x ∧ Int32.toInt x ≤ 2147483647) ∧ pvOk X ∧ pvFr fp_X10_sides_124_x M X) := by
        intro nz179_
        induction nz179_ with
        | zero => intro i3z179_ i4z179_ v5z179_ Mz179_ oz179_ fz179_ h3z179_ h4z179_ hmz179_; exact absurd hmz179_ (Nat.not_lt_zero _)
        | succ nz179_ ihz179_ =>
          intro i3z179_ i4z179_ v5z179_ Mz179_ oz179_ fz179_ h3z179_ h4z179_ hmz179_
          have b180_ : 0 ≤ Int32.toInt (Mz179_.1 124 4) ∧ Int32.toInt (Mz179_.1 124 4) ≤ 4 := pvok_r oz179_ 124 4 rfl
          refine pw_blk hT 3 (S' := (32, [some (pvR 124), some (pvI n1), some (pvI (M.1 124 4)), some (pvI i3z179_), some (pvI i4z179_), v5z179_], [pvI 4, pvI (Mz179_.1 124 4)], Mz179_)) rfl ⟨trivial, rfl, trivial, trivial⟩ ?_
          refine pw_ic hT (c := 4 ≤ (Mz179_.1 124 4)) rfl rfl (fun c181_ => ?_) (fun c181_ => ?_)
          · have b182_ : 4 ≤ Int32.toInt (Mz179_.1 124 4) ∧ Int32.toInt (Mz179_.1 124 4) ≤ 4 := zr_le_r 4 c181_ b180_ (show 4 ≤ Int32.toInt 4 ∧ Int32.toInt 4 ≤ 4 from (by decide)) (by decide)
            refine pw_blkw hT 3 (pc := 82) (lo := [some (pvR 124), some (pvI n1), some (pvI (M.1 124 4)), some (pvI i3z179_), some (pvI i4z179_), v5z179_]) (st := []) (M := pvu Mz179_ 124 4 (M.1 124 4)) rfl ⟨trivial, trivial, rfl, trivial⟩ (fun M183_ e184_ => ?_)
            have o185_ : pvOk M183_ := pvok_u2 e184_ oz179_ rfl b15_
            have f186_ : pvFr fp_X10_sides_124_x M M183_ := pvfr_u e184_ fz179_ rfl
            refine pw_blk hT 1 (S' := (83, [some (pvR 124), some (pvI n1), some (pvI (M.1 124 4)), some (pvI i3z179_), some (pvI i4z179_), v5z179_], [pvI n1], M183_)) rfl ⟨trivial, trivial⟩ ?_
            refine pw_ifn hT (c := n1 = 0) rfl rfl (fun c187_ => ?_) (fun c187_ => ?_)
            · have b188_ : 1 ≤ Int32.toInt n1 ∧ Int32.toInt n1 ≤ 1 := (by have u0 := b13_; have u1 := (not_congr (zi_eq _ _)).mp c187_; have u2 := (show 0 ≤ Int32.toInt 0 ∧ Int32.toInt 0 ≤ 0 from (by decide)); omega)
              refine pw_blk hT 1 (S' := (92, [some (pvR 124), some (pvI n1), some (pvI (M.1 124 4)), some (pvI i3z179_), some (pvI i4z179_), v5z179_], [pvI i4z179_], M183_)) rfl ⟨trivial, trivial⟩ ?_
              exact pw_ret hT rfl (r := some (pvI i4z179_)) (M' := M183_) ⟨rfl, rfl⟩ ⟨⟨_, rfl, h4z179_⟩, o185_, f186_⟩
            · have b189_ : 0 ≤ Int32.toInt n1 ∧ Int32.toInt n1 ≤ 0 := (by have u0 := b13_; have u1 := (zi_eq _ _).mp c187_; have u2 := (show 0 ≤ Int32.toInt 0 ∧ Int32.toInt 0 ≤ 0 from (by decide)); omega)
              refine pw_blk hT 2 (S' := (92, [some (pvR 124), some (pvI n1), some (pvI (M.1 124 4)), some (pvI i3z179_), some (pvI i4z179_), v5z179_], [pvI i3z179_], M183_)) rfl ⟨trivial, trivial, trivial⟩ ?_
              exact pw_ret hT rfl (r := some (pvI i3z179_)) (M' := M183_) ⟨rfl, rfl⟩ ⟨⟨_, rfl, (zr_wide h3z179_ (by decide) (by decide))⟩, o185_, f186_⟩
          · have b190_ : 0 ≤ Int32.toInt (Mz179_.1 124 4) ∧ Int32.toInt (Mz179_.1 124 4) ≤ 3 := zr_nle_r 3 c181_ b180_ (show 4 ≤ Int32.toInt 4 ∧ Int32.toInt 4 ≤ 4 from (by decide)) (by decide)
            refine pw_blk hT 1 (S' := (36, [some (pvR 124), some (pvI n1), some (pvI (M.1 124 4)), some (pvI i3z179_), some (pvI i4z179_), v5z179_], [pvR 124], Mz179_)) rfl ⟨trivial, trivial⟩ ?_
            refine pw_callV hT (as := [pvR 124]) (lo1 := [some (pvR 124), none, none]) (d1 := d) (rest := []) rfl rfl rfl rfl rfl (fun _ => rfl) (Nat.zero_le _) rfl rfl rfl (sf_X10_layRain_124 Mz179_ oz179_ d) (fun M192_ o194_ g195_ => ?_)
            have f196_ : pvFr fp_X10_sides_124_x M M192_ := pvfr_t g195_ fz179_ fp_X10_sides_124_x_fp_X10_layRain_124
            refine pw_blk hT 1 (S' := (40, [some (pvR 124), some (pvI n1), some (pvI (M.1 124 4)), some (pvI i3z179_), some (pvI i4z179_), v5z179_], [pvR 124], M192_)) rfl ⟨trivial, trivial⟩ ?_
            refine pw_callG hT (as := [pvR 124]) (lo1 := [some (pvR 124)]) (d1 := d) (rest := []) rfl rfl rfl rfl rfl (fun _ => rfl) (Nat.zero_le _) rfl rfl rfl (sf_X10_costOfNone_124 M192_ o194_ d) (fun x197_ M198_ b199_ o200_ g201_ => ?_)
            have f202_ : pvFr fp_X10_sides_124_x M M198_ := pvfr_t g201_ f196_ fp_X10_sides_124_x_fp_X10_costOfNone_124
            refine pw_blk hT 3 (S' := (49, [some (pvR 124), some (pvI n1), some (pvI (M.1 124 4)), some (pvI i3z179_), some (pvI i4z179_), some (pvI x197_)], [pvI i4z179_, pvI x197_], M198_)) rfl ⟨trivial, trivial, trivial, trivial⟩ ?_
            refine pw_ic hT (c := i4z179_ < x197_) rfl rfl (fun c203_ => ?_) (fun c203_ => ?_)
            · have b204_ : (-1) ≤ Int32.toInt i4z179_ ∧ Int32.toInt i4z179_ ≤ 8999999 := zr_lt_l 8999999 c203_ h4z179_ b199_ (by decide)
              have d205_ : Int32.toInt i4z179_ < Int32.toInt x197_ := (zi_lt _ _).mp c203_
              have e206_ : (M198_.1 124 4) = (Mz179_.1 124 4) := ((g201_ 124 4 rfl).trans (g195_ 124 4 rfl))
              have b207_ : 0 ≤ Int32.toInt (M198_.1 124 4) ∧ Int32.toInt (M198_.1 124 4) ≤ 3 := (by rw [e206_]; exact b190_)
              obtain ⟨q209_, b208_⟩ : (Int32.toInt ((M198_.1 124 4) + 1) = Int32.toInt (M198_.1 124 4) + Int32.toInt 1) ∧ (1 ≤ Int32.toInt ((M198_.1 124 4) + 1) ∧ Int32.toInt ((M198_.1 124 4) + 1) ≤ 4) := zadd_r (M198_.1 124 4) 1 1 4 b207_ (show 1 ≤ Int32.toInt 1 ∧ Int32.toInt 1 ≤ 1 from (by decide)) (by decide) (by decide) (by decide) (by decide)
              have u210_ : Int32.toInt 1 = 1 := by decide
              refine pw_blkw hT 11 (pc := 74) (lo := [some (pvR 124), some (pvI n1), some (pvI (M.1 124 4)), some (pvI (M198_.1 124 4)), some (pvI x197_), some (pvI x197_)]) (st := []) (M := pvu M198_ 124 4 ((M198_.1 124 4) + 1)) rfl ⟨trivial, rfl, trivial, trivial, trivial, trivial, trivial, rfl, trivial, trivial, rfl, trivial⟩ (fun M211_ e212_ => ?_)
              have o213_ : pvOk M211_ := pvok_u2 e212_ o200_ rfl (zr_wide b208_ (by decide) (by decide))
              have f214_ : pvFr fp_X10_sides_124_x M M211_ := pvfr_u e212_ f202_ rfl
              refine pw_blk hT 1 (S' := (27, [some (pvR 124), some (pvI n1), some (pvI (M.1 124 4)), some (pvI (M198_.1 124 4)), some (pvI x197_), some (pvI x197_)], [], M211_)) rfl ⟨trivial, trivial⟩ ?_
              exact ihz179_ (M198_.1 124 4) x197_ (some (pvI x197_)) M211_ o213_ f214_ (zr_wide b207_ (by decide) (by decide)) (zr_wide b199_ (by decide) (by decide)) (by have z1 : Int32.toInt (M211_.1 124 4) = Int32.toInt ((M198_.1 124 4) + 1) := congrArg Int32.toInt (pvu_s e212_); have z2 : Int32.toInt (M198_.1 124 4) = Int32.toInt (Mz179_.1 124 4) := congrArg Int32.toInt ((g201_ 124 4 rfl).trans (g195_ 124 4 rfl)); omega)
            · have b215_ : 0 ≤ Int32.toInt i4z179_ ∧ Int32.toInt i4z179_ ≤ 2147483647 := zr_nlt_l 0 c203_ h4z179_ b199_ (by decide)
              have d216_ : Int32.toInt i4z179_ ≥ Int32.toInt x197_ := Int.not_lt.mp ((not_congr (zi_lt _ _)).mp c203_)
              have e217_ : (M198_.1 124 4) = (Mz179_.1 124 4) := ((g201_ 124 4 rfl).trans (g195_ 124 4 rfl))
              have b218_ : 0 ≤ Int32.toInt (M198_.1 124 4) ∧ Int32.toInt (M198_.1 124 4) ≤ 3 := (by rw [e217_]; exact b190_)
              obtain ⟨q220_, b219_⟩ : (Int32.toInt ((M198_.1 124 4) + 1) = Int32.toInt (M198_.1 124 4) + Int32.toInt 1) ∧ (1 ≤ Int32.toInt ((M198_.1 124 4) + 1) ∧ Int32.toInt ((M198_.1 124 4) + 1) ≤ 4) := zadd_r (M198_.1 124 4) 1 1 4 b218_ (show 1 ≤ Int32.toInt 1 ∧ Int32.toInt 1 ≤ 1 from (by decide)) (by decide) (by decide) (by decide) (by decide)
              have u221_ : Int32.toInt 1 = 1 := by decide
              refine pw_blkw hT 7 (pc := 74) (lo := [some (pvR 124), some (pvI n1), some (pvI (M.1 124 4)), some (pvI i3z179_), some (pvI i4z179_), some (pvI x197_)]) (st := []) (M := pvu M198_ 124 4 ((M198_.1 124 4) + 1)) rfl ⟨trivial, trivial, trivial, rfl, trivial, trivial, rfl, trivial⟩ (fun M222_ e223_ => ?_)
              have o224_ : pvOk M222_ := pvok_u2 e223_ o200_ rfl (zr_wide b219_ (by decide) (by decide))
              have f225_ : pvFr fp_X10_sides_124_x M M222_ := pvfr_u e223_ f202_ rfl
              refine pw_blk hT 1 (S' := (27, [some (pvR 124), some (pvI n1), some (pvI (M.1 124 4)), some (pvI i3z179_), some (pvI i4z179_), some (pvI x197_)], [], M222_)) rfl ⟨trivial, trivial⟩ ?_
              exact ihz179_ i3z179_ i4z179_ (some (pvI x197_)) M222_ o224_ f225_ h3z179_ (zr_wide b215_ (by decide) (by decide)) (by have z1 : Int32.toInt (M222_.1 124 4) = Int32.toInt ((M198_.1 124 4) + 1) := congrArg Int32.toInt (pvu_s e223_); have z2 : Int32.toInt (M198_.1 124 4) = Int32.toInt (Mz179_.1 124 4) := congrArg Int32.toInt ((g201_ 124 4 rfl).trans (g195_ 124 4 rfl)); omega)
      exact hlz179_ _ 0 (-1) none M16_ o18_ f19_ (zr_wide (show 0 ≤ Int32.toInt 0 ∧ Int32.toInt 0 ≤ 0 from (by decide)) (by decide) (by decide)) (zr_wide (show (-1) ≤ Int32.toInt (-1) ∧ Int32.toInt (-1) ≤ (-1) from (by decide)) (by decide) (by decide)) (Nat.lt_succ_self _)
