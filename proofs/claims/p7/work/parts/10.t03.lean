def fpL_X10_book_124_x_x : List (Nat × Nat × Nat) := [(0, 124, 44), (0, 149, 0), (0, 150, 0)]
def fp_X10_book_124_x_x (q k : Nat) : Bool := pvfp fpL_X10_book_124_x_x q k
set_option maxHeartbeats 4000000 in
set_option maxRecDepth 10000 in
theorem sf_X10_book_124_x_x (M : pvM) (hok : pvOk M) (n1 : Int32) (n2 : Int32) (d : Nat) : PW 12 d (0, [some (pvR 124), some (pvI n1), some (pvI n2)], [], M) (fun r X => (∃ x : Int32, r = some (pvI x) ∧ (-4) ≤ Int32.toInt x ∧ Int32.toInt x ≤ 8) ∧ pvOk X ∧ pvFr fp_X10_book_124_x_x M X) := by
  have hT : pvdom 12 = pvD_12 := rfl
  refine pw_blk hT 2 (S' := (2, [some (pvR 124), some (pvI n1), some (pvI n2)], [pvI (-1), pvI n1], M)) rfl ⟨trivial, trivial, trivial⟩ ?_
  refine pw_icn hT (c := n1 = (-1)) rfl rfl (fun c1_ => ?_) (fun c1_ => ?_)
  · refine pw_blk hT 2 (S' := (14, [some (pvR 124), some (pvI n1), some (pvI n2)], [pvI n1, pvR 124], M)) rfl ⟨trivial, trivial, trivial⟩ ?_
    refine pw_callT hT (as := [pvR 124, pvI n1]) (lo1 := [some (pvR 124), some (pvI n1)]) (d1 := d) (rest := []) rfl rfl rfl rfl rfl (fun _ => rfl) (Nat.zero_le _) rfl rfl rfl (sf_X10_isWindow_124_x M hok n1 d) ?_
    by_cases c7_ : n1 < 0
    · refine pw_eqI (if_pos c7_) ?_
      have b8_ : (-2147483648) ≤ Int32.toInt n1 ∧ Int32.toInt n1 ≤ (-2) := (by have u0 := (zbnd n1); have u9 := (show _ ∧ _ from ⟨(zi_lt _ _).mp c7_, (show 0 ≤ Int32.toInt 0 ∧ Int32.toInt 0 ≤ 0 from (by decide))⟩); have v1 := (not_congr (zi_eq _ _)).mp c1_; have w1 : ((-1) : Int32).toInt = -1 := (by decide); omega)
      show PW 12 d (17, [some (pvR 124), some (pvI n1), some (pvI n2)], [pvI 0], M) _
      refine pw_ifn hT (c := 0 = 0) rfl rfl (fun c9_ => absurd (by decide) c9_) (fun c9_ => ?_)
      refine pw_blk hT 1 (S' := (21, [some (pvR 124), some (pvI n1), some (pvI n2)], [pvI (-1)], M)) rfl ⟨trivial, trivial⟩ ?_
      exact pw_ret hT rfl (r := some (pvI (-1))) (M' := M) ⟨rfl, rfl⟩ ⟨⟨_, rfl, (zr_wide (show (-1) ≤ Int32.toInt (-1) ∧ Int32.toInt (-1) ≤ (-1) from (by decide)) (by decide) (by decide))⟩, hok, pvfr_0⟩
    · refine pw_eqI (if_neg c7_) ?_
      have b10_ : 0 ≤ Int32.toInt n1 ∧ Int32.toInt n1 ≤ 2147483647 := zr_nlt_l 0 c7_ (zbnd n1) (show 0 ≤ Int32.toInt 0 ∧ Int32.toInt 0 ≤ 0 from (by decide)) (by decide)
      have b11_ : 0 ≤ Int32.toInt (M.1 124 0) ∧ Int32.toInt (M.1 124 0) ≤ 7 := pvok_r hok 124 0 rfl
      obtain ⟨q13_, b12_⟩ : (Int32.toInt ((M.1 124 0) - 1) = Int32.toInt (M.1 124 0) - Int32.toInt 1) ∧ ((-1) ≤ Int32.toInt ((M.1 124 0) - 1) ∧ Int32.toInt ((M.1 124 0) - 1) ≤ 6) := zsub_r (M.1 124 0) 1 (-1) 6 b11_ (show 1 ≤ Int32.toInt 1 ∧ Int32.toInt 1 ≤ 1 from (by decide)) (by decide) (by decide) (by decide) (by decide)
      have u14_ : Int32.toInt 1 = 1 := by decide
      by_cases c15_ : ((M.1 124 0) - 1) < n1
      · refine pw_eqI (if_pos c15_) ?_
        have d16_ : Int32.toInt ((M.1 124 0) - 1) < Int32.toInt n1 := (zi_lt _ _).mp c15_
        show PW 12 d (17, [some (pvR 124), some (pvI n1), some (pvI n2)], [pvI 0], M) _
        refine pw_ifn hT (c := 0 = 0) rfl rfl (fun c17_ => absurd (by decide) c17_) (fun c17_ => ?_)
        refine pw_blk hT 1 (S' := (21, [some (pvR 124), some (pvI n1), some (pvI n2)], [pvI (-1)], M)) rfl ⟨trivial, trivial⟩ ?_
        exact pw_ret hT rfl (r := some (pvI (-1))) (M' := M) ⟨rfl, rfl⟩ ⟨⟨_, rfl, (zr_wide (show (-1) ≤ Int32.toInt (-1) ∧ Int32.toInt (-1) ≤ (-1) from (by decide)) (by decide) (by decide))⟩, hok, pvfr_0⟩
      · refine pw_eqI (if_neg c15_) ?_
        have b18_ : 0 ≤ Int32.toInt ((M.1 124 0) - 1) ∧ Int32.toInt ((M.1 124 0) - 1) ≤ 6 := zr_nlt_l 0 c15_ b12_ b10_ (by decide)
        have b19_ : 0 ≤ Int32.toInt n1 ∧ Int32.toInt n1 ≤ 6 := zr_nlt_r 6 c15_ b10_ b18_ (by decide)
        have d20_ : Int32.toInt ((M.1 124 0) - 1) ≥ Int32.toInt n1 := Int.not_lt.mp ((not_congr (zi_lt _ _)).mp c15_)
        show PW 12 d (17, [some (pvR 124), some (pvI n1), some (pvI n2)], [pvI 1], M) _
        refine pw_ifn hT (c := 1 = 0) rfl rfl (fun c21_ => ?_) (fun c21_ => absurd c21_ (by decide))
        refine pw_blk hT 4 (S' := (28, [some (pvR 124), some (pvI n1), some (pvI n2)], [pvI 9999, pvI 0, pvI n2, pvR 124], M)) rfl ⟨trivial, trivial, trivial, trivial, trivial⟩ ?_
        refine pw_callT hT (as := [pvR 124, pvI n2, pvI 0, pvI 9999]) (lo1 := [some (pvR 124), some (pvI n2), some (pvI 0), some (pvI 9999)]) (d1 := d) (rest := []) rfl rfl rfl rfl rfl (fun _ => rfl) (Nat.zero_le _) rfl rfl rfl (sf_X10_in_124_x_x_x M hok n2 0 9999 d) ?_
        by_cases c27_ : n2 < 0
        · refine pw_eqI (if_pos c27_) ?_
          have b28_ : (-2147483648) ≤ Int32.toInt n2 ∧ Int32.toInt n2 ≤ (-1) := zr_lt_l (-1) c27_ (zbnd n2) (show 0 ≤ Int32.toInt 0 ∧ Int32.toInt 0 ≤ 0 from (by decide)) (by decide)
          show PW 12 d (31, [some (pvR 124), some (pvI n1), some (pvI n2)], [pvI 0], M) _
          refine pw_ifn hT (c := 0 = 0) rfl rfl (fun c29_ => absurd (by decide) c29_) (fun c29_ => ?_)
          refine pw_blk hT 1 (S' := (36, [some (pvR 124), some (pvI n1), some (pvI n2)], [pvI (-2)], M)) rfl ⟨trivial, trivial⟩ ?_
          exact pw_ret hT rfl (r := some (pvI (-2))) (M' := M) ⟨rfl, rfl⟩ ⟨⟨_, rfl, (zr_wide (show (-2) ≤ Int32.toInt (-2) ∧ Int32.toInt (-2) ≤ (-2) from (by decide)) (by decide) (by decide))⟩, hok, pvfr_0⟩
        · refine pw_eqI (if_neg c27_) ?_
          have b30_ : 0 ≤ Int32.toInt n2 ∧ Int32.toInt n2 ≤ 2147483647 := zr_nlt_l 0 c27_ (zbnd n2) (show 0 ≤ Int32.toInt 0 ∧ Int32.toInt 0 ≤ 0 from (by decide)) (by decide)
          by_cases c31_ : 9999 < n2
          · refine pw_eqI (if_pos c31_) ?_
            have b32_ : 10000 ≤ Int32.toInt n2 ∧ Int32.toInt n2 ≤ 2147483647 := zr_lt_r 10000 c31_ b30_ (show 9999 ≤ Int32.toInt 9999 ∧ Int32.toInt 9999 ≤ 9999 from (by decide)) (by decide)
            show PW 12 d (31, [some (pvR 124), some (pvI n1), some (pvI n2)], [pvI 0], M) _
            refine pw_ifn hT (c := 0 = 0) rfl rfl (fun c33_ => absurd (by decide) c33_) (fun c33_ => ?_)
            refine pw_blk hT 1 (S' := (36, [some (pvR 124), some (pvI n1), some (pvI n2)], [pvI (-2)], M)) rfl ⟨trivial, trivial⟩ ?_
            exact pw_ret hT rfl (r := some (pvI (-2))) (M' := M) ⟨rfl, rfl⟩ ⟨⟨_, rfl, (zr_wide (show (-2) ≤ Int32.toInt (-2) ∧ Int32.toInt (-2) ≤ (-2) from (by decide)) (by decide) (by decide))⟩, hok, pvfr_0⟩
          · refine pw_eqI (if_neg c31_) ?_
            have b34_ : 0 ≤ Int32.toInt n2 ∧ Int32.toInt n2 ≤ 9999 := zr_nlt_r 9999 c31_ b30_ (show 9999 ≤ Int32.toInt 9999 ∧ Int32.toInt 9999 ≤ 9999 from (by decide)) (by decide)
            show PW 12 d (31, [some (pvR 124), some (pvI n1), some (pvI n2)], [pvI 1], M) _
            refine pw_ifn hT (c := 1 = 0) rfl rfl (fun c35_ => ?_) (fun c35_ => absurd c35_ (by decide))
            have b36_ : 0 ≤ Int32.toInt (M.1 124 43) ∧ Int32.toInt (M.1 124 43) ≤ 8 := pvok_r hok 124 43 rfl
            refine pw_blk hT 3 (S' := (43, [some (pvR 124), some (pvI n1), some (pvI n2)], [pvI 8, pvI (M.1 124 43)], M)) rfl ⟨trivial, rfl, trivial, trivial⟩ ?_
            refine pw_icn hT (c := (M.1 124 43) = 8) rfl rfl (fun c37_ => ?_) (fun c37_ => ?_)
            · have b38_ : 0 ≤ Int32.toInt (M.1 124 43) ∧ Int32.toInt (M.1 124 43) ≤ 7 := (by have u0 := b36_; have u1 := (not_congr (zi_eq _ _)).mp c37_; have u2 := (show 8 ≤ Int32.toInt 8 ∧ Int32.toInt 8 ≤ 8 from (by decide)); omega)
              refine pw_blkw hT 6 (pc := 59) (lo := [some (pvR 124), some (pvI n1), some (pvI n2)]) (st := []) (M := pvu M 149 (Int32.toNatClampNeg (M.1 124 43)) n1) rfl ⟨trivial, rfl, trivial, rfl, trivial, ⟨rfl, (zr_in (n := 8) b38_ (by decide) (by decide))⟩, trivial⟩ (fun M39_ e40_ => ?_)
              have o41_ : pvOk M39_ := pvok_u2 e40_ hok rfl b19_
              have f42_ : pvFr fp_X10_book_124_x_x M M39_ := pvfr_u e40_ pvfr_0 rfl
              have e43_ : (M39_.1 124 43) = (M.1 124 43) := (pvu_n e40_ 124 43 (Or.inl (by decide)))
              have b44_ : 0 ≤ Int32.toInt (M39_.1 124 43) ∧ Int32.toInt (M39_.1 124 43) ≤ 7 := (by rw [e43_]; exact b38_)
              refine pw_blkw hT 6 (pc := 69) (lo := [some (pvR 124), some (pvI n1), some (pvI n2)]) (st := []) (M := pvu M39_ 150 (Int32.toNatClampNeg (M39_.1 124 43)) n2) rfl ⟨trivial, rfl, trivial, rfl, trivial, ⟨rfl, (zr_in (n := 8) b44_ (by decide) (by decide))⟩, trivial⟩ (fun M45_ e46_ => ?_)
              have o47_ : pvOk M45_ := pvok_u2 e46_ o41_ rfl b34_
              have f48_ : pvFr fp_X10_book_124_x_x M M45_ := pvfr_u e46_ f42_ rfl
              have e49_ : (M45_.1 124 43) = (M39_.1 124 43) := (pvu_n e46_ 124 43 (Or.inl (by decide)))
              have b50_ : 0 ≤ Int32.toInt (M45_.1 124 43) ∧ Int32.toInt (M45_.1 124 43) ≤ 7 := (by rw [e49_]; exact b44_)
              obtain ⟨q52_, b51_⟩ : (Int32.toInt ((M45_.1 124 43) + 1) = Int32.toInt (M45_.1 124 43) + Int32.toInt 1) ∧ (1 ≤ Int32.toInt ((M45_.1 124 43) + 1) ∧ Int32.toInt ((M45_.1 124 43) + 1) ≤ 8) := zadd_r (M45_.1 124 43) 1 1 8 b50_ (show 1 ≤ Int32.toInt 1 ∧ Int32.toInt 1 ≤ 1 from (by decide)) (by decide) (by decide) (by decide) (by decide)
              refine pw_blkw hT 6 (pc := 79) (lo := [some (pvR 124), some (pvI n1), some (pvI n2)]) (st := []) (M := pvu M45_ 124 43 ((M45_.1 124 43) + 1)) rfl ⟨trivial, trivial, rfl, trivial, trivial, rfl, trivial⟩ (fun M53_ e54_ => ?_)
              have o55_ : pvOk M53_ := pvok_u2 e54_ o47_ rfl (zr_wide b51_ (by decide) (by decide))
              have f56_ : pvFr fp_X10_book_124_x_x M M53_ := pvfr_u e54_ f48_ rfl
              have e57_ : (M53_.1 124 43) = ((M45_.1 124 43) + 1) := (pvu_s e54_)
              have b58_ : 1 ≤ Int32.toInt (M53_.1 124 43) ∧ Int32.toInt (M53_.1 124 43) ≤ 8 := (by rw [e57_]; exact b51_)
              refine pw_blk hT 2 (S' := (83, [some (pvR 124), some (pvI n1), some (pvI n2)], [pvI (M53_.1 124 43)], M53_)) rfl ⟨trivial, rfl, trivial⟩ ?_
              exact pw_ret hT rfl (r := some (pvI (M53_.1 124 43))) (M' := M53_) ⟨rfl, rfl⟩ ⟨⟨_, rfl, (zr_wide b58_ (by decide) (by decide))⟩, o55_, f56_⟩
            · have b59_ : 8 ≤ Int32.toInt (M.1 124 43) ∧ Int32.toInt (M.1 124 43) ≤ 8 := (by have u0 := b36_; have u1 := (zi_eq _ _).mp c37_; have u2 := (show 8 ≤ Int32.toInt 8 ∧ Int32.toInt 8 ≤ 8 from (by decide)); omega)
              refine pw_blk hT 1 (S' := (48, [some (pvR 124), some (pvI n1), some (pvI n2)], [pvI (-4)], M)) rfl ⟨trivial, trivial⟩ ?_
              exact pw_ret hT rfl (r := some (pvI (-4))) (M' := M) ⟨rfl, rfl⟩ ⟨⟨_, rfl, (zr_wide (show (-4) ≤ Int32.toInt (-4) ∧ Int32.toInt (-4) ≤ (-4) from (by decide)) (by decide) (by decide))⟩, hok, pvfr_0⟩
  · have b60_ : (-1) ≤ Int32.toInt n1 ∧ Int32.toInt n1 ≤ (-1) := (by have u0 := (zbnd n1); have u1 := (zi_eq _ _).mp c1_; have u2 := (show (-1) ≤ Int32.toInt (-1) ∧ Int32.toInt (-1) ≤ (-1) from (by decide)); omega)
    refine pw_blkw hT 3 (pc := 10) (lo := [some (pvR 124), some (pvI n1), some (pvI n2)]) (st := []) (M := pvu M 124 43 0) rfl ⟨trivial, trivial, rfl, trivial⟩ (fun M61_ e62_ => ?_)
    have o63_ : pvOk M61_ := pvok_u2 e62_ hok rfl (zr_wide (show 0 ≤ Int32.toInt 0 ∧ Int32.toInt 0 ≤ 0 from (by decide)) (by decide) (by decide))
    have f64_ : pvFr fp_X10_book_124_x_x M M61_ := pvfr_u e62_ pvfr_0 rfl
    refine pw_blk hT 1 (S' := (11, [some (pvR 124), some (pvI n1), some (pvI n2)], [pvI 0], M61_)) rfl ⟨trivial, trivial⟩ ?_
    exact pw_ret hT rfl (r := some (pvI 0)) (M' := M61_) ⟨rfl, rfl⟩ ⟨⟨_, rfl, (zr_wide (show 0 ≤ Int32.toInt 0 ∧ Int32.toInt 0 ≤ 0 from (by decide)) (by decide) (by decide))⟩, o63_, f64_⟩
def fpL_X10_costOfNone_124 : List (Nat × Nat × Nat) := [(0, 143, 0)]
def fp_X10_costOfNone_124 (q k : Nat) : Bool := pvfp fpL_X10_costOfNone_124 q k
theorem fp_X10_costOfNone_124_fp_X10_layOpen_124 (a b : Nat) (h : fp_X10_layOpen_124 a b = true) : fp_X10_costOfNone_124 a b = true := pvfp_sub (l1 := fpL_X10_layOpen_124) (l2 := fpL_X10_costOfNone_124) (by decide) a b h
set_option maxHeartbeats 4000000 in
set_option maxRecDepth 10000 in
theorem sf_X10_costOfNone_124 (M : pvM) (hok : pvOk M) (d : Nat) : PW 13 d (0, [some (pvR 124)], [], M) (fun r X => (∃ x : Int32, r = some (pvI x) ∧ 0 ≤ Int32.toInt x ∧ Int32.toInt x ≤ 9000000) ∧ pvOk X ∧ pvFr fp_X10_costOfNone_124 M X) := by
  have hT : pvdom 13 = pvD_13 := rfl
  refine pw_blk hT 1 (S' := (1, [some (pvR 124)], [pvR 124], M)) rfl ⟨trivial, trivial⟩ ?_
  refine pw_callV hT (as := [pvR 124]) (lo1 := [some (pvR 124), none]) (d1 := d) (rest := []) rfl rfl rfl rfl rfl (fun _ => rfl) (Nat.zero_le _) rfl rfl rfl (sf_X10_layOpen_124 M hok d) (fun M2_ o4_ g5_ => ?_)
  have f6_ : pvFr fp_X10_costOfNone_124 M M2_ := pvfr_t g5_ pvfr_0 fp_X10_costOfNone_124_fp_X10_layOpen_124
  refine pw_blk hT 1 (S' := (5, [some (pvR 124)], [pvR 124], M2_)) rfl ⟨trivial, trivial⟩ ?_
  refine pw_callGp hT (as := [pvR 124]) (lo1 := [some (pvR 124)]) (d1 := d) (rest := []) rfl rfl rfl rfl rfl (fun _ => rfl) (Nat.zero_le _) rfl rfl rfl (sf_X10_harmTillEnd_124 M2_ o4_ d) (fun x7_ b9_ => ?_)
  exact pw_ret hT rfl (r := some (pvI x7_)) (M' := M2_) ⟨rfl, rfl⟩ ⟨⟨_, rfl, b9_⟩, o4_, f6_⟩
def fpL_X10_costOfRound_124_x : List (Nat × Nat × Nat) := [(0, 124, 33), (0, 124, 36), (0, 141, 0), (0, 142, 0), (0, 143, 0), (0, 144, 0)]
def fp_X10_costOfRound_124_x (q k : Nat) : Bool := pvfp fpL_X10_costOfRound_124_x q k
theorem fp_X10_costOfRound_124_x_fp_X10_costOfPath_124_x (a b : Nat) (h : fp_X10_costOfPath_124_x a b = true) : fp_X10_costOfRound_124_x a b = true := pvfp_sub (l1 := fpL_X10_costOfPath_124_x) (l2 := fpL_X10_costOfRound_124_x) (by decide) a b h
theorem fp_X10_costOfRound_124_x_fp_X10_layRain_124 (a b : Nat) (h : fp_X10_layRain_124 a b = true) : fp_X10_costOfRound_124_x a b = true := pvfp_sub (l1 := fpL_X10_layRain_124) (l2 := fpL_X10_costOfRound_124_x) (by decide) a b h
theorem fp_X10_costOfRound_124_x_fp_X10_layRound_124 (a b : Nat) (h : fp_X10_layRound_124 a b = true) : fp_X10_costOfRound_124_x a b = true := pvfp_sub (l1 := fpL_X10_layRound_124) (l2 := fpL_X10_costOfRound_124_x) (by decide) a b h
set_option maxHeartbeats 4000000 in
set_option maxRecDepth 10000 in
theorem sf_X10_costOfRound_124_x (M : pvM) (hok : pvOk M) (n1 : Int32) (hn1 : 0 ≤ Int32.toInt n1 ∧ Int32.toInt n1 ≤ 60) (d : Nat) : PW 15 d (0, [some (pvR 124), some (pvI n1)], [], M) (fun r X => (∃ x : Int32, r = some (pvI x) ∧ 0 ≤ Int32.toInt x ∧ Int32.toInt x ≤ 9000000) ∧ pvOk X ∧ pvFr fp_X10_costOfRound_124_x M X) := by
  have hT : pvdom 15 = pvD_15 := rfl
  refine pw_blk hT 1 (S' := (1, [some (pvR 124), some (pvI n1)], [pvR 124], M)) rfl ⟨trivial, trivial⟩ ?_
  refine pw_callV hT (as := [pvR 124]) (lo1 := [some (pvR 124), none, none]) (d1 := d) (rest := []) rfl rfl rfl rfl rfl (fun _ => rfl) (Nat.zero_le _) rfl rfl rfl (sf_X10_layRain_124 M hok d) (fun M2_ o4_ g5_ => ?_)
  have f6_ : pvFr fp_X10_costOfRound_124_x M M2_ := pvfr_t g5_ pvfr_0 fp_X10_costOfRound_124_x_fp_X10_layRain_124
  refine pw_blk hT 1 (S' := (5, [some (pvR 124), some (pvI n1)], [pvR 124], M2_)) rfl ⟨trivial, trivial⟩ ?_
  refine pw_callV hT (as := [pvR 124]) (lo1 := [some (pvR 124), none]) (d1 := d) (rest := []) rfl rfl rfl rfl rfl (fun _ => rfl) (Nat.zero_le _) rfl rfl rfl (sf_X10_layRound_124 M2_ o4_ d) (fun M8_ o10_ g11_ => ?_)
  have f12_ : pvFr fp_X10_costOfRound_124_x M M8_ := pvfr_t g11_ f6_ fp_X10_costOfRound_124_x_fp_X10_layRound_124
  refine pw_blk hT 2 (S' := (10, [some (pvR 124), some (pvI n1)], [pvI n1, pvR 124], M8_)) rfl ⟨trivial, trivial, trivial⟩ ?_
  refine pw_callG hT (as := [pvR 124, pvI n1]) (lo1 := [some (pvR 124), some (pvI n1), none]) (d1 := d) (rest := []) rfl rfl rfl rfl rfl (fun _ => rfl) (Nat.zero_le _) rfl rfl rfl (sf_X10_costOfPath_124_x M8_ o10_ n1 hn1 d) (fun x13_ M14_ b15_ o16_ g17_ => ?_)
  have f18_ : pvFr fp_X10_costOfRound_124_x M M14_ := pvfr_t g17_ f12_ fp_X10_costOfRound_124_x_fp_X10_costOfPath_124_x
  exact pw_ret hT rfl (r := some (pvI x13_)) (M' := M14_) ⟨rfl, rfl⟩ ⟨⟨_, rfl, b15_⟩, o16_, f18_⟩
set_option maxHeartbeats 4000000 in
set_option maxRecDepth 10000 in
theorem sf_X10_count_124_x (M : pvM) (hok : pvOk M) (n1 : Int32) (d : Nat) : PW 16 d (0, [some (pvR 124), some (pvI n1)], [], M) (fun r X => r = some (pvI ((if n1 = 0 then (M.1 124 0) else (if n1 = 1 then (M.1 124 14) else (if n1 = 2 then (M.1 124 37) else (if n1 = 3 then (M.1 124 40) else (if n1 = 4 then (M.1 124 43) else (if n1 = 5 then (M.1 124 16) else (if n1 = 6 then (M.1 124 70) else (-2)))))))))) ∧ X = M) := by
  have hT : pvdom 16 = pvD_16 := rfl
  refine pw_blk hT 1 (S' := (1, [some (pvR 124), some (pvI n1)], [pvI n1], M)) rfl ⟨trivial, trivial⟩ ?_
  refine pw_sw hT rfl rfl ?_
  refine And.intro (fun c1_ => ?_) (fun c1_ => ?_)
  · show PW 16 d (44, [some (pvR 124), some (pvI n1)], [], M) _
    have b2_ : 0 ≤ Int32.toInt n1 ∧ Int32.toInt n1 ≤ 0 := (by have u0 := (zbnd n1); have u1 := (zi_eq _ _).mp c1_; have u2 := (show 0 ≤ Int32.toInt 0 ∧ Int32.toInt 0 ≤ 0 from (by decide)); omega)
    have b3_ : 0 ≤ Int32.toInt (M.1 124 0) ∧ Int32.toInt (M.1 124 0) ≤ 7 := pvok_r hok 124 0 rfl
    refine pw_blk hT 2 (S' := (48, [some (pvR 124), some (pvI n1)], [pvI (M.1 124 0)], M)) rfl ⟨trivial, rfl, trivial⟩ ?_
    exact pw_ret hT rfl (r := some (pvI (M.1 124 0))) (M' := M) ⟨rfl, rfl⟩ ⟨(by rw [if_pos c1_]), rfl⟩
  · refine And.intro (fun c4_ => ?_) (fun c4_ => ?_)
    · show PW 16 d (49, [some (pvR 124), some (pvI n1)], [], M) _
      have b5_ : 1 ≤ Int32.toInt n1 ∧ Int32.toInt n1 ≤ 1 := (by have u0 := (zbnd n1); have u1 := (zi_eq _ _).mp c4_; have u2 := (show 1 ≤ Int32.toInt 1 ∧ Int32.toInt 1 ≤ 1 from (by decide)); omega)
      have b6_ : 0 ≤ Int32.toInt (M.1 124 14) ∧ Int32.toInt (M.1 124 14) ≤ 6 := pvok_r hok 124 14 rfl
      refine pw_blk hT 2 (S' := (53, [some (pvR 124), some (pvI n1)], [pvI (M.1 124 14)], M)) rfl ⟨trivial, rfl, trivial⟩ ?_
      exact pw_ret hT rfl (r := some (pvI (M.1 124 14))) (M' := M) ⟨rfl, rfl⟩ ⟨(by rw [if_neg c1_, if_pos c4_]), rfl⟩
    · refine And.intro (fun c7_ => ?_) (fun c7_ => ?_)
      · show PW 16 d (54, [some (pvR 124), some (pvI n1)], [], M) _
        have b8_ : 2 ≤ Int32.toInt n1 ∧ Int32.toInt n1 ≤ 2 := (by have u0 := (zbnd n1); have u1 := (zi_eq _ _).mp c7_; have u2 := (show 2 ≤ Int32.toInt 2 ∧ Int32.toInt 2 ≤ 2 from (by decide)); omega)
        have b9_ : 0 ≤ Int32.toInt (M.1 124 37) ∧ Int32.toInt (M.1 124 37) ≤ 7 := pvok_r hok 124 37 rfl
        refine pw_blk hT 2 (S' := (58, [some (pvR 124), some (pvI n1)], [pvI (M.1 124 37)], M)) rfl ⟨trivial, rfl, trivial⟩ ?_
        exact pw_ret hT rfl (r := some (pvI (M.1 124 37))) (M' := M) ⟨rfl, rfl⟩ ⟨(by rw [if_neg c1_, if_neg c4_, if_pos c7_]), rfl⟩
      · refine And.intro (fun c10_ => ?_) (fun c10_ => ?_)
        · show PW 16 d (59, [some (pvR 124), some (pvI n1)], [], M) _
          have b11_ : 3 ≤ Int32.toInt n1 ∧ Int32.toInt n1 ≤ 3 := (by have u0 := (zbnd n1); have u1 := (zi_eq _ _).mp c10_; have u2 := (show 3 ≤ Int32.toInt 3 ∧ Int32.toInt 3 ≤ 3 from (by decide)); omega)
          have b12_ : 0 ≤ Int32.toInt (M.1 124 40) ∧ Int32.toInt (M.1 124 40) ≤ 6 := pvok_r hok 124 40 rfl
          refine pw_blk hT 2 (S' := (63, [some (pvR 124), some (pvI n1)], [pvI (M.1 124 40)], M)) rfl ⟨trivial, rfl, trivial⟩ ?_
          exact pw_ret hT rfl (r := some (pvI (M.1 124 40))) (M' := M) ⟨rfl, rfl⟩ ⟨(by rw [if_neg c1_, if_neg c4_, if_neg c7_, if_pos c10_]), rfl⟩
        · refine And.intro (fun c13_ => ?_) (fun c13_ => ?_)
          · show PW 16 d (64, [some (pvR 124), some (pvI n1)], [], M) _
            have b14_ : 4 ≤ Int32.toInt n1 ∧ Int32.toInt n1 ≤ 4 := (by have u0 := (zbnd n1); have u1 := (zi_eq _ _).mp c13_; have u2 := (show 4 ≤ Int32.toInt 4 ∧ Int32.toInt 4 ≤ 4 from (by decide)); omega)
            have b15_ : 0 ≤ Int32.toInt (M.1 124 43) ∧ Int32.toInt (M.1 124 43) ≤ 8 := pvok_r hok 124 43 rfl
            refine pw_blk hT 2 (S' := (68, [some (pvR 124), some (pvI n1)], [pvI (M.1 124 43)], M)) rfl ⟨trivial, rfl, trivial⟩ ?_
            exact pw_ret hT rfl (r := some (pvI (M.1 124 43))) (M' := M) ⟨rfl, rfl⟩ ⟨(by rw [if_neg c1_, if_neg c4_, if_neg c7_, if_neg c10_, if_pos c13_]), rfl⟩
          · refine And.intro (fun c16_ => ?_) (fun c16_ => ?_)
            · show PW 16 d (69, [some (pvR 124), some (pvI n1)], [], M) _
              have b17_ : 5 ≤ Int32.toInt n1 ∧ Int32.toInt n1 ≤ 5 := (by have u0 := (zbnd n1); have u1 := (zi_eq _ _).mp c16_; have u2 := (show 5 ≤ Int32.toInt 5 ∧ Int32.toInt 5 ≤ 5 from (by decide)); omega)
              have b18_ : 0 ≤ Int32.toInt (M.1 124 16) ∧ Int32.toInt (M.1 124 16) ≤ 100 := pvok_r hok 124 16 rfl
              refine pw_blk hT 2 (S' := (73, [some (pvR 124), some (pvI n1)], [pvI (M.1 124 16)], M)) rfl ⟨trivial, rfl, trivial⟩ ?_
              exact pw_ret hT rfl (r := some (pvI (M.1 124 16))) (M' := M) ⟨rfl, rfl⟩ ⟨(by rw [if_neg c1_, if_neg c4_, if_neg c7_, if_neg c10_, if_neg c13_, if_pos c16_]), rfl⟩
            · refine And.intro (fun c19_ => ?_) (fun c19_ => ?_)
              · show PW 16 d (74, [some (pvR 124), some (pvI n1)], [], M) _
                have b20_ : 6 ≤ Int32.toInt n1 ∧ Int32.toInt n1 ≤ 6 := (by have u0 := (zbnd n1); have u1 := (zi_eq _ _).mp c19_; have u2 := (show 6 ≤ Int32.toInt 6 ∧ Int32.toInt 6 ≤ 6 from (by decide)); omega)
                have b21_ : 0 ≤ Int32.toInt (M.1 124 70) ∧ Int32.toInt (M.1 124 70) ≤ 1000000 := pvok_r hok 124 70 rfl
                refine pw_blk hT 2 (S' := (78, [some (pvR 124), some (pvI n1)], [pvI (M.1 124 70)], M)) rfl ⟨trivial, rfl, trivial⟩ ?_
                exact pw_ret hT rfl (r := some (pvI (M.1 124 70))) (M' := M) ⟨rfl, rfl⟩ ⟨(by rw [if_neg c1_, if_neg c4_, if_neg c7_, if_neg c10_, if_neg c13_, if_neg c16_, if_pos c19_]), rfl⟩
              · show PW 16 d (79, [some (pvR 124), some (pvI n1)], [], M) _
                refine pw_blk hT 1 (S' := (81, [some (pvR 124), some (pvI n1)], [pvI (-2)], M)) rfl ⟨trivial, trivial⟩ ?_
                exact pw_ret hT rfl (r := some (pvI (-2))) (M' := M) ⟨rfl, rfl⟩ ⟨(by rw [if_neg c1_, if_neg c4_, if_neg c7_, if_neg c10_, if_neg c13_, if_neg c16_, if_neg c19_]), rfl⟩
set_option maxHeartbeats 4000000 in
set_option maxRecDepth 10000 in
theorem sf_X10_divisor_124_x_x (M : pvM) (hok : pvOk M) (n1 : Int32) (n2 : Int32) (hn1 : 0 ≤ Int32.toInt n1 ∧ Int32.toInt n1 ≤ 90000000) (hn2 : 1 ≤ Int32.toInt n2 ∧ Int32.toInt n2 ≤ 10) (d : Nat) : PW 17 d (0, [some (pvR 124), some (pvI n1), some (pvI n2), none, none, none], [], M) (fun r X => (∃ x : Int32, r = some (pvI x) ∧ 1 ≤ Int32.toInt x ∧ Int32.toInt x ≤ 90000000) ∧ X = M) := by
  have hT : pvdom 17 = pvD_17 := rfl
  refine pw_blk hT 4 (S' := (5, [some (pvR 124), some (pvI n1), some (pvI n2), some (pvI n1), some (pvI n2), none], [], M)) rfl ⟨trivial, trivial, trivial, trivial, trivial⟩ ?_
  have hlz14_ : ∀ (nz14_ : Nat) (i3z14_ : Int32) (i4z14_ : Int32) (v5z14_ : Option pvV), (0 ≤ Int32.toInt i3z14_ ∧ Int32.toInt i3z14_ ≤ 90000000) → (0 ≤ Int32.toInt i4z14_ ∧ Int32.toInt i4z14_ ≤ 10) → (1 ≤ Int32.toInt i3z14_ ∨ 1 ≤ Int32.toInt i4z14_) → ((Int32.toInt i4z14_).toNat < nz14_) → PW 17 d (5, [some (pvR 124), some (pvI n1), some (pvI n2), some (pvI i3z14_), some (pvI i4z14_), v5z14_], [], M) (fun r X => (∃ x : Int32, r = some (pvI x) ∧ 1 ≤ Int32.toInt x ∧ Int32.toInt x ≤ 90000000) ∧ X = M) := by
    intro nz14_
    induction nz14_ with
    | zero => intro i3z14_ i4z14_ v5z14_ h3z14_ h4z14_ j0z14_ hmz14_; exact absurd hmz14_ (Nat.not_lt_zero _)
    | succ nz14_ ihz14_ =>
      intro i3z14_ i4z14_ v5z14_ h3z14_ h4z14_ j0z14_ hmz14_
      refine pw_blk hT 1 (S' := (7, [some (pvR 124), some (pvI n1), some (pvI n2), some (pvI i3z14_), some (pvI i4z14_), v5z14_], [pvI i4z14_], M)) rfl ⟨trivial, trivial⟩ ?_
      refine pw_if hT (c := i4z14_ = 0) rfl rfl (fun c15_ => ?_) (fun c15_ => ?_)
      · have b16_ : 0 ≤ Int32.toInt i4z14_ ∧ Int32.toInt i4z14_ ≤ 0 := (by have u0 := h4z14_; have u1 := (zi_eq _ _).mp c15_; have u2 := (show 0 ≤ Int32.toInt 0 ∧ Int32.toInt 0 ≤ 0 from (by decide)); omega)
        refine pw_blk hT 1 (S' := (27, [some (pvR 124), some (pvI n1), some (pvI n2), some (pvI i3z14_), some (pvI i4z14_), v5z14_], [pvI i3z14_], M)) rfl ⟨trivial, trivial⟩ ?_
        exact pw_ret hT rfl (r := some (pvI i3z14_)) (M' := M) ⟨rfl, rfl⟩ ⟨⟨_, rfl, (by have u0 := h3z14_; omega)⟩, rfl⟩
      · have b17_ : 1 ≤ Int32.toInt i4z14_ ∧ Int32.toInt i4z14_ ≤ 10 := (by have u0 := h4z14_; have u1 := (not_congr (zi_eq _ _)).mp c15_; have u2 := (show 0 ≤ Int32.toInt 0 ∧ Int32.toInt 0 ≤ 0 from (by decide)); omega)
        have q18_ : 0 ≤ Int32.toInt (i3z14_ - i3z14_ / i4z14_ * i4z14_) ∧ Int32.toInt (i3z14_ - i3z14_ / i4z14_ * i4z14_) < Int32.toInt i4z14_ := pvrem i3z14_ i4z14_ (by have u0 := h3z14_; omega) (by have u0 := b17_; have u1 := (not_congr (zi_eq _ _)).mp c15_; have u2 : (0 : Int32).toInt = 0 := (by decide); omega)
        have b19_ : 0 ≤ Int32.toInt (i3z14_ - i3z14_ / i4z14_ * i4z14_) ∧ Int32.toInt (i3z14_ - i3z14_ / i4z14_ * i4z14_) ≤ 9 := (by have u0 := q18_; have u1 := b17_; omega)
        refine pw_blk hT 9 (S' := (5, [some (pvR 124), some (pvI n1), some (pvI n2), some (pvI i4z14_), some (pvI (i3z14_ - i3z14_ / i4z14_ * i4z14_)), some (pvI (i3z14_ - i3z14_ / i4z14_ * i4z14_))], [], M)) rfl ⟨trivial, trivial, c15_, trivial, trivial, trivial, trivial, trivial, trivial, trivial⟩ ?_
        have j20_ : 1 ≤ Int32.toInt i4z14_ ∨ 1 ≤ Int32.toInt (i3z14_ - i3z14_ / i4z14_ * i4z14_) := by omega
        exact ihz14_ i4z14_ (i3z14_ - i3z14_ / i4z14_ * i4z14_) (some (pvI (i3z14_ - i3z14_ / i4z14_ * i4z14_))) (zr_wide b17_ (by decide) (by decide)) (zr_wide b19_ (by decide) (by decide)) j20_ (by omega)
  have j21_ : 1 ≤ Int32.toInt n1 ∨ 1 ≤ Int32.toInt n2 := by omega
  exact hlz14_ _ n1 n2 none hn1 (zr_wide hn2 (by decide) (by decide)) j21_ (Nat.lt_succ_self _)
set_option maxHeartbeats 4000000 in
set_option maxRecDepth 10000 in
theorem sf_X10_factOf_124_x_x (M : pvM) (hok : pvOk M) (n1 : Int32) (n2 : Int32) (hn2 : 0 ≤ Int32.toInt n2 ∧ Int32.toInt n2 ≤ 6) (d : Nat) : PW 19 d (0, [some (pvR 124), some (pvI n1), some (pvI n2)], [], M) (fun r X => r = some (pvI ((if n1 = 0 then n2 else (if n1 = 1 then (M.1 125 (Int32.toNatClampNeg n2)) else (if n1 = 2 then (M.1 127 (Int32.toNatClampNeg n2)) else (if n1 = 3 then (M.1 128 (Int32.toNatClampNeg n2)) else (if n1 = 4 then (M.1 124 4) else (M.1 124 32)))))))) ∧ X = M) := by
  have hT : pvdom 19 = pvD_19 := rfl
  refine pw_blk hT 1 (S' := (1, [some (pvR 124), some (pvI n1), some (pvI n2)], [pvI n1], M)) rfl ⟨trivial, trivial⟩ ?_
  refine pw_sw hT rfl rfl ?_
  refine And.intro (fun c1_ => ?_) (fun c1_ => ?_)
  · show PW 19 d (36, [some (pvR 124), some (pvI n1), some (pvI n2)], [], M) _
    have b2_ : 0 ≤ Int32.toInt n1 ∧ Int32.toInt n1 ≤ 0 := (by have u0 := (zbnd n1); have u1 := (zi_eq _ _).mp c1_; have u2 := (show 0 ≤ Int32.toInt 0 ∧ Int32.toInt 0 ≤ 0 from (by decide)); omega)
    refine pw_blk hT 1 (S' := (37, [some (pvR 124), some (pvI n1), some (pvI n2)], [pvI n2], M)) rfl ⟨trivial, trivial⟩ ?_
    exact pw_ret hT rfl (r := some (pvI n2)) (M' := M) ⟨rfl, rfl⟩ ⟨(by rw [if_pos c1_]), rfl⟩
  · refine And.intro (fun c3_ => ?_) (fun c3_ => ?_)
    · show PW 19 d (38, [some (pvR 124), some (pvI n1), some (pvI n2)], [], M) _
      have b4_ : 1 ≤ Int32.toInt n1 ∧ Int32.toInt n1 ≤ 1 := (by have u0 := (zbnd n1); have u1 := (zi_eq _ _).mp c3_; have u2 := (show 1 ≤ Int32.toInt 1 ∧ Int32.toInt 1 ≤ 1 from (by decide)); omega)
      have b5_ : 0 ≤ Int32.toInt (M.1 125 (Int32.toNatClampNeg n2)) ∧ Int32.toInt (M.1 125 (Int32.toNatClampNeg n2)) ≤ 6 := pvok_r hok 125 (Int32.toNatClampNeg n2) rfl
      refine pw_blk hT 4 (S' := (44, [some (pvR 124), some (pvI n1), some (pvI n2)], [pvI (M.1 125 (Int32.toNatClampNeg n2))], M)) rfl ⟨trivial, rfl, trivial, ⟨rfl, (zr_in (n := 7) hn2 (by decide) (by decide))⟩, trivial⟩ ?_
      exact pw_ret hT rfl (r := some (pvI (M.1 125 (Int32.toNatClampNeg n2)))) (M' := M) ⟨rfl, rfl⟩ ⟨(by rw [if_neg c1_, if_pos c3_]), rfl⟩
    · refine And.intro (fun c6_ => ?_) (fun c6_ => ?_)
      · show PW 19 d (45, [some (pvR 124), some (pvI n1), some (pvI n2)], [], M) _
        have b7_ : 2 ≤ Int32.toInt n1 ∧ Int32.toInt n1 ≤ 2 := (by have u0 := (zbnd n1); have u1 := (zi_eq _ _).mp c6_; have u2 := (show 2 ≤ Int32.toInt 2 ∧ Int32.toInt 2 ≤ 2 from (by decide)); omega)
        have b8_ : 0 ≤ Int32.toInt (M.1 127 (Int32.toNatClampNeg n2)) ∧ Int32.toInt (M.1 127 (Int32.toNatClampNeg n2)) ≤ 3 := pvok_r hok 127 (Int32.toNatClampNeg n2) rfl
        refine pw_blk hT 4 (S' := (51, [some (pvR 124), some (pvI n1), some (pvI n2)], [pvI (M.1 127 (Int32.toNatClampNeg n2))], M)) rfl ⟨trivial, rfl, trivial, ⟨rfl, (zr_in (n := 7) hn2 (by decide) (by decide))⟩, trivial⟩ ?_
        exact pw_ret hT rfl (r := some (pvI (M.1 127 (Int32.toNatClampNeg n2)))) (M' := M) ⟨rfl, rfl⟩ ⟨(by rw [if_neg c1_, if_neg c3_, if_pos c6_]), rfl⟩
      · refine And.intro (fun c9_ => ?_) (fun c9_ => ?_)
        · show PW 19 d (52, [some (pvR 124), some (pvI n1), some (pvI n2)], [], M) _
          have b10_ : 3 ≤ Int32.toInt n1 ∧ Int32.toInt n1 ≤ 3 := (by have u0 := (zbnd n1); have u1 := (zi_eq _ _).mp c9_; have u2 := (show 3 ≤ Int32.toInt 3 ∧ Int32.toInt 3 ≤ 3 from (by decide)); omega)
          have b11_ : 0 ≤ Int32.toInt (M.1 128 (Int32.toNatClampNeg n2)) ∧ Int32.toInt (M.1 128 (Int32.toNatClampNeg n2)) ≤ 4 := pvok_r hok 128 (Int32.toNatClampNeg n2) rfl
          refine pw_blk hT 4 (S' := (58, [some (pvR 124), some (pvI n1), some (pvI n2)], [pvI (M.1 128 (Int32.toNatClampNeg n2))], M)) rfl ⟨trivial, rfl, trivial, ⟨rfl, (zr_in (n := 7) hn2 (by decide) (by decide))⟩, trivial⟩ ?_
          exact pw_ret hT rfl (r := some (pvI (M.1 128 (Int32.toNatClampNeg n2)))) (M' := M) ⟨rfl, rfl⟩ ⟨(by rw [if_neg c1_, if_neg c3_, if_neg c6_, if_pos c9_]), rfl⟩
        · refine And.intro (fun c12_ => ?_) (fun c12_ => ?_)
          · show PW 19 d (59, [some (pvR 124), some (pvI n1), some (pvI n2)], [], M) _
            have b13_ : 4 ≤ Int32.toInt n1 ∧ Int32.toInt n1 ≤ 4 := (by have u0 := (zbnd n1); have u1 := (zi_eq _ _).mp c12_; have u2 := (show 4 ≤ Int32.toInt 4 ∧ Int32.toInt 4 ≤ 4 from (by decide)); omega)
            have b14_ : 0 ≤ Int32.toInt (M.1 124 4) ∧ Int32.toInt (M.1 124 4) ≤ 4 := pvok_r hok 124 4 rfl
            refine pw_blk hT 2 (S' := (63, [some (pvR 124), some (pvI n1), some (pvI n2)], [pvI (M.1 124 4)], M)) rfl ⟨trivial, rfl, trivial⟩ ?_
            exact pw_ret hT rfl (r := some (pvI (M.1 124 4))) (M' := M) ⟨rfl, rfl⟩ ⟨(by rw [if_neg c1_, if_neg c3_, if_neg c6_, if_neg c9_, if_pos c12_]), rfl⟩
          · show PW 19 d (64, [some (pvR 124), some (pvI n1), some (pvI n2)], [], M) _
            have b15_ : 0 ≤ Int32.toInt (M.1 124 32) ∧ Int32.toInt (M.1 124 32) ≤ 99 := pvok_r hok 124 32 rfl
            refine pw_blk hT 2 (S' := (68, [some (pvR 124), some (pvI n1), some (pvI n2)], [pvI (M.1 124 32)], M)) rfl ⟨trivial, rfl, trivial⟩ ?_
            exact pw_ret hT rfl (r := some (pvI (M.1 124 32))) (M' := M) ⟨rfl, rfl⟩ ⟨(by rw [if_neg c1_, if_neg c3_, if_neg c6_, if_neg c9_, if_neg c12_]), rfl⟩
def fpL_X10_feed_124_x : List (Nat × Nat × Nat) := [(0, 124, 17), (0, 132, 0)]
def fp_X10_feed_124_x (q k : Nat) : Bool := pvfp fpL_X10_feed_124_x q k
set_option maxHeartbeats 4000000 in
set_option maxRecDepth 10000 in
theorem sf_X10_feed_124_x (M : pvM) (hok : pvOk M) (n1 : Int32) (d : Nat) : PW 20 d (0, [some (pvR 124), some (pvI n1)], [], M) (fun r X => (∃ x : Int32, r = some (pvI x) ∧ (-4) ≤ Int32.toInt x ∧ Int32.toInt x ≤ 100) ∧ pvOk X ∧ pvFr fp_X10_feed_124_x M X) := by
  have hT : pvdom 20 = pvD_20 := rfl
  refine pw_blk hT 4 (S' := (5, [some (pvR 124), some (pvI n1)], [pvI 127, pvI 0, pvI n1, pvR 124], M)) rfl ⟨trivial, trivial, trivial, trivial, trivial⟩ ?_
  refine pw_callT hT (as := [pvR 124, pvI n1, pvI 0, pvI 127]) (lo1 := [some (pvR 124), some (pvI n1), some (pvI 0), some (pvI 127)]) (d1 := d) (rest := []) rfl rfl rfl rfl rfl (fun _ => rfl) (Nat.zero_le _) rfl rfl rfl (sf_X10_in_124_x_x_x M hok n1 0 127 d) ?_
  by_cases c6_ : n1 < 0
  · refine pw_eqI (if_pos c6_) ?_
    have b7_ : (-2147483648) ≤ Int32.toInt n1 ∧ Int32.toInt n1 ≤ (-1) := zr_lt_l (-1) c6_ (zbnd n1) (show 0 ≤ Int32.toInt 0 ∧ Int32.toInt 0 ≤ 0 from (by decide)) (by decide)
    show PW 20 d (8, [some (pvR 124), some (pvI n1)], [pvI 0], M) _
    refine pw_ifn hT (c := 0 = 0) rfl rfl (fun c8_ => absurd (by decide) c8_) (fun c8_ => ?_)
    refine pw_blk hT 1 (S' := (13, [some (pvR 124), some (pvI n1)], [pvI (-2)], M)) rfl ⟨trivial, trivial⟩ ?_
    exact pw_ret hT rfl (r := some (pvI (-2))) (M' := M) ⟨rfl, rfl⟩ ⟨⟨_, rfl, (zr_wide (show (-2) ≤ Int32.toInt (-2) ∧ Int32.toInt (-2) ≤ (-2) from (by decide)) (by decide) (by decide))⟩, hok, pvfr_0⟩
  · refine pw_eqI (if_neg c6_) ?_
    have b9_ : 0 ≤ Int32.toInt n1 ∧ Int32.toInt n1 ≤ 2147483647 := zr_nlt_l 0 c6_ (zbnd n1) (show 0 ≤ Int32.toInt 0 ∧ Int32.toInt 0 ≤ 0 from (by decide)) (by decide)
    by_cases c10_ : 127 < n1
    · refine pw_eqI (if_pos c10_) ?_
      have b11_ : 128 ≤ Int32.toInt n1 ∧ Int32.toInt n1 ≤ 2147483647 := zr_lt_r 128 c10_ b9_ (show 127 ≤ Int32.toInt 127 ∧ Int32.toInt 127 ≤ 127 from (by decide)) (by decide)
      show PW 20 d (8, [some (pvR 124), some (pvI n1)], [pvI 0], M) _
      refine pw_ifn hT (c := 0 = 0) rfl rfl (fun c12_ => absurd (by decide) c12_) (fun c12_ => ?_)
      refine pw_blk hT 1 (S' := (13, [some (pvR 124), some (pvI n1)], [pvI (-2)], M)) rfl ⟨trivial, trivial⟩ ?_
      exact pw_ret hT rfl (r := some (pvI (-2))) (M' := M) ⟨rfl, rfl⟩ ⟨⟨_, rfl, (zr_wide (show (-2) ≤ Int32.toInt (-2) ∧ Int32.toInt (-2) ≤ (-2) from (by decide)) (by decide) (by decide))⟩, hok, pvfr_0⟩
    · refine pw_eqI (if_neg c10_) ?_
      have b13_ : 0 ≤ Int32.toInt n1 ∧ Int32.toInt n1 ≤ 127 := zr_nlt_r 127 c10_ b9_ (show 127 ≤ Int32.toInt 127 ∧ Int32.toInt 127 ≤ 127 from (by decide)) (by decide)
      show PW 20 d (8, [some (pvR 124), some (pvI n1)], [pvI 1], M) _
      refine pw_ifn hT (c := 1 = 0) rfl rfl (fun c14_ => ?_) (fun c14_ => absurd c14_ (by decide))
      have b15_ : 0 ≤ Int32.toInt (M.1 124 16) ∧ Int32.toInt (M.1 124 16) ≤ 100 := pvok_r hok 124 16 rfl
      refine pw_blk hT 3 (S' := (20, [some (pvR 124), some (pvI n1)], [pvI 100, pvI (M.1 124 16)], M)) rfl ⟨trivial, rfl, trivial, trivial⟩ ?_
      refine pw_icn hT (c := (M.1 124 16) = 100) rfl rfl (fun c16_ => ?_) (fun c16_ => ?_)
      · have b17_ : 0 ≤ Int32.toInt (M.1 124 16) ∧ Int32.toInt (M.1 124 16) ≤ 99 := (by have u0 := b15_; have u1 := (not_congr (zi_eq _ _)).mp c16_; have u2 := (show 100 ≤ Int32.toInt 100 ∧ Int32.toInt 100 ≤ 100 from (by decide)); omega)
        refine pw_blkw hT 6 (pc := 36) (lo := [some (pvR 124), some (pvI n1)]) (st := []) (M := pvu M 132 (Int32.toNatClampNeg (M.1 124 16)) n1) rfl ⟨trivial, rfl, trivial, rfl, trivial, ⟨rfl, (zr_in (n := 100) b17_ (by decide) (by decide))⟩, trivial⟩ (fun M18_ e19_ => ?_)
        have o20_ : pvOk M18_ := pvok_u2 e19_ hok rfl b13_
        have f21_ : pvFr fp_X10_feed_124_x M M18_ := pvfr_u e19_ pvfr_0 rfl
        have e22_ : (M18_.1 124 16) = (M.1 124 16) := (pvu_n e19_ 124 16 (Or.inl (by decide)))
        have b23_ : 0 ≤ Int32.toInt (M18_.1 124 16) ∧ Int32.toInt (M18_.1 124 16) ≤ 99 := (by rw [e22_]; exact b17_)
        obtain ⟨q25_, b24_⟩ : (Int32.toInt ((M18_.1 124 16) + 1) = Int32.toInt (M18_.1 124 16) + Int32.toInt 1) ∧ (1 ≤ Int32.toInt ((M18_.1 124 16) + 1) ∧ Int32.toInt ((M18_.1 124 16) + 1) ≤ 100) := zadd_r (M18_.1 124 16) 1 1 100 b23_ (show 1 ≤ Int32.toInt 1 ∧ Int32.toInt 1 ≤ 1 from (by decide)) (by decide) (by decide) (by decide) (by decide)
        have u26_ : Int32.toInt 1 = 1 := by decide
        refine pw_blkw hT 6 (pc := 46) (lo := [some (pvR 124), some (pvI n1)]) (st := []) (M := pvu M18_ 124 16 ((M18_.1 124 16) + 1)) rfl ⟨trivial, trivial, rfl, trivial, trivial, rfl, trivial⟩ (fun M27_ e28_ => ?_)
        have o29_ : pvOk M27_ := pvok_u2 e28_ o20_ rfl (zr_wide b24_ (by decide) (by decide))
        have f30_ : pvFr fp_X10_feed_124_x M M27_ := pvfr_u e28_ f21_ rfl
        have e31_ : (M27_.1 124 16) = ((M18_.1 124 16) + 1) := (pvu_s e28_)
        have b32_ : 1 ≤ Int32.toInt (M27_.1 124 16) ∧ Int32.toInt (M27_.1 124 16) ≤ 100 := (by rw [e31_]; exact b24_)
        refine pw_blk hT 2 (S' := (50, [some (pvR 124), some (pvI n1)], [pvI (M27_.1 124 16)], M27_)) rfl ⟨trivial, rfl, trivial⟩ ?_
        exact pw_ret hT rfl (r := some (pvI (M27_.1 124 16))) (M' := M27_) ⟨rfl, rfl⟩ ⟨⟨_, rfl, (zr_wide b32_ (by decide) (by decide))⟩, o29_, f30_⟩
      · have b33_ : 100 ≤ Int32.toInt (M.1 124 16) ∧ Int32.toInt (M.1 124 16) ≤ 100 := (by have u0 := b15_; have u1 := (zi_eq _ _).mp c16_; have u2 := (show 100 ≤ Int32.toInt 100 ∧ Int32.toInt 100 ≤ 100 from (by decide)); omega)
        refine pw_blk hT 1 (S' := (25, [some (pvR 124), some (pvI n1)], [pvI (-4)], M)) rfl ⟨trivial, trivial⟩ ?_
        exact pw_ret hT rfl (r := some (pvI (-4))) (M' := M) ⟨rfl, rfl⟩ ⟨⟨_, rfl, (zr_wide (show (-4) ≤ Int32.toInt (-4) ∧ Int32.toInt (-4) ≤ (-4) from (by decide)) (by decide) (by decide))⟩, hok, pvfr_0⟩
set_option maxHeartbeats 4000000 in
set_option maxRecDepth 10000 in
theorem sf_X10_harmOf_124_x (M : pvM) (hok : pvOk M) (n1 : Int32) (hn1 : 0 ≤ Int32.toInt n1 ∧ Int32.toInt n1 ≤ 6) (d : Nat) : PW 29 d (0, [some (pvR 124), some (pvI n1), none, none], [], M) (fun r X => (∃ x : Int32, r = some (pvI x) ∧ 0 ≤ Int32.toInt x ∧ Int32.toInt x ≤ 9000000) ∧ X = M) := by
  have hT : pvdom 29 = pvD_29 := rfl
  have b1_ : 0 ≤ Int32.toInt (M.1 124 1) ∧ Int32.toInt (M.1 124 1) ≤ 9999 := pvok_r hok 124 1 rfl
  have b2_ : 0 ≤ Int32.toInt (M.1 124 3) ∧ Int32.toInt (M.1 124 3) ≤ 108 := pvok_r hok 124 3 rfl
  refine pw_blk hT 6 (S' := (10, [some (pvR 124), some (pvI n1), some (pvI 0), none], [pvI (M.1 124 3), pvI (M.1 124 1)], M)) rfl ⟨trivial, trivial, trivial, rfl, trivial, rfl, trivial⟩ ?_
  refine pw_ic hT (c := (M.1 124 3) ≤ (M.1 124 1)) rfl rfl (fun c3_ => ?_) (fun c3_ => ?_)
  · have d4_ : Int32.toInt (M.1 124 3) ≤ Int32.toInt (M.1 124 1) := (zi_le _ _).mp c3_
    refine pw_blk hT 3 (S' := (25, [some (pvR 124), some (pvI n1), some (pvI 0), some (pvI (M.1 124 1))], [], M)) rfl ⟨trivial, rfl, trivial, trivial⟩ ?_
    have hlz72_ : ∀ (nz72_ : Nat) (i2z72_ : Int32) (i3z72_ : Int32), (0 ≤ Int32.toInt i2z72_ ∧ Int32.toInt i2z72_ ≤ 9000000) → (0 ≤ Int32.toInt i3z72_ ∧ Int32.toInt i3z72_ ≤ 9999) → (Int32.toInt i2z72_ ≤ 90000 * (Int32.toInt i3z72_ - Int32.toInt (M.1 124 3))) → (0 ≤ Int32.toInt i2z72_) → (Int32.toInt (M.1 124 3) ≤ Int32.toInt i3z72_) → (Int32.toInt i3z72_ ≤ Int32.toInt (M.1 124 3) + 99 ∨ Int32.toInt i2z72_ = 0) → ((10000 - Int32.toInt i3z72_).toNat < nz72_) → PW 29 d (25, [some (pvR 124), some (pvI n1), some (pvI i2z72_), some (pvI i3z72_)], [], M) (fun r X => (∃ x : Int32, r = some (pvI x) ∧ 0 ≤ Int32.toInt x ∧ Int32.toInt x ≤ 9000000) ∧ X = M) := by
      intro nz72_
      induction nz72_ with
      | zero => intro i2z72_ i3z72_ h2z72_ h3z72_ j0z72_ j1z72_ j2z72_ j3z72_ hmz72_; exact absurd hmz72_ (Nat.not_lt_zero _)
      | succ nz72_ ihz72_ =>
        intro i2z72_ i3z72_ h2z72_ h3z72_ j0z72_ j1z72_ j2z72_ j3z72_ hmz72_
        refine pw_blk hT 4 (S' := (31, [some (pvR 124), some (pvI n1), some (pvI i2z72_), some (pvI i3z72_)], [pvR 124, pvI (M.1 124 3), pvI i3z72_], M)) rfl ⟨trivial, trivial, rfl, trivial, trivial⟩ ?_
        refine pw_callGp hT (as := [pvR 124]) (lo1 := [some (pvR 124)]) (d1 := d) (rest := [pvI (M.1 124 3), pvI i3z72_]) rfl rfl rfl rfl rfl (fun _ => rfl) (Nat.zero_le _) rfl rfl rfl (sf_X10_lastNow_124 M hok d) (fun x73_ b75_ => ?_)
        obtain ⟨q79_, b78_⟩ : (Int32.toInt ((M.1 124 3) + x73_) = Int32.toInt (M.1 124 3) + Int32.toInt x73_) ∧ (0 ≤ Int32.toInt ((M.1 124 3) + x73_) ∧ Int32.toInt ((M.1 124 3) + x73_) ≤ 207) := zadd_r (M.1 124 3) x73_ 0 207 b2_ b75_ (by decide) (by decide) (by decide) (by decide)
        refine pw_blk hT 1 (S' := (35, [some (pvR 124), some (pvI n1), some (pvI i2z72_), some (pvI i3z72_)], [pvI ((M.1 124 3) + x73_), pvI i3z72_], M)) rfl ⟨trivial, trivial⟩ ?_
        refine pw_ic hT (c := ((M.1 124 3) + x73_) ≤ i3z72_) rfl rfl (fun c80_ => ?_) (fun c80_ => ?_)
        · have d81_ : Int32.toInt ((M.1 124 3) + x73_) ≤ Int32.toInt i3z72_ := (zi_le _ _).mp c80_
          refine pw_blk hT 1 (S' := (54, [some (pvR 124), some (pvI n1), some (pvI i2z72_), some (pvI i3z72_)], [pvI i2z72_], M)) rfl ⟨trivial, trivial⟩ ?_
          exact pw_ret hT rfl (r := some (pvI i2z72_)) (M' := M) ⟨rfl, rfl⟩ ⟨⟨_, rfl, h2z72_⟩, rfl⟩
        · have b82_ : 1 ≤ Int32.toInt ((M.1 124 3) + x73_) ∧ Int32.toInt ((M.1 124 3) + x73_) ≤ 207 := zr_nle_l 1 c80_ b78_ h3z72_ (by decide)
          have b83_ : 0 ≤ Int32.toInt i3z72_ ∧ Int32.toInt i3z72_ ≤ 206 := zr_nle_r 206 c80_ h3z72_ b82_ (by decide)
          have d84_ : Int32.toInt ((M.1 124 3) + x73_) > Int32.toInt i3z72_ := Int.not_le.mp ((not_congr (zi_le _ _)).mp c80_)
          refine pw_blk hT 4 (S' := (42, [some (pvR 124), some (pvI n1), some (pvI i2z72_), some (pvI i3z72_)], [pvI i3z72_, pvI n1, pvR 124, pvI i2z72_], M)) rfl ⟨trivial, trivial, trivial, trivial, trivial⟩ ?_
          refine pw_callGp hT (as := [pvR 124, pvI n1, pvI i3z72_]) (lo1 := [some (pvR 124), some (pvI n1), some (pvI i3z72_), none, none]) (d1 := d) (rest := [pvI i2z72_]) rfl rfl rfl rfl rfl (fun _ => rfl) (Nat.zero_le _) rfl rfl rfl (sf_X10_harm_124_x_x M hok n1 i3z72_ hn1 (zr_wide b83_ (by decide) (by decide)) d) (fun x85_ b87_ => ?_)
          obtain ⟨q91_, b90_⟩ : (Int32.toInt (i2z72_ + x85_) = Int32.toInt i2z72_ + Int32.toInt x85_) ∧ (0 ≤ Int32.toInt (i2z72_ + x85_) ∧ Int32.toInt (i2z72_ + x85_) ≤ 9012009) := zadd_r i2z72_ x85_ 0 9012009 h2z72_ b87_ (by decide) (by decide) (by decide) (by decide)
          obtain ⟨q93_, b92_⟩ : (Int32.toInt (i3z72_ + 1) = Int32.toInt i3z72_ + Int32.toInt 1) ∧ (1 ≤ Int32.toInt (i3z72_ + 1) ∧ Int32.toInt (i3z72_ + 1) ≤ 207) := zadd_r i3z72_ 1 1 207 b83_ (show 1 ≤ Int32.toInt 1 ∧ Int32.toInt 1 ≤ 1 from (by decide)) (by decide) (by decide) (by decide) (by decide)
          have u94_ : Int32.toInt 1 = 1 := by decide
          refine pw_blk hT 4 (S' := (25, [some (pvR 124), some (pvI n1), some (pvI (i2z72_ + x85_)), some (pvI (i3z72_ + 1))], [], M)) rfl ⟨trivial, trivial, trivial, trivial, trivial⟩ ?_
          have j95_ : Int32.toInt (i2z72_ + x85_) ≤ 90000 * (Int32.toInt (i3z72_ + 1) - Int32.toInt (M.1 124 3)) := by omega
          have j96_ : 0 ≤ Int32.toInt (i2z72_ + x85_) := by omega
          have j97_ : Int32.toInt (M.1 124 3) ≤ Int32.toInt (i3z72_ + 1) := by omega
          have j98_ : Int32.toInt (i3z72_ + 1) ≤ Int32.toInt (M.1 124 3) + 99 ∨ Int32.toInt (i2z72_ + x85_) = 0 := by omega
          exact ihz72_ (i2z72_ + x85_) (i3z72_ + 1) (by have u0 := b90_; omega) (zr_wide b92_ (by decide) (by decide)) j95_ j96_ j97_ j98_ (by omega)
    have u99_ : Int32.toInt 0 = 0 := by decide
    have j100_ : Int32.toInt 0 ≤ 90000 * (Int32.toInt (M.1 124 1) - Int32.toInt (M.1 124 3)) := by omega
    have j101_ : 0 ≤ Int32.toInt 0 := by omega
    have j102_ : Int32.toInt (M.1 124 3) ≤ Int32.toInt (M.1 124 1) := by omega
    have j103_ : Int32.toInt (M.1 124 1) ≤ Int32.toInt (M.1 124 3) + 99 ∨ Int32.toInt 0 = 0 := by omega
    exact hlz72_ _ 0 (M.1 124 1) (zr_wide (show 0 ≤ Int32.toInt 0 ∧ Int32.toInt 0 ≤ 0 from (by decide)) (by decide) (by decide)) b1_ j100_ j101_ j102_ j103_ (Nat.lt_succ_self _)
  · have b104_ : 1 ≤ Int32.toInt (M.1 124 3) ∧ Int32.toInt (M.1 124 3) ≤ 108 := zr_nle_l 1 c3_ b2_ b1_ (by decide)
    have b105_ : 0 ≤ Int32.toInt (M.1 124 1) ∧ Int32.toInt (M.1 124 1) ≤ 107 := zr_nle_r 107 c3_ b1_ b104_ (by decide)
    have d106_ : Int32.toInt (M.1 124 3) > Int32.toInt (M.1 124 1) := Int.not_le.mp ((not_congr (zi_le _ _)).mp c3_)
    refine pw_blk hT 4 (S' := (25, [some (pvR 124), some (pvI n1), some (pvI 0), some (pvI (M.1 124 3))], [], M)) rfl ⟨trivial, rfl, trivial, trivial, trivial⟩ ?_
    have hlz174_ : ∀ (nz174_ : Nat) (i2z174_ : Int32) (i3z174_ : Int32), (0 ≤ Int32.toInt i2z174_ ∧ Int32.toInt i2z174_ ≤ 9000000) → (1 ≤ Int32.toInt i3z174_ ∧ Int32.toInt i3z174_ ≤ 207) → (Int32.toInt i2z174_ ≤ 90000 * (Int32.toInt i3z174_ - Int32.toInt (M.1 124 3))) → (0 ≤ Int32.toInt i2z174_) → (Int32.toInt (M.1 124 3) ≤ Int32.toInt i3z174_) → (Int32.toInt i3z174_ ≤ Int32.toInt (M.1 124 3) + 99 ∨ Int32.toInt i2z174_ = 0) → ((208 - Int32.toInt i3z174_).toNat < nz174_) → PW 29 d (25, [some (pvR 124), some (pvI n1), some (pvI i2z174_), some (pvI i3z174_)], [], M) (fun r X => (∃ x : Int32, r = some (pvI x) ∧ 0 ≤ Int32.toInt x ∧ Int32.toInt x ≤ 9000000) ∧ X = M) := by
      intro nz174_
      induction nz174_ with
      | zero => intro i2z174_ i3z174_ h2z174_ h3z174_ j0z174_ j1z174_ j2z174_ j3z174_ hmz174_; exact absurd hmz174_ (Nat.not_lt_zero _)
      | succ nz174_ ihz174_ =>
        intro i2z174_ i3z174_ h2z174_ h3z174_ j0z174_ j1z174_ j2z174_ j3z174_ hmz174_
        refine pw_blk hT 4 (S' := (31, [some (pvR 124), some (pvI n1), some (pvI i2z174_), some (pvI i3z174_)], [pvR 124, pvI (M.1 124 3), pvI i3z174_], M)) rfl ⟨trivial, trivial, rfl, trivial, trivial⟩ ?_
        refine pw_callGp hT (as := [pvR 124]) (lo1 := [some (pvR 124)]) (d1 := d) (rest := [pvI (M.1 124 3), pvI i3z174_]) rfl rfl rfl rfl rfl (fun _ => rfl) (Nat.zero_le _) rfl rfl rfl (sf_X10_lastNow_124 M hok d) (fun x175_ b177_ => ?_)
        obtain ⟨q181_, b180_⟩ : (Int32.toInt ((M.1 124 3) + x175_) = Int32.toInt (M.1 124 3) + Int32.toInt x175_) ∧ (1 ≤ Int32.toInt ((M.1 124 3) + x175_) ∧ Int32.toInt ((M.1 124 3) + x175_) ≤ 207) := zadd_r (M.1 124 3) x175_ 1 207 b104_ b177_ (by decide) (by decide) (by decide) (by decide)
        refine pw_blk hT 1 (S' := (35, [some (pvR 124), some (pvI n1), some (pvI i2z174_), some (pvI i3z174_)], [pvI ((M.1 124 3) + x175_), pvI i3z174_], M)) rfl ⟨trivial, trivial⟩ ?_
        refine pw_ic hT (c := ((M.1 124 3) + x175_) ≤ i3z174_) rfl rfl (fun c182_ => ?_) (fun c182_ => ?_)
        · have d183_ : Int32.toInt ((M.1 124 3) + x175_) ≤ Int32.toInt i3z174_ := (zi_le _ _).mp c182_
          refine pw_blk hT 1 (S' := (54, [some (pvR 124), some (pvI n1), some (pvI i2z174_), some (pvI i3z174_)], [pvI i2z174_], M)) rfl ⟨trivial, trivial⟩ ?_
          exact pw_ret hT rfl (r := some (pvI i2z174_)) (M' := M) ⟨rfl, rfl⟩ ⟨⟨_, rfl, h2z174_⟩, rfl⟩
        · have b184_ : 2 ≤ Int32.toInt ((M.1 124 3) + x175_) ∧ Int32.toInt ((M.1 124 3) + x175_) ≤ 207 := zr_nle_l 2 c182_ b180_ h3z174_ (by decide)
          have b185_ : 1 ≤ Int32.toInt i3z174_ ∧ Int32.toInt i3z174_ ≤ 206 := zr_nle_r 206 c182_ h3z174_ b184_ (by decide)
          have d186_ : Int32.toInt ((M.1 124 3) + x175_) > Int32.toInt i3z174_ := Int.not_le.mp ((not_congr (zi_le _ _)).mp c182_)
          refine pw_blk hT 4 (S' := (42, [some (pvR 124), some (pvI n1), some (pvI i2z174_), some (pvI i3z174_)], [pvI i3z174_, pvI n1, pvR 124, pvI i2z174_], M)) rfl ⟨trivial, trivial, trivial, trivial, trivial⟩ ?_
          refine pw_callGp hT (as := [pvR 124, pvI n1, pvI i3z174_]) (lo1 := [some (pvR 124), some (pvI n1), some (pvI i3z174_), none, none]) (d1 := d) (rest := [pvI i2z174_]) rfl rfl rfl rfl rfl (fun _ => rfl) (Nat.zero_le _) rfl rfl rfl (sf_X10_harm_124_x_x M hok n1 i3z174_ hn1 (zr_wide b185_ (by decide) (by decide)) d) (fun x187_ b189_ => ?_)
          obtain ⟨q193_, b192_⟩ : (Int32.toInt (i2z174_ + x187_) = Int32.toInt i2z174_ + Int32.toInt x187_) ∧ (0 ≤ Int32.toInt (i2z174_ + x187_) ∧ Int32.toInt (i2z174_ + x187_) ≤ 9012009) := zadd_r i2z174_ x187_ 0 9012009 h2z174_ b189_ (by decide) (by decide) (by decide) (by decide)
          obtain ⟨q195_, b194_⟩ : (Int32.toInt (i3z174_ + 1) = Int32.toInt i3z174_ + Int32.toInt 1) ∧ (2 ≤ Int32.toInt (i3z174_ + 1) ∧ Int32.toInt (i3z174_ + 1) ≤ 207) := zadd_r i3z174_ 1 2 207 b185_ (show 1 ≤ Int32.toInt 1 ∧ Int32.toInt 1 ≤ 1 from (by decide)) (by decide) (by decide) (by decide) (by decide)
          have u196_ : Int32.toInt 1 = 1 := by decide
          refine pw_blk hT 4 (S' := (25, [some (pvR 124), some (pvI n1), some (pvI (i2z174_ + x187_)), some (pvI (i3z174_ + 1))], [], M)) rfl ⟨trivial, trivial, trivial, trivial, trivial⟩ ?_
          have j197_ : Int32.toInt (i2z174_ + x187_) ≤ 90000 * (Int32.toInt (i3z174_ + 1) - Int32.toInt (M.1 124 3)) := by omega
          have j198_ : 0 ≤ Int32.toInt (i2z174_ + x187_) := by omega
          have j199_ : Int32.toInt (M.1 124 3) ≤ Int32.toInt (i3z174_ + 1) := by omega
          have j200_ : Int32.toInt (i3z174_ + 1) ≤ Int32.toInt (M.1 124 3) + 99 ∨ Int32.toInt (i2z174_ + x187_) = 0 := by omega
          exact ihz174_ (i2z174_ + x187_) (i3z174_ + 1) (by have u0 := b192_; omega) (zr_wide b194_ (by decide) (by decide)) j197_ j198_ j199_ j200_ (by omega)
    have u201_ : Int32.toInt 0 = 0 := by decide
    have j202_ : Int32.toInt 0 ≤ 90000 * (Int32.toInt (M.1 124 3) - Int32.toInt (M.1 124 3)) := by omega
    have j203_ : 0 ≤ Int32.toInt 0 := by omega
    have j204_ : Int32.toInt (M.1 124 3) ≤ Int32.toInt (M.1 124 3) := by omega
    have j205_ : Int32.toInt (M.1 124 3) ≤ Int32.toInt (M.1 124 3) + 99 ∨ Int32.toInt 0 = 0 := by omega
    exact hlz174_ _ 0 (M.1 124 3) (zr_wide (show 0 ≤ Int32.toInt 0 ∧ Int32.toInt 0 ≤ 0 from (by decide)) (by decide) (by decide)) (zr_wide b104_ (by decide) (by decide)) j202_ j203_ j204_ j205_ (Nat.lt_succ_self _)
def fpL_X10_from_124 : List (Nat × Nat × Nat) := [(0, 124, 33), (0, 124, 5), (0, 141, 0), (0, 142, 0), (0, 143, 0)]
def fp_X10_from_124 (q k : Nat) : Bool := pvfp fpL_X10_from_124 q k
theorem fp_X10_from_124_fp_X10_layOpen_124 (a b : Nat) (h : fp_X10_layOpen_124 a b = true) : fp_X10_from_124 a b = true := pvfp_sub (l1 := fpL_X10_layOpen_124) (l2 := fpL_X10_from_124) (by decide) a b h
theorem fp_X10_from_124_fp_X10_layRain_124 (a b : Nat) (h : fp_X10_layRain_124 a b = true) : fp_X10_from_124 a b = true := pvfp_sub (l1 := fpL_X10_layRain_124) (l2 := fpL_X10_from_124) (by decide) a b h
set_option maxHeartbeats 4000000 in
set_option maxRecDepth 10000 in
theorem sf_X10_from_124 (M : pvM) (hok : pvOk M) (d : Nat) : PW 22 d (0, [some (pvR 124), none, none, none, none], [], M) (fun r X => (∃ x : Int32, r = some (pvI x) ∧ True) ∧ pvOk X ∧ pvFr fp_X10_from_124 M X) := by
  have hT : pvdom 22 = pvD_22 := rfl
  have b1_ : 0 ≤ Int32.toInt (M.1 124 4) ∧ Int32.toInt (M.1 124 4) ≤ 4 := pvok_r hok 124 4 rfl
  refine pw_blk hT 6 (S' := (8, [some (pvR 124), some (pvI (M.1 124 4)), some (pvI 0), none, none], [pvR 124], M)) rfl ⟨trivial, rfl, trivial, trivial, trivial, trivial, trivial⟩ ?_
  refine pw_callV hT (as := [pvR 124]) (lo1 := [some (pvR 124), none]) (d1 := d) (rest := []) rfl rfl rfl rfl rfl (fun _ => rfl) (Nat.zero_le _) rfl rfl rfl (sf_X10_layOpen_124 M hok d) (fun M3_ o5_ g6_ => ?_)
  have f7_ : pvFr fp_X10_from_124 M M3_ := pvfr_t g6_ pvfr_0 fp_X10_from_124_fp_X10_layOpen_124
  refine pw_blkw hT 3 (pc := 16) (lo := [some (pvR 124), some (pvI (M.1 124 4)), some (pvI 0), none, none]) (st := []) (M := pvu M3_ 124 4 0) rfl ⟨trivial, trivial, rfl, trivial⟩ (fun M8_ e9_ => ?_)
  have o10_ : pvOk M8_ := pvok_u2 e9_ o5_ rfl (zr_wide (show 0 ≤ Int32.toInt 0 ∧ Int32.toInt 0 ≤ 0 from (by decide)) (by decide) (by decide))
  have f11_ : pvFr fp_X10_from_124 M M8_ := pvfr_u e9_ f7_ rfl
  have hlz607_ : ∀ (nz607_ : Nat) (i2z607_ : Int32) (v3z607_ : Option pvV) (v4z607_ : Option pvV) (Mz607_ : pvM), (pvOk Mz607_) → (pvFr fp_X10_from_124 M Mz607_) → ((5 - Int32.toInt (Mz607_.1 124 4)).toNat < nz607_) → PW 22 d (16, [some (pvR 124), some (pvI (M.1 124 4)), some (pvI i2z607_), v3z607_, v4z607_], [], Mz607_) (fun r X => (∃ x : Int32, r = some (pvI x) ∧ True) ∧ pvOk X ∧ pvFr fp_X10_from_124 M X) := by
    intro nz607_
    induction nz607_ with
    | zero => intro i2z607_ v3z607_ v4z607_ Mz607_ oz607_ fz607_ hmz607_; exact absurd hmz607_ (Nat.not_lt_zero _)
    | succ nz607_ ihz607_ =>
      intro i2z607_ v3z607_ v4z607_ Mz607_ oz607_ fz607_ hmz607_
      have b608_ : 0 ≤ Int32.toInt (Mz607_.1 124 4) ∧ Int32.toInt (Mz607_.1 124 4) ≤ 4 := pvok_r oz607_ 124 4 rfl
      refine pw_blk hT 3 (S' := (21, [some (pvR 124), some (pvI (M.1 124 4)), some (pvI i2z607_), v3z607_, v4z607_], [pvI 4, pvI (Mz607_.1 124 4)], Mz607_)) rfl ⟨trivial, rfl, trivial, trivial⟩ ?_
      refine pw_ic hT (c := 4 ≤ (Mz607_.1 124 4)) rfl rfl (fun c609_ => ?_) (fun c609_ => ?_)
      · have b610_ : 4 ≤ Int32.toInt (Mz607_.1 124 4) ∧ Int32.toInt (Mz607_.1 124 4) ≤ 4 := zr_le_r 4 c609_ b608_ (show 4 ≤ Int32.toInt 4 ∧ Int32.toInt 4 ≤ 4 from (by decide)) (by decide)
        refine pw_blkw hT 3 (pc := 114) (lo := [some (pvR 124), some (pvI (M.1 124 4)), some (pvI i2z607_), v3z607_, v4z607_]) (st := []) (M := pvu Mz607_ 124 4 (M.1 124 4)) rfl ⟨trivial, trivial, rfl, trivial⟩ (fun M611_ e612_ => ?_)
        have o613_ : pvOk M611_ := pvok_u2 e612_ oz607_ rfl b1_
        have f614_ : pvFr fp_X10_from_124 M M611_ := pvfr_u e612_ fz607_ rfl
        refine pw_blk hT 1 (S' := (115, [some (pvR 124), some (pvI (M.1 124 4)), some (pvI i2z607_), v3z607_, v4z607_], [pvI i2z607_], M611_)) rfl ⟨trivial, trivial⟩ ?_
        exact pw_ret hT rfl (r := some (pvI i2z607_)) (M' := M611_) ⟨rfl, rfl⟩ ⟨⟨_, rfl, trivial⟩, o613_, f614_⟩
      · have b615_ : 0 ≤ Int32.toInt (Mz607_.1 124 4) ∧ Int32.toInt (Mz607_.1 124 4) ≤ 3 := zr_nle_r 3 c609_ b608_ (show 4 ≤ Int32.toInt 4 ∧ Int32.toInt 4 ≤ 4 from (by decide)) (by decide)
        refine pw_blk hT 1 (S' := (25, [some (pvR 124), some (pvI (M.1 124 4)), some (pvI i2z607_), v3z607_, v4z607_], [pvR 124], Mz607_)) rfl ⟨trivial, trivial⟩ ?_
        refine pw_callV hT (as := [pvR 124]) (lo1 := [some (pvR 124), none, none]) (d1 := d) (rest := []) rfl rfl rfl rfl rfl (fun _ => rfl) (Nat.zero_le _) rfl rfl rfl (sf_X10_layRain_124 Mz607_ oz607_ d) (fun M617_ o619_ g620_ => ?_)
        have f621_ : pvFr fp_X10_from_124 M M617_ := pvfr_t g620_ fz607_ fp_X10_from_124_fp_X10_layRain_124
        refine pw_blk hT 4 (S' := (33, [some (pvR 124), some (pvI (M.1 124 4)), some (pvI i2z607_), some (pvI 1), some (pvI 0)], [], M617_)) rfl ⟨trivial, trivial, trivial, trivial, trivial⟩ ?_
        have e622_ : (M617_.1 124 4) = (Mz607_.1 124 4) := (g620_ 124 4 rfl)
        have b623_ : 0 ≤ Int32.toInt (M617_.1 124 4) ∧ Int32.toInt (M617_.1 124 4) ≤ 3 := (by rw [e622_]; exact b615_)
        have hlz756_ : ∀ (nz756_ : Nat) (i3z756_ : Int32) (i4z756_ : Int32), (0 ≤ Int32.toInt i3z756_ ∧ Int32.toInt i3z756_ ≤ 1) → (0 ≤ Int32.toInt i4z756_ ∧ Int32.toInt i4z756_ ≤ 6) → ((7 - Int32.toInt i4z756_).toNat < nz756_) → PW 22 d (33, [some (pvR 124), some (pvI (M.1 124 4)), some (pvI i2z607_), some (pvI i3z756_), some (pvI i4z756_)], [], M617_) (fun r X => (∃ x : Int32, r = some (pvI x) ∧ True) ∧ pvOk X ∧ pvFr fp_X10_from_124 M X) := by
          intro nz756_
          induction nz756_ with
          | zero => intro i3z756_ i4z756_ h3z756_ h4z756_ hmz756_; exact absurd hmz756_ (Nat.not_lt_zero _)
          | succ nz756_ ihz756_ =>
            intro i3z756_ i4z756_ h3z756_ h4z756_ hmz756_
            have b757_ : 0 ≤ Int32.toInt (M617_.1 124 40) ∧ Int32.toInt (M617_.1 124 40) ≤ 6 := pvok_r o619_ 124 40 rfl
            refine pw_blk hT 3 (S' := (39, [some (pvR 124), some (pvI (M.1 124 4)), some (pvI i2z607_), some (pvI i3z756_), some (pvI i4z756_)], [pvI (M617_.1 124 40), pvI i4z756_], M617_)) rfl ⟨trivial, trivial, rfl, trivial⟩ ?_
            refine pw_ic hT (c := (M617_.1 124 40) ≤ i4z756_) rfl rfl (fun c758_ => ?_) (fun c758_ => ?_)
            · have d759_ : Int32.toInt (M617_.1 124 40) ≤ Int32.toInt i4z756_ := (zi_le _ _).mp c758_
              refine pw_blk hT 2 (S' := (81, [some (pvR 124), some (pvI (M.1 124 4)), some (pvI i2z607_), some (pvI i3z756_), some (pvI i4z756_)], [pvI i3z756_, pvI i2z607_], M617_)) rfl ⟨trivial, trivial, trivial⟩ ?_
              refine pw_if hT (c := i3z756_ = 0) rfl rfl (fun c760_ => ?_) (fun c760_ => ?_)
              · have b761_ : 0 ≤ Int32.toInt i3z756_ ∧ Int32.toInt i3z756_ ≤ 0 := (by have u0 := h3z756_; have u1 := (zi_eq _ _).mp c760_; have u2 := (show 0 ≤ Int32.toInt 0 ∧ Int32.toInt 0 ≤ 0 from (by decide)); omega)
                obtain ⟨q763_, b762_⟩ : (Int32.toInt ((M617_.1 124 4) + 1) = Int32.toInt (M617_.1 124 4) + Int32.toInt 1) ∧ (1 ≤ Int32.toInt ((M617_.1 124 4) + 1) ∧ Int32.toInt ((M617_.1 124 4) + 1) ≤ 4) := zadd_r (M617_.1 124 4) 1 1 4 b623_ (show 1 ≤ Int32.toInt 1 ∧ Int32.toInt 1 ≤ 1 from (by decide)) (by decide) (by decide) (by decide) (by decide)
                have u764_ : Int32.toInt 1 = 1 := by decide
                refine pw_blkw hT 9 (pc := 106) (lo := [some (pvR 124), some (pvI (M.1 124 4)), some (pvI (i2z607_ ||| 0)), some (pvI i3z756_), some (pvI i4z756_)]) (st := []) (M := pvu M617_ 124 4 ((M617_.1 124 4) + 1)) rfl ⟨trivial, trivial, trivial, trivial, trivial, rfl, trivial, trivial, rfl, trivial⟩ (fun M765_ e766_ => ?_)
                have o767_ : pvOk M765_ := pvok_u2 e766_ o619_ rfl (zr_wide b762_ (by decide) (by decide))
                have f768_ : pvFr fp_X10_from_124 M M765_ := pvfr_u e766_ f621_ rfl
                refine pw_blk hT 1 (S' := (16, [some (pvR 124), some (pvI (M.1 124 4)), some (pvI (i2z607_ ||| 0)), some (pvI i3z756_), some (pvI i4z756_)], [], M765_)) rfl ⟨trivial, trivial⟩ ?_
                exact ihz607_ (i2z607_ ||| 0) (some (pvI i3z756_)) (some (pvI i4z756_)) M765_ o767_ f768_ (by have z1 : Int32.toInt (M765_.1 124 4) = Int32.toInt ((M617_.1 124 4) + 1) := congrArg Int32.toInt (pvu_s e766_); have z2 : Int32.toInt (M617_.1 124 4) = Int32.toInt (Mz607_.1 124 4) := congrArg Int32.toInt (g620_ 124 4 rfl); omega)
              · have b769_ : 1 ≤ Int32.toInt i3z756_ ∧ Int32.toInt i3z756_ ≤ 1 := (by have u0 := h3z756_; have u1 := (not_congr (zi_eq _ _)).mp c760_; have u2 := (show 0 ≤ Int32.toInt 0 ∧ Int32.toInt 0 ≤ 0 from (by decide)); omega)
                obtain ⟨q771_, b770_⟩ : (Int32.toInt ((M617_.1 124 4) + 1) = Int32.toInt (M617_.1 124 4) + Int32.toInt 1) ∧ (1 ≤ Int32.toInt ((M617_.1 124 4) + 1) ∧ Int32.toInt ((M617_.1 124 4) + 1) ≤ 4) := zadd_r (M617_.1 124 4) 1 1 4 b623_ (show 1 ≤ Int32.toInt 1 ∧ Int32.toInt 1 ≤ 1 from (by decide)) (by decide) (by decide) (by decide) (by decide)
                have u772_ : Int32.toInt 1 = 1 := by decide
                refine pw_blkw hT 13 (pc := 106) (lo := [some (pvR 124), some (pvI (M.1 124 4)), some (pvI (i2z607_ ||| (1 <<< ((M617_.1 124 4) &&& 31)))), some (pvI i3z756_), some (pvI i4z756_)]) (st := []) (M := pvu M617_ 124 4 ((M617_.1 124 4) + 1)) rfl ⟨trivial, trivial, rfl, trivial, trivial, trivial, trivial, trivial, trivial, rfl, trivial, trivial, rfl, trivial⟩ (fun M773_ e774_ => ?_)
                have o775_ : pvOk M773_ := pvok_u2 e774_ o619_ rfl (zr_wide b770_ (by decide) (by decide))
                have f776_ : pvFr fp_X10_from_124 M M773_ := pvfr_u e774_ f621_ rfl
                refine pw_blk hT 1 (S' := (16, [some (pvR 124), some (pvI (M.1 124 4)), some (pvI (i2z607_ ||| (1 <<< ((M617_.1 124 4) &&& 31)))), some (pvI i3z756_), some (pvI i4z756_)], [], M773_)) rfl ⟨trivial, trivial⟩ ?_
                exact ihz607_ (i2z607_ ||| (1 <<< ((M617_.1 124 4) &&& 31))) (some (pvI i3z756_)) (some (pvI i4z756_)) M773_ o775_ f776_ (by have z1 : Int32.toInt (M773_.1 124 4) = Int32.toInt ((M617_.1 124 4) + 1) := congrArg Int32.toInt (pvu_s e774_); have z2 : Int32.toInt (M617_.1 124 4) = Int32.toInt (Mz607_.1 124 4) := congrArg Int32.toInt (g620_ 124 4 rfl); omega)
            · have b777_ : 1 ≤ Int32.toInt (M617_.1 124 40) ∧ Int32.toInt (M617_.1 124 40) ≤ 6 := zr_nle_l 1 c758_ b757_ h4z756_ (by decide)
              have b778_ : 0 ≤ Int32.toInt i4z756_ ∧ Int32.toInt i4z756_ ≤ 5 := zr_nle_r 5 c758_ h4z756_ b777_ (by decide)
              have d779_ : Int32.toInt (M617_.1 124 40) > Int32.toInt i4z756_ := Int.not_le.mp ((not_congr (zi_le _ _)).mp c758_)
              refine pw_blk hT 1 (S' := (43, [some (pvR 124), some (pvI (M.1 124 4)), some (pvI i2z607_), some (pvI i3z756_), some (pvI i4z756_)], [pvI i3z756_], M617_)) rfl ⟨trivial, trivial⟩ ?_
              refine pw_if hT (c := i3z756_ = 0) rfl rfl (fun c780_ => ?_) (fun c780_ => ?_)
              · have b781_ : 0 ≤ Int32.toInt i3z756_ ∧ Int32.toInt i3z756_ ≤ 0 := (by have u0 := h3z756_; have u1 := (zi_eq _ _).mp c780_; have u2 := (show 0 ≤ Int32.toInt 0 ∧ Int32.toInt 0 ≤ 0 from (by decide)); omega)
                refine pw_blk hT 2 (S' := (81, [some (pvR 124), some (pvI (M.1 124 4)), some (pvI i2z607_), some (pvI i3z756_), some (pvI i4z756_)], [pvI i3z756_, pvI i2z607_], M617_)) rfl ⟨trivial, trivial, trivial⟩ ?_
                refine pw_if hT (c := i3z756_ = 0) rfl rfl (fun c782_ => ?_) (fun c782_ => absurd c780_ c782_)
                obtain ⟨q784_, b783_⟩ : (Int32.toInt ((M617_.1 124 4) + 1) = Int32.toInt (M617_.1 124 4) + Int32.toInt 1) ∧ (1 ≤ Int32.toInt ((M617_.1 124 4) + 1) ∧ Int32.toInt ((M617_.1 124 4) + 1) ≤ 4) := zadd_r (M617_.1 124 4) 1 1 4 b623_ (show 1 ≤ Int32.toInt 1 ∧ Int32.toInt 1 ≤ 1 from (by decide)) (by decide) (by decide) (by decide) (by decide)
                have u785_ : Int32.toInt 1 = 1 := by decide
                refine pw_blkw hT 9 (pc := 106) (lo := [some (pvR 124), some (pvI (M.1 124 4)), some (pvI (i2z607_ ||| 0)), some (pvI i3z756_), some (pvI i4z756_)]) (st := []) (M := pvu M617_ 124 4 ((M617_.1 124 4) + 1)) rfl ⟨trivial, trivial, trivial, trivial, trivial, rfl, trivial, trivial, rfl, trivial⟩ (fun M786_ e787_ => ?_)
                have o788_ : pvOk M786_ := pvok_u2 e787_ o619_ rfl (zr_wide b783_ (by decide) (by decide))
                have f789_ : pvFr fp_X10_from_124 M M786_ := pvfr_u e787_ f621_ rfl
                refine pw_blk hT 1 (S' := (16, [some (pvR 124), some (pvI (M.1 124 4)), some (pvI (i2z607_ ||| 0)), some (pvI i3z756_), some (pvI i4z756_)], [], M786_)) rfl ⟨trivial, trivial⟩ ?_
                exact ihz607_ (i2z607_ ||| 0) (some (pvI i3z756_)) (some (pvI i4z756_)) M786_ o788_ f789_ (by have z1 : Int32.toInt (M786_.1 124 4) = Int32.toInt ((M617_.1 124 4) + 1) := congrArg Int32.toInt (pvu_s e787_); have z2 : Int32.toInt (M617_.1 124 4) = Int32.toInt (Mz607_.1 124 4) := congrArg Int32.toInt (g620_ 124 4 rfl); omega)
              · have b790_ : 1 ≤ Int32.toInt i3z756_ ∧ Int32.toInt i3z756_ ≤ 1 := (by have u0 := h3z756_; have u1 := (not_congr (zi_eq _ _)).mp c780_; have u2 := (show 0 ≤ Int32.toInt 0 ∧ Int32.toInt 0 ≤ 0 from (by decide)); omega)
                have b791_ : 0 ≤ Int32.toInt (M617_.1 147 (Int32.toNatClampNeg i4z756_)) ∧ Int32.toInt (M617_.1 147 (Int32.toNatClampNeg i4z756_)) ≤ 6 := pvok_r o619_ 147 (Int32.toNatClampNeg i4z756_) rfl
                refine pw_blk hT 5 (S' := (54, [some (pvR 124), some (pvI (M.1 124 4)), some (pvI i2z607_), some (pvI i3z756_), some (pvI i4z756_)], [pvI (M617_.1 147 (Int32.toNatClampNeg i4z756_)), pvR 124], M617_)) rfl ⟨trivial, trivial, rfl, trivial, ⟨rfl, (zr_in (n := 6) b778_ (by decide) (by decide))⟩, trivial⟩ ?_
                refine pw_callGp hT (as := [pvR 124, pvI (M617_.1 147 (Int32.toNatClampNeg i4z756_))]) (lo1 := [some (pvR 124), some (pvI (M617_.1 147 (Int32.toNatClampNeg i4z756_))), none, none]) (d1 := d) (rest := []) rfl rfl rfl rfl rfl (fun _ => rfl) (Nat.zero_le _) rfl rfl rfl (sf_X10_harmOf_124_x M617_ o619_ (M617_.1 147 (Int32.toNatClampNeg i4z756_)) b791_ d) (fun x792_ b794_ => ?_)
                have b797_ : 0 ≤ Int32.toInt (M617_.1 148 (Int32.toNatClampNeg i4z756_)) ∧ Int32.toInt (M617_.1 148 (Int32.toNatClampNeg i4z756_)) ≤ 9999 := pvok_r o619_ 148 (Int32.toNatClampNeg i4z756_) rfl
                refine pw_blk hT 4 (S' := (64, [some (pvR 124), some (pvI (M.1 124 4)), some (pvI i2z607_), some (pvI i3z756_), some (pvI i4z756_)], [pvI (M617_.1 148 (Int32.toNatClampNeg i4z756_)), pvI x792_], M617_)) rfl ⟨trivial, rfl, trivial, ⟨rfl, (zr_in (n := 6) b778_ (by decide) (by decide))⟩, trivial⟩ ?_
                refine pw_icn hT (c := x792_ = (M617_.1 148 (Int32.toNatClampNeg i4z756_))) rfl rfl (fun c798_ => ?_) (fun c798_ => ?_)
                · obtain ⟨q800_, b799_⟩ : (Int32.toInt (i4z756_ + 1) = Int32.toInt i4z756_ + Int32.toInt 1) ∧ (1 ≤ Int32.toInt (i4z756_ + 1) ∧ Int32.toInt (i4z756_ + 1) ≤ 6) := zadd_r i4z756_ 1 1 6 b778_ (show 1 ≤ Int32.toInt 1 ∧ Int32.toInt 1 ≤ 1 from (by decide)) (by decide) (by decide) (by decide) (by decide)
                  have u801_ : Int32.toInt 1 = 1 := by decide
                  refine pw_blk hT 4 (S' := (33, [some (pvR 124), some (pvI (M.1 124 4)), some (pvI i2z607_), some (pvI 0), some (pvI (i4z756_ + 1))], [], M617_)) rfl ⟨trivial, trivial, trivial, trivial, trivial⟩ ?_
                  exact ihz756_ 0 (i4z756_ + 1) (zr_wide (show 0 ≤ Int32.toInt 0 ∧ Int32.toInt 0 ≤ 0 from (by decide)) (by decide) (by decide)) (zr_wide b799_ (by decide) (by decide)) (by omega)
                · have b802_ : 0 ≤ Int32.toInt x792_ ∧ Int32.toInt x792_ ≤ 9999 := (by have u0 := b794_; have u1 := (zi_eq _ _).mp c798_; have u2 := b797_; omega)
                  have d803_ : Int32.toInt x792_ = Int32.toInt (M617_.1 148 (Int32.toNatClampNeg i4z756_)) := (zi_eq _ _).mp c798_
                  obtain ⟨q805_, b804_⟩ : (Int32.toInt (i4z756_ + 1) = Int32.toInt i4z756_ + Int32.toInt 1) ∧ (1 ≤ Int32.toInt (i4z756_ + 1) ∧ Int32.toInt (i4z756_ + 1) ≤ 6) := zadd_r i4z756_ 1 1 6 b778_ (show 1 ≤ Int32.toInt 1 ∧ Int32.toInt 1 ≤ 1 from (by decide)) (by decide) (by decide) (by decide) (by decide)
                  have u806_ : Int32.toInt 1 = 1 := by decide
                  refine pw_blk hT 5 (S' := (33, [some (pvR 124), some (pvI (M.1 124 4)), some (pvI i2z607_), some (pvI 1), some (pvI (i4z756_ + 1))], [], M617_)) rfl ⟨trivial, trivial, trivial, trivial, trivial, trivial⟩ ?_
                  exact ihz756_ 1 (i4z756_ + 1) (zr_wide (show 1 ≤ Int32.toInt 1 ∧ Int32.toInt 1 ≤ 1 from (by decide)) (by decide) (by decide)) (zr_wide b804_ (by decide) (by decide)) (by omega)
        exact hlz756_ _ 1 0 (zr_wide (show 1 ≤ Int32.toInt 1 ∧ Int32.toInt 1 ≤ 1 from (by decide)) (by decide) (by decide)) (zr_wide (show 0 ≤ Int32.toInt 0 ∧ Int32.toInt 0 ≤ 0 from (by decide)) (by decide) (by decide)) (Nat.lt_succ_self _)
  exact hlz607_ _ 0 none none M8_ o10_ f11_ (Nat.lt_succ_self _)
def fpL_X10_goMinutes_124_x : List (Nat × Nat × Nat) := [(0, 124, 2), (0, 124, 3), (0, 124, 33), (0, 141, 0), (0, 142, 0), (0, 143, 0)]
def fp_X10_goMinutes_124_x (q k : Nat) : Bool := pvfp fpL_X10_goMinutes_124_x q k
theorem fp_X10_goMinutes_124_x_fp_X10_layOpen_124 (a b : Nat) (h : fp_X10_layOpen_124 a b = true) : fp_X10_goMinutes_124_x a b = true := pvfp_sub (l1 := fpL_X10_layOpen_124) (l2 := fpL_X10_goMinutes_124_x) (by decide) a b h
theorem fp_X10_goMinutes_124_x_fp_X10_layRain_124 (a b : Nat) (h : fp_X10_layRain_124 a b = true) : fp_X10_goMinutes_124_x a b = true := pvfp_sub (l1 := fpL_X10_layRain_124) (l2 := fpL_X10_goMinutes_124_x) (by decide) a b h
set_option maxHeartbeats 4000000 in
set_option maxRecDepth 10000 in
theorem sf_X10_goMinutes_124_x (M : pvM) (hok : pvOk M) (n1 : Int32) (hn1 : 0 ≤ Int32.toInt n1 ∧ Int32.toInt n1 ≤ 9999) (hx0 : Int32.toInt (M.1 124 1) + Int32.toInt n1 ≤ 9999) (d : Nat) : PW 23 d (0, [some (pvR 124), some (pvI n1), none], [], M) (fun r X => (∃ x : Int32, r = some (pvI x) ∧ 0 ≤ Int32.toInt x ∧ Int32.toInt x ≤ 9000000) ∧ pvOk X ∧ pvFr fp_X10_goMinutes_124_x M X) := by
  have hT : pvdom 23 = pvD_23 := rfl
  have b1_ : 0 ≤ Int32.toInt (M.1 124 1) ∧ Int32.toInt (M.1 124 1) ≤ 9999 := pvok_r hok 124 1 rfl
  refine pw_blk hT 1 (S' := (1, [some (pvR 124), some (pvI n1), none], [pvR 124], M)) rfl ⟨trivial, trivial⟩ ?_
  refine pw_callV hT (as := [pvR 124]) (lo1 := [some (pvR 124), none, none]) (d1 := d) (rest := []) rfl rfl rfl rfl rfl (fun _ => rfl) (Nat.zero_le _) rfl rfl rfl (sf_X10_layRain_124 M hok d) (fun M3_ o5_ g6_ => ?_)
  have f7_ : pvFr fp_X10_goMinutes_124_x M M3_ := pvfr_t g6_ pvfr_0 fp_X10_goMinutes_124_x_fp_X10_layRain_124
  refine pw_blk hT 1 (S' := (5, [some (pvR 124), some (pvI n1), none], [pvR 124], M3_)) rfl ⟨trivial, trivial⟩ ?_
  refine pw_callV hT (as := [pvR 124]) (lo1 := [some (pvR 124), none]) (d1 := d) (rest := []) rfl rfl rfl rfl rfl (fun _ => rfl) (Nat.zero_le _) rfl rfl rfl (sf_X10_layOpen_124 M3_ o5_ d) (fun M9_ o11_ g12_ => ?_)
  have f13_ : pvFr fp_X10_goMinutes_124_x M M9_ := pvfr_t g12_ f7_ fp_X10_goMinutes_124_x_fp_X10_layOpen_124
  have e14_ : (M9_.1 124 1) = (M.1 124 1) := ((g12_ 124 1 rfl).trans (g6_ 124 1 rfl))
  have b15_ : 0 ≤ Int32.toInt (M9_.1 124 1) ∧ Int32.toInt (M9_.1 124 1) ≤ 9999 := (by rw [e14_]; exact b1_)
  have d16_ : Int32.toInt (M9_.1 124 1) = Int32.toInt (M.1 124 1) := congrArg Int32.toInt e14_
  obtain ⟨q18_, b17_⟩ : (Int32.toInt ((M9_.1 124 1) + n1) = Int32.toInt (M9_.1 124 1) + Int32.toInt n1) ∧ (0 ≤ Int32.toInt ((M9_.1 124 1) + n1) ∧ Int32.toInt ((M9_.1 124 1) + n1) ≤ 19998) := zadd_r (M9_.1 124 1) n1 0 19998 b15_ hn1 (by decide) (by decide) (by decide) (by decide)
  refine pw_blk hT 7 (S' := (19, [some (pvR 124), some (pvI n1), none], [pvI ((M9_.1 124 1) + n1), pvI (M9_.1 124 1), pvR 124], M9_)) rfl ⟨trivial, trivial, rfl, trivial, rfl, trivial, trivial, trivial⟩ ?_
  refine pw_callGp hT (as := [pvR 124, pvI (M9_.1 124 1), pvI ((M9_.1 124 1) + n1)]) (lo1 := [some (pvR 124), some (pvI (M9_.1 124 1)), some (pvI ((M9_.1 124 1) + n1)), none, none]) (d1 := d) (rest := []) rfl rfl rfl rfl rfl (fun _ => rfl) (Nat.zero_le _) rfl rfl rfl (sf_X10_harmFrom_124_x_x M9_ o11_ (M9_.1 124 1) ((M9_.1 124 1) + n1) (zr_wide b15_ (by decide) (by decide)) (zr_wide b17_ (by decide) (by decide)) d) (fun x19_ b21_ => ?_)
  have b24_ : 0 ≤ Int32.toInt (M9_.1 124 2) ∧ Int32.toInt (M9_.1 124 2) ≤ 999999 := pvok_r o11_ 124 2 rfl
  obtain ⟨q26_, b25_⟩ : (Int32.toInt ((M9_.1 124 2) + x19_) = Int32.toInt (M9_.1 124 2) + Int32.toInt x19_) ∧ (0 ≤ Int32.toInt ((M9_.1 124 2) + x19_) ∧ Int32.toInt ((M9_.1 124 2) + x19_) ≤ 9999999) := zadd_r (M9_.1 124 2) x19_ 0 9999999 b24_ b21_ (by decide) (by decide) (by decide) (by decide)
  refine pw_blk hT 7 (S' := (33, [some (pvR 124), some (pvI n1), some (pvI x19_)], [pvI 999999, pvI ((M9_.1 124 2) + x19_), pvR 124], M9_)) rfl ⟨trivial, trivial, trivial, rfl, trivial, trivial, trivial, trivial⟩ ?_
  refine pw_ic hT (c := ((M9_.1 124 2) + x19_) ≤ 999999) rfl rfl (fun c27_ => ?_) (fun c27_ => ?_)
  · have b28_ : 0 ≤ Int32.toInt ((M9_.1 124 2) + x19_) ∧ Int32.toInt ((M9_.1 124 2) + x19_) ≤ 999999 := zr_le_l 999999 c27_ b25_ (show 999999 ≤ Int32.toInt 999999 ∧ Int32.toInt 999999 ≤ 999999 from (by decide)) (by decide)
    refine pw_blkw hT 5 (pc := 51) (lo := [some (pvR 124), some (pvI n1), some (pvI x19_)]) (st := []) (M := pvu M9_ 124 2 ((M9_.1 124 2) + x19_)) rfl ⟨trivial, rfl, trivial, trivial, rfl, trivial⟩ (fun M29_ e30_ => ?_)
    have o31_ : pvOk M29_ := pvok_u2 e30_ o11_ rfl b28_
    have f32_ : pvFr fp_X10_goMinutes_124_x M M29_ := pvfr_u e30_ f13_ rfl
    have e33_ : (M29_.1 124 1) = (M9_.1 124 1) := (pvu_n e30_ 124 1 (Or.inr (by decide)))
    have b34_ : 0 ≤ Int32.toInt (M29_.1 124 1) ∧ Int32.toInt (M29_.1 124 1) ≤ 9999 := (by rw [e33_]; exact b15_)
    have d35_ : Int32.toInt (M29_.1 124 1) = Int32.toInt (M9_.1 124 1) := congrArg Int32.toInt e33_
    obtain ⟨q37_, b36_⟩ : (Int32.toInt ((M29_.1 124 1) + n1) = Int32.toInt (M29_.1 124 1) + Int32.toInt n1) ∧ (0 ≤ Int32.toInt ((M29_.1 124 1) + n1) ∧ Int32.toInt ((M29_.1 124 1) + n1) ≤ 19998) := zadd_r (M29_.1 124 1) n1 0 19998 b34_ hn1 (by decide) (by decide) (by decide) (by decide)
    refine pw_blkw hT 6 (pc := 61) (lo := [some (pvR 124), some (pvI n1), some (pvI x19_)]) (st := []) (M := pvu M29_ 124 1 ((M29_.1 124 1) + n1)) rfl ⟨trivial, trivial, rfl, trivial, trivial, rfl, trivial⟩ (fun M38_ e39_ => ?_)
    have o40_ : pvOk M38_ := pvok_u2 e39_ o31_ rfl (by have u0 := b36_; omega)
    have f41_ : pvFr fp_X10_goMinutes_124_x M M38_ := pvfr_u e39_ f32_ rfl
    refine pw_blk hT 1 (S' := (62, [some (pvR 124), some (pvI n1), some (pvI x19_)], [pvI x19_], M38_)) rfl ⟨trivial, trivial⟩ ?_
    exact pw_ret hT rfl (r := some (pvI x19_)) (M' := M38_) ⟨rfl, rfl⟩ ⟨⟨_, rfl, b21_⟩, o40_, f41_⟩
  · have b42_ : 1000000 ≤ Int32.toInt ((M9_.1 124 2) + x19_) ∧ Int32.toInt ((M9_.1 124 2) + x19_) ≤ 9999999 := zr_nle_l 1000000 c27_ b25_ (show 999999 ≤ Int32.toInt 999999 ∧ Int32.toInt 999999 ≤ 999999 from (by decide)) (by decide)
    refine pw_blkw hT 3 (pc := 51) (lo := [some (pvR 124), some (pvI n1), some (pvI x19_)]) (st := []) (M := pvu M9_ 124 2 999999) rfl ⟨trivial, trivial, rfl, trivial⟩ (fun M43_ e44_ => ?_)
    have o45_ : pvOk M43_ := pvok_u2 e44_ o11_ rfl (zr_wide (show 999999 ≤ Int32.toInt 999999 ∧ Int32.toInt 999999 ≤ 999999 from (by decide)) (by decide) (by decide))
    have f46_ : pvFr fp_X10_goMinutes_124_x M M43_ := pvfr_u e44_ f13_ rfl
    have e47_ : (M43_.1 124 1) = (M9_.1 124 1) := (pvu_n e44_ 124 1 (Or.inr (by decide)))
    have b48_ : 0 ≤ Int32.toInt (M43_.1 124 1) ∧ Int32.toInt (M43_.1 124 1) ≤ 9999 := (by rw [e47_]; exact b15_)
    have d49_ : Int32.toInt (M43_.1 124 1) = Int32.toInt (M9_.1 124 1) := congrArg Int32.toInt e47_
    obtain ⟨q51_, b50_⟩ : (Int32.toInt ((M43_.1 124 1) + n1) = Int32.toInt (M43_.1 124 1) + Int32.toInt n1) ∧ (0 ≤ Int32.toInt ((M43_.1 124 1) + n1) ∧ Int32.toInt ((M43_.1 124 1) + n1) ≤ 19998) := zadd_r (M43_.1 124 1) n1 0 19998 b48_ hn1 (by decide) (by decide) (by decide) (by decide)
    refine pw_blkw hT 6 (pc := 61) (lo := [some (pvR 124), some (pvI n1), some (pvI x19_)]) (st := []) (M := pvu M43_ 124 1 ((M43_.1 124 1) + n1)) rfl ⟨trivial, trivial, rfl, trivial, trivial, rfl, trivial⟩ (fun M52_ e53_ => ?_)
    have o54_ : pvOk M52_ := pvok_u2 e53_ o45_ rfl (by have u0 := b50_; omega)
    have f55_ : pvFr fp_X10_goMinutes_124_x M M52_ := pvfr_u e53_ f46_ rfl
    refine pw_blk hT 1 (S' := (62, [some (pvR 124), some (pvI n1), some (pvI x19_)], [pvI x19_], M52_)) rfl ⟨trivial, trivial⟩ ?_
    exact pw_ret hT rfl (r := some (pvI x19_)) (M' := M52_) ⟨rfl, rfl⟩ ⟨⟨_, rfl, b21_⟩, o54_, f55_⟩
def fpL_X10_goesText_124_x : List (Nat × Nat × Nat) := [(0, 124, 18), (0, 124, 19), (0, 124, 28), (0, 124, 29), (0, 124, 30), (0, 133, 0), (0, 134, 0), (0, 135, 0), (0, 136, 0), (0, 137, 0), (0, 138, 0), (0, 139, 0)]
def fp_X10_goesText_124_x (q k : Nat) : Bool := pvfp fpL_X10_goesText_124_x q k
theorem sf_X10_goesText_124_x (M : pvM) (hok : pvOk M) (n1 : Int32) (h1 : 0 ≤ Int32.toInt n1 ∧ Int32.toInt n1 ≤ 5) (d : Nat) : PW 25 d (0, [some (pvR 124), some (pvI n1), none], [], M) (fun r X => (∃ x : Int32, r = some (pvI x) ∧ 0 ≤ Int32.toInt x ∧ Int32.toInt x ≤ 1) ∧ pvOk X ∧ pvFr fp_X10_goesText_124_x M X) := sorry
def fpL_X10_house_124 : List (Nat × Nat × Nat) := [(0, 124, 15), (0, 124, 16), (0, 124, 17), (0, 124, 18), (0, 124, 19), (0, 124, 28), (0, 124, 29), (0, 124, 30), (0, 133, 0), (0, 134, 0), (0, 135, 0), (0, 136, 0), (0, 137, 0), (0, 138, 0), (0, 139, 0)]
def fp_X10_house_124 (q k : Nat) : Bool := pvfp fpL_X10_house_124 q k
theorem fp_X10_house_124_fp_X10_goesText_124_x (a b : Nat) (h : fp_X10_goesText_124_x a b = true) : fp_X10_house_124 a b = true := pvfp_sub (l1 := fpL_X10_goesText_124_x) (l2 := fpL_X10_house_124) (by decide) a b h
set_option maxHeartbeats 4000000 in
set_option maxRecDepth 10000 in
theorem sf_X10_house_124 (M : pvM) (hok : pvOk M) (d : Nat) : PW 34 d (0, [some (pvR 124), none], [], M) (fun r X => (∃ x : Int32, r = some (pvI x) ∧ (-110) ≤ Int32.toInt x ∧ Int32.toInt x ≤ 5) ∧ pvOk X ∧ pvFr fp_X10_house_124 M X) := by
  have hT : pvdom 34 = pvD_34 := rfl
  have b1_ : 0 ≤ Int32.toInt (M.1 124 14) ∧ Int32.toInt (M.1 124 14) ≤ 6 := pvok_r hok 124 14 rfl
  refine pw_blk hT 3 (S' := (6, [some (pvR 124), none], [pvI 6, pvI (M.1 124 14)], M)) rfl ⟨trivial, rfl, trivial, trivial⟩ ?_
  refine pw_icn hT (c := (M.1 124 14) = 6) rfl rfl (fun c2_ => ?_) (fun c2_ => ?_)
  · have b3_ : 0 ≤ Int32.toInt (M.1 124 14) ∧ Int32.toInt (M.1 124 14) ≤ 5 := (by have u0 := b1_; have u1 := (not_congr (zi_eq _ _)).mp c2_; have u2 := (show 6 ≤ Int32.toInt 6 ∧ Int32.toInt 6 ≤ 6 from (by decide)); omega)
    refine pw_blk hT 3 (S' := (17, [some (pvR 124), none], [pvI (M.1 124 14), pvR 124], M)) rfl ⟨trivial, trivial, rfl, trivial⟩ ?_
    refine pw_callG hT (as := [pvR 124, pvI (M.1 124 14)]) (lo1 := [some (pvR 124), some (pvI (M.1 124 14)), none]) (d1 := d) (rest := []) rfl rfl rfl rfl rfl (fun _ => rfl) (Nat.zero_le _) rfl rfl rfl (sf_X10_goesText_124_x M hok (M.1 124 14) (show 0 ≤ Int32.toInt (M.1 124 14) ∧ Int32.toInt (M.1 124 14) ≤ 5 from (by omega)) d) (fun x4_ M5_ b6_ o7_ g8_ => ?_)
    have f9_ : pvFr fp_X10_house_124 M M5_ := pvfr_t g8_ pvfr_0 fp_X10_house_124_fp_X10_goesText_124_x
    refine pw_blkw hT 4 (pc := 26) (lo := [some (pvR 124), some (pvI x4_)]) (st := []) (M := pvu M5_ 124 16 0) rfl ⟨trivial, trivial, trivial, rfl, trivial⟩ (fun M10_ e11_ => ?_)
    have o12_ : pvOk M10_ := pvok_u2 e11_ o7_ rfl (zr_wide (show 0 ≤ Int32.toInt 0 ∧ Int32.toInt 0 ≤ 0 from (by decide)) (by decide) (by decide))
    have f13_ : pvFr fp_X10_house_124 M M10_ := pvfr_u e11_ f9_ rfl
    refine pw_blk hT 1 (S' := (27, [some (pvR 124), some (pvI x4_)], [pvI x4_], M10_)) rfl ⟨trivial, trivial⟩ ?_
    refine pw_ifn hT (c := x4_ = 0) rfl rfl (fun c14_ => ?_) (fun c14_ => ?_)
    · have b15_ : 1 ≤ Int32.toInt x4_ ∧ Int32.toInt x4_ ≤ 1 := (by have u0 := b6_; have u1 := (not_congr (zi_eq _ _)).mp c14_; have u2 := (show 0 ≤ Int32.toInt 0 ∧ Int32.toInt 0 ≤ 0 from (by decide)); omega)
      have e16_ : (M10_.1 124 14) = (M.1 124 14) := ((pvu_n e11_ 124 14 (Or.inr (by decide))).trans (g8_ 124 14 rfl))
      have b17_ : 0 ≤ Int32.toInt (M10_.1 124 14) ∧ Int32.toInt (M10_.1 124 14) ≤ 5 := (by rw [e16_]; exact b3_)
      refine pw_blkw hT 4 (pc := 46) (lo := [some (pvR 124), some (pvI x4_)]) (st := []) (M := pvu M10_ 124 15 (M10_.1 124 14)) rfl ⟨trivial, trivial, rfl, rfl, trivial⟩ (fun M18_ e19_ => ?_)
      have o20_ : pvOk M18_ := pvok_u2 e19_ o12_ rfl (zr_wide b17_ (by decide) (by decide))
      have f21_ : pvFr fp_X10_house_124 M M18_ := pvfr_u e19_ f13_ rfl
      have e22_ : (M18_.1 124 14) = (M10_.1 124 14) := (pvu_n e19_ 124 14 (Or.inr (by decide)))
      have b23_ : 0 ≤ Int32.toInt (M18_.1 124 14) ∧ Int32.toInt (M18_.1 124 14) ≤ 5 := (by rw [e22_]; exact b17_)
      obtain ⟨q25_, b24_⟩ : (Int32.toInt ((M18_.1 124 14) + 1) = Int32.toInt (M18_.1 124 14) + Int32.toInt 1) ∧ (1 ≤ Int32.toInt ((M18_.1 124 14) + 1) ∧ Int32.toInt ((M18_.1 124 14) + 1) ≤ 6) := zadd_r (M18_.1 124 14) 1 1 6 b23_ (show 1 ≤ Int32.toInt 1 ∧ Int32.toInt 1 ≤ 1 from (by decide)) (by decide) (by decide) (by decide) (by decide)
      have u26_ : Int32.toInt 1 = 1 := by decide
      refine pw_blkw hT 6 (pc := 56) (lo := [some (pvR 124), some (pvI x4_)]) (st := []) (M := pvu M18_ 124 14 ((M18_.1 124 14) + 1)) rfl ⟨trivial, trivial, rfl, trivial, trivial, rfl, trivial⟩ (fun M27_ e28_ => ?_)
      have o29_ : pvOk M27_ := pvok_u2 e28_ o20_ rfl (zr_wide b24_ (by decide) (by decide))
      have f30_ : pvFr fp_X10_house_124 M M27_ := pvfr_u e28_ f21_ rfl
      have e31_ : (M27_.1 124 15) = (M10_.1 124 14) := ((pvu_n e28_ 124 15 (Or.inr (by decide))).trans (pvu_s e19_))
      have b32_ : 0 ≤ Int32.toInt (M27_.1 124 15) ∧ Int32.toInt (M27_.1 124 15) ≤ 5 := (by rw [e31_]; exact b17_)
      refine pw_blk hT 2 (S' := (60, [some (pvR 124), some (pvI x4_)], [pvI (M27_.1 124 15)], M27_)) rfl ⟨trivial, rfl, trivial⟩ ?_
      exact pw_ret hT rfl (r := some (pvI (M27_.1 124 15))) (M' := M27_) ⟨rfl, rfl⟩ ⟨⟨_, rfl, (zr_wide b32_ (by decide) (by decide))⟩, o29_, f30_⟩
    · have b33_ : 0 ≤ Int32.toInt x4_ ∧ Int32.toInt x4_ ≤ 0 := (by have u0 := b6_; have u1 := (zi_eq _ _).mp c14_; have u2 := (show 0 ≤ Int32.toInt 0 ∧ Int32.toInt 0 ≤ 0 from (by decide)); omega)
      have b34_ : 0 ≤ Int32.toInt (M10_.1 124 17) ∧ Int32.toInt (M10_.1 124 17) ≤ 100 := pvok_r o12_ 124 17 rfl
      obtain ⟨q36_, b35_⟩ : (Int32.toInt ((-10) - (M10_.1 124 17)) = Int32.toInt (-10) - Int32.toInt (M10_.1 124 17)) ∧ ((-110) ≤ Int32.toInt ((-10) - (M10_.1 124 17)) ∧ Int32.toInt ((-10) - (M10_.1 124 17)) ≤ (-10)) := zsub_r (-10) (M10_.1 124 17) (-110) (-10) (show (-10) ≤ Int32.toInt (-10) ∧ Int32.toInt (-10) ≤ (-10) from (by decide)) b34_ (by decide) (by decide) (by decide) (by decide)
      have u37_ : Int32.toInt (-10) = (-10) := by decide
      refine pw_blk hT 4 (S' := (37, [some (pvR 124), some (pvI x4_)], [pvI ((-10) - (M10_.1 124 17))], M10_)) rfl ⟨trivial, trivial, rfl, trivial, trivial⟩ ?_
      exact pw_ret hT rfl (r := some (pvI ((-10) - (M10_.1 124 17)))) (M' := M10_) ⟨rfl, rfl⟩ ⟨⟨_, rfl, (zr_wide b35_ (by decide) (by decide))⟩, o12_, f13_⟩
  · have b38_ : 6 ≤ Int32.toInt (M.1 124 14) ∧ Int32.toInt (M.1 124 14) ≤ 6 := (by have u0 := b1_; have u1 := (zi_eq _ _).mp c2_; have u2 := (show 6 ≤ Int32.toInt 6 ∧ Int32.toInt 6 ≤ 6 from (by decide)); omega)
    refine pw_blk hT 1 (S' := (11, [some (pvR 124), none], [pvI (-4)], M)) rfl ⟨trivial, trivial⟩ ?_
    exact pw_ret hT rfl (r := some (pvI (-4))) (M' := M) ⟨rfl, rfl⟩ ⟨⟨_, rfl, (zr_wide (show (-4) ≤ Int32.toInt (-4) ∧ Int32.toInt (-4) ≤ (-4) from (by decide)) (by decide) (by decide))⟩, hok, pvfr_0⟩
def fpL_X10_image_124 : List (Nat × Nat × Nat) := [(0, 124, 47), (0, 124, 48), (0, 124, 49), (0, 124, 50), (0, 124, 51), (0, 124, 52), (0, 124, 53), (0, 124, 54), (0, 124, 55), (0, 124, 56), (0, 124, 57), (0, 124, 58), (0, 151, 0), (0, 152, 0), (0, 153, 0), (0, 154, 0), (0, 155, 0), (0, 156, 0), (0, 157, 0), (0, 158, 0), (0, 159, 0), (0, 160, 0), (0, 161, 0), (0, 162, 0)]
def fp_X10_image_124 (q k : Nat) : Bool := pvfp fpL_X10_image_124 q k
set_option maxHeartbeats 4000000 in
set_option maxRecDepth 10000 in
theorem sf_X10_image_124 (M : pvM) (hok : pvOk M) (d : Nat) : PW 35 d (0, [some (pvR 124), none], [], M) (fun r X => (∃ x : Int32, r = some (pvI x) ∧ 0 ≤ Int32.toInt x ∧ Int32.toInt x ≤ 7) ∧ pvOk X ∧ pvFr fp_X10_image_124 M X) := by
  have hT : pvdom 35 = pvD_35 := rfl
  refine pw_blkw hT 3 (pc := 5) (lo := [some (pvR 124), none]) (st := []) (M := pvu M 124 46 1) rfl ⟨trivial, trivial, ⟨rfl, Or.inr rfl⟩, trivial⟩ (fun M1_ e2_ => ?_)
  have o3_ : pvOk M1_ := pvok_u2 e2_ hok rfl (zr_wide (show 1 ≤ Int32.toInt 1 ∧ Int32.toInt 1 ≤ 1 from (by decide)) (by decide) (by decide))
  have f4_ : pvFr fp_X10_image_124 M M1_ := pvfr_u e2_ pvfr_0 rfl
  have b5_ : (-1) ≤ Int32.toInt (M1_.1 124 15) ∧ Int32.toInt (M1_.1 124 15) ≤ 5 := pvok_r o3_ 124 15 rfl
  refine pw_blkw hT 4 (pc := 13) (lo := [some (pvR 124), none]) (st := []) (M := pvu M1_ 124 47 (M1_.1 124 15)) rfl ⟨trivial, trivial, rfl, rfl, trivial⟩ (fun M6_ e7_ => ?_)
  have o8_ : pvOk M6_ := pvok_u2 e7_ o3_ rfl b5_
  have f9_ : pvFr fp_X10_image_124 M M6_ := pvfr_u e7_ f4_ rfl
  have b10_ : 0 ≤ Int32.toInt (M6_.1 124 0) ∧ Int32.toInt (M6_.1 124 0) ≤ 7 := pvok_r o8_ 124 0 rfl
  refine pw_blkw hT 4 (pc := 21) (lo := [some (pvR 124), none]) (st := []) (M := pvu M6_ 124 48 (M6_.1 124 0)) rfl ⟨trivial, trivial, rfl, rfl, trivial⟩ (fun M11_ e12_ => ?_)
  have o13_ : pvOk M11_ := pvok_u2 e12_ o8_ rfl b10_
  have f14_ : pvFr fp_X10_image_124 M M11_ := pvfr_u e12_ f9_ rfl
  have b15_ : 0 ≤ Int32.toInt (M11_.1 124 1) ∧ Int32.toInt (M11_.1 124 1) ≤ 9999 := pvok_r o13_ 124 1 rfl
  refine pw_blkw hT 4 (pc := 29) (lo := [some (pvR 124), none]) (st := []) (M := pvu M11_ 124 49 (M11_.1 124 1)) rfl ⟨trivial, trivial, rfl, rfl, trivial⟩ (fun M16_ e17_ => ?_)
  have o18_ : pvOk M16_ := pvok_u2 e17_ o13_ rfl b15_
  have f19_ : pvFr fp_X10_image_124 M M16_ := pvfr_u e17_ f14_ rfl
  have b20_ : 0 ≤ Int32.toInt (M16_.1 124 2) ∧ Int32.toInt (M16_.1 124 2) ≤ 999999 := pvok_r o18_ 124 2 rfl
  refine pw_blkw hT 4 (pc := 37) (lo := [some (pvR 124), none]) (st := []) (M := pvu M16_ 124 50 (M16_.1 124 2)) rfl ⟨trivial, trivial, rfl, rfl, trivial⟩ (fun M21_ e22_ => ?_)
  have o23_ : pvOk M21_ := pvok_u2 e22_ o18_ rfl b20_
  have f24_ : pvFr fp_X10_image_124 M M21_ := pvfr_u e22_ f19_ rfl
  have b25_ : 0 ≤ Int32.toInt (M21_.1 124 3) ∧ Int32.toInt (M21_.1 124 3) ≤ 108 := pvok_r o23_ 124 3 rfl
  refine pw_blkw hT 4 (pc := 45) (lo := [some (pvR 124), none]) (st := []) (M := pvu M21_ 124 51 (M21_.1 124 3)) rfl ⟨trivial, trivial, rfl, rfl, trivial⟩ (fun M26_ e27_ => ?_)
  have o28_ : pvOk M26_ := pvok_u2 e27_ o23_ rfl b25_
  have f29_ : pvFr fp_X10_image_124 M M26_ := pvfr_u e27_ f24_ rfl
  have b30_ : 0 ≤ Int32.toInt (M26_.1 124 4) ∧ Int32.toInt (M26_.1 124 4) ≤ 4 := pvok_r o28_ 124 4 rfl
  refine pw_blkw hT 4 (pc := 53) (lo := [some (pvR 124), none]) (st := []) (M := pvu M26_ 124 52 (M26_.1 124 4)) rfl ⟨trivial, trivial, rfl, rfl, trivial⟩ (fun M31_ e32_ => ?_)
  have o33_ : pvOk M31_ := pvok_u2 e32_ o28_ rfl b30_
  have f34_ : pvFr fp_X10_image_124 M M31_ := pvfr_u e32_ f29_ rfl
  have b35_ : 0 ≤ Int32.toInt (M31_.1 124 5) ∧ Int32.toInt (M31_.1 124 5) ≤ 3 := pvok_r o33_ 124 5 rfl
  refine pw_blkw hT 4 (pc := 61) (lo := [some (pvR 124), none]) (st := []) (M := pvu M31_ 124 53 (M31_.1 124 5)) rfl ⟨trivial, trivial, rfl, rfl, trivial⟩ (fun M36_ e37_ => ?_)
  have o38_ : pvOk M36_ := pvok_u2 e37_ o33_ rfl b35_
  have f39_ : pvFr fp_X10_image_124 M M36_ := pvfr_u e37_ f34_ rfl
  have b40_ : 0 ≤ Int32.toInt (M36_.1 124 6) ∧ Int32.toInt (M36_.1 124 6) ≤ 4 := pvok_r o38_ 124 6 rfl
  refine pw_blkw hT 4 (pc := 69) (lo := [some (pvR 124), none]) (st := []) (M := pvu M36_ 124 54 (M36_.1 124 6)) rfl ⟨trivial, trivial, rfl, rfl, trivial⟩ (fun M41_ e42_ => ?_)
  have o43_ : pvOk M41_ := pvok_u2 e42_ o38_ rfl b40_
  have f44_ : pvFr fp_X10_image_124 M M41_ := pvfr_u e42_ f39_ rfl
  have b45_ : 0 ≤ Int32.toInt (M41_.1 124 37) ∧ Int32.toInt (M41_.1 124 37) ≤ 7 := pvok_r o43_ 124 37 rfl
  refine pw_blkw hT 4 (pc := 77) (lo := [some (pvR 124), none]) (st := []) (M := pvu M41_ 124 55 (M41_.1 124 37)) rfl ⟨trivial, trivial, rfl, rfl, trivial⟩ (fun M46_ e47_ => ?_)
  have o48_ : pvOk M46_ := pvok_u2 e47_ o43_ rfl b45_
  have f49_ : pvFr fp_X10_image_124 M M46_ := pvfr_u e47_ f44_ rfl
  have b50_ : 0 ≤ Int32.toInt (M46_.1 124 40) ∧ Int32.toInt (M46_.1 124 40) ≤ 6 := pvok_r o48_ 124 40 rfl
  refine pw_blkw hT 4 (pc := 85) (lo := [some (pvR 124), none]) (st := []) (M := pvu M46_ 124 56 (M46_.1 124 40)) rfl ⟨trivial, trivial, rfl, rfl, trivial⟩ (fun M51_ e52_ => ?_)
  have o53_ : pvOk M51_ := pvok_u2 e52_ o48_ rfl b50_
  have f54_ : pvFr fp_X10_image_124 M M51_ := pvfr_u e52_ f49_ rfl
  have b55_ : 0 ≤ Int32.toInt (M51_.1 124 43) ∧ Int32.toInt (M51_.1 124 43) ≤ 8 := pvok_r o53_ 124 43 rfl
  refine pw_blkw hT 4 (pc := 93) (lo := [some (pvR 124), none]) (st := []) (M := pvu M51_ 124 57 (M51_.1 124 43)) rfl ⟨trivial, trivial, rfl, rfl, trivial⟩ (fun M56_ e57_ => ?_)
  have o58_ : pvOk M56_ := pvok_u2 e57_ o53_ rfl b55_
  have f59_ : pvFr fp_X10_image_124 M M56_ := pvfr_u e57_ f54_ rfl
  refine pw_blk hT 2 (S' := (95, [some (pvR 124), some (pvI 0)], [], M56_)) rfl ⟨trivial, trivial, trivial⟩ ?_
  have hlz5572_ : ∀ (nz5572_ : Nat) (i1z5572_ : Int32) (Mz5572_ : pvM), (pvOk Mz5572_) → (pvFr fp_X10_image_124 M Mz5572_) → (0 ≤ Int32.toInt i1z5572_ ∧ Int32.toInt i1z5572_ ≤ 7) → ((8 - Int32.toInt i1z5572_).toNat < nz5572_) → PW 35 d (95, [some (pvR 124), some (pvI i1z5572_)], [], Mz5572_) (fun r X => (∃ x : Int32, r = some (pvI x) ∧ 0 ≤ Int32.toInt x ∧ Int32.toInt x ≤ 7) ∧ pvOk X ∧ pvFr fp_X10_image_124 M X) := by
    intro nz5572_
    induction nz5572_ with
    | zero => intro i1z5572_ Mz5572_ oz5572_ fz5572_ h1z5572_ hmz5572_; exact absurd hmz5572_ (Nat.not_lt_zero _)
    | succ nz5572_ ihz5572_ =>
      intro i1z5572_ Mz5572_ oz5572_ fz5572_ h1z5572_ hmz5572_
      refine pw_blk hT 2 (S' := (98, [some (pvR 124), some (pvI i1z5572_)], [pvI 7, pvI i1z5572_], Mz5572_)) rfl ⟨trivial, trivial, trivial⟩ ?_
      refine pw_ic hT (c := 7 ≤ i1z5572_) rfl rfl (fun c5573_ => ?_) (fun c5573_ => ?_)
      · have b5574_ : 7 ≤ Int32.toInt i1z5572_ ∧ Int32.toInt i1z5572_ ≤ 7 := zr_le_r 7 c5573_ h1z5572_ (show 7 ≤ Int32.toInt 7 ∧ Int32.toInt 7 ≤ 7 from (by decide)) (by decide)
        refine pw_blk hT 2 (S' := (193, [some (pvR 124), some (pvI 0)], [], Mz5572_)) rfl ⟨trivial, trivial, trivial⟩ ?_
        have hlz6914_ : ∀ (nz6914_ : Nat) (i1z6914_ : Int32) (Mz6914_ : pvM), (pvOk Mz6914_) → (pvFr fp_X10_image_124 M Mz6914_) → (0 ≤ Int32.toInt i1z6914_ ∧ Int32.toInt i1z6914_ ≤ 28) → ((29 - Int32.toInt i1z6914_).toNat < nz6914_) → PW 35 d (193, [some (pvR 124), some (pvI i1z6914_)], [], Mz6914_) (fun r X => (∃ x : Int32, r = some (pvI x) ∧ 0 ≤ Int32.toInt x ∧ Int32.toInt x ≤ 7) ∧ pvOk X ∧ pvFr fp_X10_image_124 M X) := by
          intro nz6914_
          induction nz6914_ with
          | zero => intro i1z6914_ Mz6914_ oz6914_ fz6914_ h1z6914_ hmz6914_; exact absurd hmz6914_ (Nat.not_lt_zero _)
          | succ nz6914_ ihz6914_ =>
            intro i1z6914_ Mz6914_ oz6914_ fz6914_ h1z6914_ hmz6914_
            refine pw_blk hT 2 (S' := (196, [some (pvR 124), some (pvI i1z6914_)], [pvI 28, pvI i1z6914_], Mz6914_)) rfl ⟨trivial, trivial, trivial⟩ ?_
            refine pw_ic hT (c := 28 ≤ i1z6914_) rfl rfl (fun c6915_ => ?_) (fun c6915_ => ?_)
            · have b6916_ : 28 ≤ Int32.toInt i1z6914_ ∧ Int32.toInt i1z6914_ ≤ 28 := zr_le_r 28 c6915_ h1z6914_ (show 28 ≤ Int32.toInt 28 ∧ Int32.toInt 28 ≤ 28 from (by decide)) (by decide)
              refine pw_blk hT 2 (S' := (219, [some (pvR 124), some (pvI 0)], [], Mz6914_)) rfl ⟨trivial, trivial, trivial⟩ ?_
              have hlz7244_ : ∀ (nz7244_ : Nat) (i1z7244_ : Int32) (Mz7244_ : pvM), (pvOk Mz7244_) → (pvFr fp_X10_image_124 M Mz7244_) → (0 ≤ Int32.toInt i1z7244_ ∧ Int32.toInt i1z7244_ ≤ 6) → ((7 - Int32.toInt i1z7244_).toNat < nz7244_) → PW 35 d (219, [some (pvR 124), some (pvI i1z7244_)], [], Mz7244_) (fun r X => (∃ x : Int32, r = some (pvI x) ∧ 0 ≤ Int32.toInt x ∧ Int32.toInt x ≤ 7) ∧ pvOk X ∧ pvFr fp_X10_image_124 M X) := by
                intro nz7244_
                induction nz7244_ with
                | zero => intro i1z7244_ Mz7244_ oz7244_ fz7244_ h1z7244_ hmz7244_; exact absurd hmz7244_ (Nat.not_lt_zero _)
                | succ nz7244_ ihz7244_ =>
                  intro i1z7244_ Mz7244_ oz7244_ fz7244_ h1z7244_ hmz7244_
                  refine pw_blk hT 2 (S' := (222, [some (pvR 124), some (pvI i1z7244_)], [pvI 6, pvI i1z7244_], Mz7244_)) rfl ⟨trivial, trivial, trivial⟩ ?_
                  refine pw_ic hT (c := 6 ≤ i1z7244_) rfl rfl (fun c7245_ => ?_) (fun c7245_ => ?_)
                  · have b7246_ : 6 ≤ Int32.toInt i1z7244_ ∧ Int32.toInt i1z7244_ ≤ 6 := zr_le_r 6 c7245_ h1z7244_ (show 6 ≤ Int32.toInt 6 ∧ Int32.toInt 6 ≤ 6 from (by decide)) (by decide)
                    refine pw_blk hT 2 (S' := (257, [some (pvR 124), some (pvI 0)], [], Mz7244_)) rfl ⟨trivial, trivial, trivial⟩ ?_
                    have hlz7316_ : ∀ (nz7316_ : Nat) (i1z7316_ : Int32) (Mz7316_ : pvM), (pvOk Mz7316_) → (pvFr fp_X10_image_124 M Mz7316_) → (0 ≤ Int32.toInt i1z7316_ ∧ Int32.toInt i1z7316_ ≤ 8) → ((9 - Int32.toInt i1z7316_).toNat < nz7316_) → PW 35 d (257, [some (pvR 124), some (pvI i1z7316_)], [], Mz7316_) (fun r X => (∃ x : Int32, r = some (pvI x) ∧ 0 ≤ Int32.toInt x ∧ Int32.toInt x ≤ 7) ∧ pvOk X ∧ pvFr fp_X10_image_124 M X) := by
                      intro nz7316_
                      induction nz7316_ with
                      | zero => intro i1z7316_ Mz7316_ oz7316_ fz7316_ h1z7316_ hmz7316_; exact absurd hmz7316_ (Nat.not_lt_zero _)
                      | succ nz7316_ ihz7316_ =>
                        intro i1z7316_ Mz7316_ oz7316_ fz7316_ h1z7316_ hmz7316_
                        refine pw_blk hT 2 (S' := (260, [some (pvR 124), some (pvI i1z7316_)], [pvI 8, pvI i1z7316_], Mz7316_)) rfl ⟨trivial, trivial, trivial⟩ ?_
                        refine pw_ic hT (c := 8 ≤ i1z7316_) rfl rfl (fun c7317_ => ?_) (fun c7317_ => ?_)
                        · have b7318_ : 8 ≤ Int32.toInt i1z7316_ ∧ Int32.toInt i1z7316_ ≤ 8 := zr_le_r 8 c7317_ h1z7316_ (show 8 ≤ Int32.toInt 8 ∧ Int32.toInt 8 ≤ 8 from (by decide)) (by decide)
                          have b7319_ : 0 ≤ Int32.toInt (Mz7316_.1 124 0) ∧ Int32.toInt (Mz7316_.1 124 0) ≤ 7 := pvok_r oz7316_ 124 0 rfl
                          refine pw_blk hT 2 (S' := (297, [some (pvR 124), some (pvI i1z7316_)], [pvI (Mz7316_.1 124 0)], Mz7316_)) rfl ⟨trivial, rfl, trivial⟩ ?_
                          exact pw_ret hT rfl (r := some (pvI (Mz7316_.1 124 0))) (M' := Mz7316_) ⟨rfl, rfl⟩ ⟨⟨_, rfl, b7319_⟩, oz7316_, fz7316_⟩
                        · have b7320_ : 0 ≤ Int32.toInt i1z7316_ ∧ Int32.toInt i1z7316_ ≤ 7 := zr_nle_r 7 c7317_ h1z7316_ (show 8 ≤ Int32.toInt 8 ∧ Int32.toInt 8 ≤ 8 from (by decide)) (by decide)
                          have b7321_ : 0 ≤ Int32.toInt (Mz7316_.1 149 (Int32.toNatClampNeg i1z7316_)) ∧ Int32.toInt (Mz7316_.1 149 (Int32.toNatClampNeg i1z7316_)) ≤ 6 := pvok_r oz7316_ 149 (Int32.toNatClampNeg i1z7316_) rfl
                          refine pw_blkw hT 8 (pc := 275) (lo := [some (pvR 124), some (pvI i1z7316_)]) (st := []) (M := pvu Mz7316_ 160 (Int32.toNatClampNeg i1z7316_) (Mz7316_.1 149 (Int32.toNatClampNeg i1z7316_))) rfl ⟨trivial, rfl, trivial, trivial, rfl, trivial, ⟨rfl, (zr_in (n := 8) b7320_ (by decide) (by decide))⟩, ⟨rfl, (zr_in (n := 8) b7320_ (by decide) (by decide))⟩, trivial⟩ (fun M7322_ e7323_ => ?_)
                          have o7324_ : pvOk M7322_ := pvok_u2 e7323_ oz7316_ rfl b7321_
                          have f7325_ : pvFr fp_X10_image_124 M M7322_ := pvfr_u e7323_ fz7316_ rfl
                          have b7326_ : 0 ≤ Int32.toInt (M7322_.1 150 (Int32.toNatClampNeg i1z7316_)) ∧ Int32.toInt (M7322_.1 150 (Int32.toNatClampNeg i1z7316_)) ≤ 9999 := pvok_r o7324_ 150 (Int32.toNatClampNeg i1z7316_) rfl
                          refine pw_blkw hT 8 (pc := 287) (lo := [some (pvR 124), some (pvI i1z7316_)]) (st := []) (M := pvu M7322_ 161 (Int32.toNatClampNeg i1z7316_) (M7322_.1 150 (Int32.toNatClampNeg i1z7316_))) rfl ⟨trivial, rfl, trivial, trivial, rfl, trivial, ⟨rfl, (zr_in (n := 8) b7320_ (by decide) (by decide))⟩, ⟨rfl, (zr_in (n := 8) b7320_ (by decide) (by decide))⟩, trivial⟩ (fun M7327_ e7328_ => ?_)
                          have o7329_ : pvOk M7327_ := pvok_u2 e7328_ o7324_ rfl b7326_
                          have f7330_ : pvFr fp_X10_image_124 M M7327_ := pvfr_u e7328_ f7325_ rfl
                          obtain ⟨q7332_, b7331_⟩ : (Int32.toInt (i1z7316_ + 1) = Int32.toInt i1z7316_ + Int32.toInt 1) ∧ (1 ≤ Int32.toInt (i1z7316_ + 1) ∧ Int32.toInt (i1z7316_ + 1) ≤ 8) := zadd_r i1z7316_ 1 1 8 b7320_ (show 1 ≤ Int32.toInt 1 ∧ Int32.toInt 1 ≤ 1 from (by decide)) (by decide) (by decide) (by decide) (by decide)
                          have u7333_ : Int32.toInt 1 = 1 := by decide
                          refine pw_blk hT 2 (S' := (257, [some (pvR 124), some (pvI (i1z7316_ + 1))], [], M7327_)) rfl ⟨trivial, trivial, trivial⟩ ?_
                          exact ihz7316_ (i1z7316_ + 1) M7327_ o7329_ f7330_ (zr_wide b7331_ (by decide) (by decide)) (by omega)
                    exact hlz7316_ _ 0 Mz7244_ oz7244_ fz7244_ (zr_wide (show 0 ≤ Int32.toInt 0 ∧ Int32.toInt 0 ≤ 0 from (by decide)) (by decide) (by decide)) (Nat.lt_succ_self _)
                  · have b7334_ : 0 ≤ Int32.toInt i1z7244_ ∧ Int32.toInt i1z7244_ ≤ 5 := zr_nle_r 5 c7245_ h1z7244_ (show 6 ≤ Int32.toInt 6 ∧ Int32.toInt 6 ≤ 6 from (by decide)) (by decide)
                    have b7335_ : 0 ≤ Int32.toInt (Mz7244_.1 147 (Int32.toNatClampNeg i1z7244_)) ∧ Int32.toInt (Mz7244_.1 147 (Int32.toNatClampNeg i1z7244_)) ≤ 6 := pvok_r oz7244_ 147 (Int32.toNatClampNeg i1z7244_) rfl
                    refine pw_blkw hT 8 (pc := 237) (lo := [some (pvR 124), some (pvI i1z7244_)]) (st := []) (M := pvu Mz7244_ 158 (Int32.toNatClampNeg i1z7244_) (Mz7244_.1 147 (Int32.toNatClampNeg i1z7244_))) rfl ⟨trivial, rfl, trivial, trivial, rfl, trivial, ⟨rfl, (zr_in (n := 6) b7334_ (by decide) (by decide))⟩, ⟨rfl, (zr_in (n := 6) b7334_ (by decide) (by decide))⟩, trivial⟩ (fun M7336_ e7337_ => ?_)
                    have o7338_ : pvOk M7336_ := pvok_u2 e7337_ oz7244_ rfl b7335_
                    have f7339_ : pvFr fp_X10_image_124 M M7336_ := pvfr_u e7337_ fz7244_ rfl
                    have b7340_ : 0 ≤ Int32.toInt (M7336_.1 148 (Int32.toNatClampNeg i1z7244_)) ∧ Int32.toInt (M7336_.1 148 (Int32.toNatClampNeg i1z7244_)) ≤ 9999 := pvok_r o7338_ 148 (Int32.toNatClampNeg i1z7244_) rfl
                    refine pw_blkw hT 8 (pc := 249) (lo := [some (pvR 124), some (pvI i1z7244_)]) (st := []) (M := pvu M7336_ 159 (Int32.toNatClampNeg i1z7244_) (M7336_.1 148 (Int32.toNatClampNeg i1z7244_))) rfl ⟨trivial, rfl, trivial, trivial, rfl, trivial, ⟨rfl, (zr_in (n := 6) b7334_ (by decide) (by decide))⟩, ⟨rfl, (zr_in (n := 6) b7334_ (by decide) (by decide))⟩, trivial⟩ (fun M7341_ e7342_ => ?_)
                    have o7343_ : pvOk M7341_ := pvok_u2 e7342_ o7338_ rfl b7340_
                    have f7344_ : pvFr fp_X10_image_124 M M7341_ := pvfr_u e7342_ f7339_ rfl
                    obtain ⟨q7346_, b7345_⟩ : (Int32.toInt (i1z7244_ + 1) = Int32.toInt i1z7244_ + Int32.toInt 1) ∧ (1 ≤ Int32.toInt (i1z7244_ + 1) ∧ Int32.toInt (i1z7244_ + 1) ≤ 6) := zadd_r i1z7244_ 1 1 6 b7334_ (show 1 ≤ Int32.toInt 1 ∧ Int32.toInt 1 ≤ 1 from (by decide)) (by decide) (by decide) (by decide) (by decide)
                    have u7347_ : Int32.toInt 1 = 1 := by decide
                    refine pw_blk hT 2 (S' := (219, [some (pvR 124), some (pvI (i1z7244_ + 1))], [], M7341_)) rfl ⟨trivial, trivial, trivial⟩ ?_
                    exact ihz7244_ (i1z7244_ + 1) M7341_ o7343_ f7344_ (zr_wide b7345_ (by decide) (by decide)) (by omega)
              exact hlz7244_ _ 0 Mz6914_ oz6914_ fz6914_ (zr_wide (show 0 ≤ Int32.toInt 0 ∧ Int32.toInt 0 ≤ 0 from (by decide)) (by decide) (by decide)) (Nat.lt_succ_self _)
            · have b7348_ : 0 ≤ Int32.toInt i1z6914_ ∧ Int32.toInt i1z6914_ ≤ 27 := zr_nle_r 27 c6915_ h1z6914_ (show 28 ≤ Int32.toInt 28 ∧ Int32.toInt 28 ≤ 28 from (by decide)) (by decide)
              have b7349_ : 0 ≤ Int32.toInt (Mz6914_.1 130 (Int32.toNatClampNeg i1z6914_)) ∧ Int32.toInt (Mz6914_.1 130 (Int32.toNatClampNeg i1z6914_)) ≤ 9 := pvok_r oz6914_ 130 (Int32.toNatClampNeg i1z6914_) rfl
              refine pw_blkw hT 8 (pc := 211) (lo := [some (pvR 124), some (pvI i1z6914_)]) (st := []) (M := pvu Mz6914_ 156 (Int32.toNatClampNeg i1z6914_) (Mz6914_.1 130 (Int32.toNatClampNeg i1z6914_))) rfl ⟨trivial, rfl, trivial, trivial, rfl, trivial, ⟨rfl, (zr_in (n := 28) b7348_ (by decide) (by decide))⟩, ⟨rfl, (zr_in (n := 28) b7348_ (by decide) (by decide))⟩, trivial⟩ (fun M7350_ e7351_ => ?_)
              have o7352_ : pvOk M7350_ := pvok_u2 e7351_ oz6914_ rfl b7349_
              have f7353_ : pvFr fp_X10_image_124 M M7350_ := pvfr_u e7351_ fz6914_ rfl
              obtain ⟨q7355_, b7354_⟩ : (Int32.toInt (i1z6914_ + 1) = Int32.toInt i1z6914_ + Int32.toInt 1) ∧ (1 ≤ Int32.toInt (i1z6914_ + 1) ∧ Int32.toInt (i1z6914_ + 1) ≤ 28) := zadd_r i1z6914_ 1 1 28 b7348_ (show 1 ≤ Int32.toInt 1 ∧ Int32.toInt 1 ≤ 1 from (by decide)) (by decide) (by decide) (by decide) (by decide)
              have u7356_ : Int32.toInt 1 = 1 := by decide
              refine pw_blk hT 2 (S' := (193, [some (pvR 124), some (pvI (i1z6914_ + 1))], [], M7350_)) rfl ⟨trivial, trivial, trivial⟩ ?_
              exact ihz6914_ (i1z6914_ + 1) M7350_ o7352_ f7353_ (zr_wide b7354_ (by decide) (by decide)) (by omega)
        exact hlz6914_ _ 0 Mz5572_ oz5572_ fz5572_ (zr_wide (show 0 ≤ Int32.toInt 0 ∧ Int32.toInt 0 ≤ 0 from (by decide)) (by decide) (by decide)) (Nat.lt_succ_self _)
      · have b7357_ : 0 ≤ Int32.toInt i1z5572_ ∧ Int32.toInt i1z5572_ ≤ 6 := zr_nle_r 6 c5573_ h1z5572_ (show 7 ≤ Int32.toInt 7 ∧ Int32.toInt 7 ≤ 7 from (by decide)) (by decide)
        have b7358_ : 0 ≤ Int32.toInt (Mz5572_.1 125 (Int32.toNatClampNeg i1z5572_)) ∧ Int32.toInt (Mz5572_.1 125 (Int32.toNatClampNeg i1z5572_)) ≤ 6 := pvok_r oz5572_ 125 (Int32.toNatClampNeg i1z5572_) rfl
        refine pw_blkw hT 8 (pc := 113) (lo := [some (pvR 124), some (pvI i1z5572_)]) (st := []) (M := pvu Mz5572_ 151 (Int32.toNatClampNeg i1z5572_) (Mz5572_.1 125 (Int32.toNatClampNeg i1z5572_))) rfl ⟨trivial, rfl, trivial, trivial, rfl, trivial, ⟨rfl, (zr_in (n := 7) b7357_ (by decide) (by decide))⟩, ⟨rfl, (zr_in (n := 7) b7357_ (by decide) (by decide))⟩, trivial⟩ (fun M7359_ e7360_ => ?_)
        have o7361_ : pvOk M7359_ := pvok_u2 e7360_ oz5572_ rfl b7358_
        have f7362_ : pvFr fp_X10_image_124 M M7359_ := pvfr_u e7360_ fz5572_ rfl
        have b7363_ : 0 ≤ Int32.toInt (M7359_.1 126 (Int32.toNatClampNeg i1z5572_)) ∧ Int32.toInt (M7359_.1 126 (Int32.toNatClampNeg i1z5572_)) ≤ 9 := pvok_r o7361_ 126 (Int32.toNatClampNeg i1z5572_) rfl
        refine pw_blkw hT 8 (pc := 125) (lo := [some (pvR 124), some (pvI i1z5572_)]) (st := []) (M := pvu M7359_ 152 (Int32.toNatClampNeg i1z5572_) (M7359_.1 126 (Int32.toNatClampNeg i1z5572_))) rfl ⟨trivial, rfl, trivial, trivial, rfl, trivial, ⟨rfl, (zr_in (n := 7) b7357_ (by decide) (by decide))⟩, ⟨rfl, (zr_in (n := 7) b7357_ (by decide) (by decide))⟩, trivial⟩ (fun M7364_ e7365_ => ?_)
        have o7366_ : pvOk M7364_ := pvok_u2 e7365_ o7361_ rfl b7363_
        have f7367_ : pvFr fp_X10_image_124 M M7364_ := pvfr_u e7365_ f7362_ rfl
        have b7368_ : 0 ≤ Int32.toInt (M7364_.1 127 (Int32.toNatClampNeg i1z5572_)) ∧ Int32.toInt (M7364_.1 127 (Int32.toNatClampNeg i1z5572_)) ≤ 3 := pvok_r o7366_ 127 (Int32.toNatClampNeg i1z5572_) rfl
        refine pw_blkw hT 8 (pc := 137) (lo := [some (pvR 124), some (pvI i1z5572_)]) (st := []) (M := pvu M7364_ 153 (Int32.toNatClampNeg i1z5572_) (M7364_.1 127 (Int32.toNatClampNeg i1z5572_))) rfl ⟨trivial, rfl, trivial, trivial, rfl, trivial, ⟨rfl, (zr_in (n := 7) b7357_ (by decide) (by decide))⟩, ⟨rfl, (zr_in (n := 7) b7357_ (by decide) (by decide))⟩, trivial⟩ (fun M7369_ e7370_ => ?_)
        have o7371_ : pvOk M7369_ := pvok_u2 e7370_ o7366_ rfl b7368_
        have f7372_ : pvFr fp_X10_image_124 M M7369_ := pvfr_u e7370_ f7367_ rfl
        have b7373_ : 0 ≤ Int32.toInt (M7369_.1 128 (Int32.toNatClampNeg i1z5572_)) ∧ Int32.toInt (M7369_.1 128 (Int32.toNatClampNeg i1z5572_)) ≤ 4 := pvok_r o7371_ 128 (Int32.toNatClampNeg i1z5572_) rfl
        refine pw_blkw hT 8 (pc := 149) (lo := [some (pvR 124), some (pvI i1z5572_)]) (st := []) (M := pvu M7369_ 154 (Int32.toNatClampNeg i1z5572_) (M7369_.1 128 (Int32.toNatClampNeg i1z5572_))) rfl ⟨trivial, rfl, trivial, trivial, rfl, trivial, ⟨rfl, (zr_in (n := 7) b7357_ (by decide) (by decide))⟩, ⟨rfl, (zr_in (n := 7) b7357_ (by decide) (by decide))⟩, trivial⟩ (fun M7374_ e7375_ => ?_)
        have o7376_ : pvOk M7374_ := pvok_u2 e7375_ o7371_ rfl b7373_
        have f7377_ : pvFr fp_X10_image_124 M M7374_ := pvfr_u e7375_ f7372_ rfl
        have b7378_ : 0 ≤ Int32.toInt (M7374_.1 129 (Int32.toNatClampNeg i1z5572_)) ∧ Int32.toInt (M7374_.1 129 (Int32.toNatClampNeg i1z5572_)) ≤ 9 := pvok_r o7376_ 129 (Int32.toNatClampNeg i1z5572_) rfl
        refine pw_blkw hT 8 (pc := 161) (lo := [some (pvR 124), some (pvI i1z5572_)]) (st := []) (M := pvu M7374_ 155 (Int32.toNatClampNeg i1z5572_) (M7374_.1 129 (Int32.toNatClampNeg i1z5572_))) rfl ⟨trivial, rfl, trivial, trivial, rfl, trivial, ⟨rfl, (zr_in (n := 7) b7357_ (by decide) (by decide))⟩, ⟨rfl, (zr_in (n := 7) b7357_ (by decide) (by decide))⟩, trivial⟩ (fun M7379_ e7380_ => ?_)
        have o7381_ : pvOk M7379_ := pvok_u2 e7380_ o7376_ rfl b7378_
        have f7382_ : pvFr fp_X10_image_124 M M7379_ := pvfr_u e7380_ f7377_ rfl
        have b7383_ : 0 ≤ Int32.toInt (M7379_.1 131 (Int32.toNatClampNeg i1z5572_)) ∧ Int32.toInt (M7379_.1 131 (Int32.toNatClampNeg i1z5572_)) ≤ 1 := pvok_r o7381_ 131 (Int32.toNatClampNeg i1z5572_) rfl
        refine pw_blkw hT 8 (pc := 173) (lo := [some (pvR 124), some (pvI i1z5572_)]) (st := []) (M := pvu M7379_ 162 (Int32.toNatClampNeg i1z5572_) (vp_nar .boolean (M7379_.1 131 (Int32.toNatClampNeg i1z5572_)))) rfl ⟨trivial, rfl, trivial, trivial, rfl, trivial, ⟨rfl, (zr_in (n := 7) b7357_ (by decide) (by decide))⟩, ⟨rfl, (zr_in (n := 7) b7357_ (by decide) (by decide))⟩, trivial⟩ (fun M7384_ e7385_ => ?_)
        have o7386_ : pvOk M7384_ := pvok_u2 e7385_ o7381_ rfl (zboolr (M7379_.1 131 (Int32.toNatClampNeg i1z5572_)))
        have f7387_ : pvFr fp_X10_image_124 M M7384_ := pvfr_u e7385_ f7382_ rfl
        have b7388_ : 0 ≤ Int32.toInt (M7384_.1 145 (Int32.toNatClampNeg i1z5572_)) ∧ Int32.toInt (M7384_.1 145 (Int32.toNatClampNeg i1z5572_)) ≤ 6 := pvok_r o7386_ 145 (Int32.toNatClampNeg i1z5572_) rfl
        refine pw_blkw hT 8 (pc := 185) (lo := [some (pvR 124), some (pvI i1z5572_)]) (st := []) (M := pvu M7384_ 157 (Int32.toNatClampNeg i1z5572_) (M7384_.1 145 (Int32.toNatClampNeg i1z5572_))) rfl ⟨trivial, rfl, trivial, trivial, rfl, trivial, ⟨rfl, (zr_in (n := 7) b7357_ (by decide) (by decide))⟩, ⟨rfl, (zr_in (n := 7) b7357_ (by decide) (by decide))⟩, trivial⟩ (fun M7389_ e7390_ => ?_)
        have o7391_ : pvOk M7389_ := pvok_u2 e7390_ o7386_ rfl b7388_
        have f7392_ : pvFr fp_X10_image_124 M M7389_ := pvfr_u e7390_ f7387_ rfl
        obtain ⟨q7394_, b7393_⟩ : (Int32.toInt (i1z5572_ + 1) = Int32.toInt i1z5572_ + Int32.toInt 1) ∧ (1 ≤ Int32.toInt (i1z5572_ + 1) ∧ Int32.toInt (i1z5572_ + 1) ≤ 7) := zadd_r i1z5572_ 1 1 7 b7357_ (show 1 ≤ Int32.toInt 1 ∧ Int32.toInt 1 ≤ 1 from (by decide)) (by decide) (by decide) (by decide) (by decide)
        have u7395_ : Int32.toInt 1 = 1 := by decide
        refine pw_blk hT 2 (S' := (95, [some (pvR 124), some (pvI (i1z5572_ + 1))], [], M7389_)) rfl ⟨trivial, trivial, trivial⟩ ?_
        exact ihz5572_ (i1z5572_ + 1) M7389_ o7391_ f7392_ (zr_wide b7393_ (by decide) (by decide)) (by omega)
  exact hlz5572_ _ 0 M56_ o58_ f59_ (zr_wide (show 0 ≤ Int32.toInt 0 ∧ Int32.toInt 0 ≤ 0 from (by decide)) (by decide) (by decide)) (Nat.lt_succ_self _)
