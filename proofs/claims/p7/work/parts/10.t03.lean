def fpL_X10_book_124_x_x : List (Nat × Nat × Nat) := [(0, 124, 44), (0, 149, 0), (0, 150, 0)]
def fp_X10_book_124_x_x (q k : Nat) : Bool := pvfp fpL_X10_book_124_x_x q k
set_option maxHeartbeats 4000000 in
set_option maxRecDepth 10000 in
theorem sf_X10_book_124_x_x (M : pvM) (hok : pvOk M) (n1 : Int32) (n2 : Int32) (d : Nat) : PW 12 d (0, [some (pvR 124), some (pvI n1), some (pvI n2)], [], M) (fun r X => (∃ x : Int32, r = some (pvI x) ∧ (-4) ≤ Int32.toInt x ∧ Int32.toInt x ≤ 8) ∧ pvOk X ∧ pvFr fp_X10_book_124_x_x M X) := by
  have hT : pvdom 12 = pvD_12 := rfl
  refine pw_blk hT 2 (S' := (2, [some (pvR 124), some (pvI n1), some (pvI n2)], [pvI (-1), pvI n1], M)) rfl ⟨trivial, trivial, trivial⟩ ?_
  refine pw_icn hT (c := n1 = (-1)) rfl rfl (fun c1_ => ?_) (fun c1_ => ?_)
  · refine pw_blk hT 2 (S' := (14, [some (pvR 124), some (pvI n1), some (pvI n2)], [pvI n1, pvR 124], M)) rfl ⟨trivial, trivial, trivial⟩ ?_
    refine pw_callT hT (as := [pvR 124, pvI n1]) (lo1 := [some (pvR 124), some (pvI n1)]) (d1 := d) (rest := []) rfl rfl rfl rfl rfl (fun _ => rfl) (Nat.zero_le _) rfl rfl rfl (sf_X10_isWindow_124_x M hok n1 d) ?_
    by_cases c7_ : n1 < 0
    · refine pw_eqI (if_pos c7_) ?_
      have b8_ : (-2147483648) ≤ Int32.toInt n1 ∧ Int32.toInt n1 ≤ (-2) := (by have u0 := (zbnd n1); have u9 := (show _ ∧ _ from ⟨(zi_lt _ _).mp c7_, (show 0 ≤ Int32.toInt 0 ∧ Int32.toInt 0 ≤ 0 from (by decide))⟩); have v1 := (not_congr (zi_eq _ _)).mp c1_; have w1 : ((-1) : Int32).toInt = -1 := (by decide); omega)
      show PW 12 d (17, [some (pvR 124), some (pvI n1), some (pvI n2)], [pvI 0], M) _
      refine pw_ifn hT (c := 0 = 0) rfl rfl (fun c9_ => absurd (by decide) c9_) (fun c9_ => ?_)
      refine pw_blk hT 1 (S' := (21, [some (pvR 124), some (pvI n1), some (pvI n2)], [pvI (-1)], M)) rfl ⟨trivial, trivial⟩ ?_
      exact pw_ret hT rfl (r := some (pvI (-1))) (M' := M) ⟨rfl, rfl⟩ ⟨⟨_, rfl, (zr_wide (show (-1) ≤ Int32.toInt (-1) ∧ Int32.toInt (-1) ≤ (-1) from (by decide)) (by decide) (by decide))⟩, hok, pvfr_0⟩
    · refine pw_eqI (if_neg c7_) ?_
      have b10_ : 0 ≤ Int32.toInt n1 ∧ Int32.toInt n1 ≤ 2147483647 := zr_nlt_l 0 c7_ (zbnd n1) (show 0 ≤ Int32.toInt 0 ∧ Int32.toInt 0 ≤ 0 from (by decide)) (by decide)
      have b11_ : 0 ≤ Int32.toInt (M.1 124 0) ∧ Int32.toInt (M.1 124 0) ≤ 7 := pvok_r hok 124 0 rfl
      obtain ⟨q13_, b12_⟩ : (Int32.toInt ((M.1 124 0) - 1) = Int32.toInt (M.1 124 0) - 1) ∧ ((-1) ≤ Int32.toInt ((M.1 124 0) - 1) ∧ Int32.toInt ((M.1 124 0) - 1) ≤ 6) := zsub_k (M.1 124 0) 1 1 (-1) 6 b11_ (by decide) (by decide) (by decide) (by decide) (by decide)
      by_cases c14_ : ((M.1 124 0) - 1) < n1
      · refine pw_eqI (if_pos c14_) ?_
        have d15_ : Int32.toInt ((M.1 124 0) - 1) < Int32.toInt n1 := (zi_lt _ _).mp c14_
        show PW 12 d (17, [some (pvR 124), some (pvI n1), some (pvI n2)], [pvI 0], M) _
        refine pw_ifn hT (c := 0 = 0) rfl rfl (fun c16_ => absurd (by decide) c16_) (fun c16_ => ?_)
        refine pw_blk hT 1 (S' := (21, [some (pvR 124), some (pvI n1), some (pvI n2)], [pvI (-1)], M)) rfl ⟨trivial, trivial⟩ ?_
        exact pw_ret hT rfl (r := some (pvI (-1))) (M' := M) ⟨rfl, rfl⟩ ⟨⟨_, rfl, (zr_wide (show (-1) ≤ Int32.toInt (-1) ∧ Int32.toInt (-1) ≤ (-1) from (by decide)) (by decide) (by decide))⟩, hok, pvfr_0⟩
      · refine pw_eqI (if_neg c14_) ?_
        have b17_ : 0 ≤ Int32.toInt ((M.1 124 0) - 1) ∧ Int32.toInt ((M.1 124 0) - 1) ≤ 6 := zr_nlt_l 0 c14_ b12_ b10_ (by decide)
        have b18_ : 0 ≤ Int32.toInt n1 ∧ Int32.toInt n1 ≤ 6 := zr_nlt_r 6 c14_ b10_ b17_ (by decide)
        have d19_ : Int32.toInt ((M.1 124 0) - 1) ≥ Int32.toInt n1 := Int.not_lt.mp ((not_congr (zi_lt _ _)).mp c14_)
        show PW 12 d (17, [some (pvR 124), some (pvI n1), some (pvI n2)], [pvI 1], M) _
        refine pw_ifn hT (c := 1 = 0) rfl rfl (fun c20_ => ?_) (fun c20_ => absurd c20_ (by decide))
        refine pw_blk hT 4 (S' := (28, [some (pvR 124), some (pvI n1), some (pvI n2)], [pvI 9999, pvI 0, pvI n2, pvR 124], M)) rfl ⟨trivial, trivial, trivial, trivial, trivial⟩ ?_
        refine pw_callT hT (as := [pvR 124, pvI n2, pvI 0, pvI 9999]) (lo1 := [some (pvR 124), some (pvI n2), some (pvI 0), some (pvI 9999)]) (d1 := d) (rest := []) rfl rfl rfl rfl rfl (fun _ => rfl) (Nat.zero_le _) rfl rfl rfl (sf_X10_in_124_x_x_x M hok n2 0 9999 d) ?_
        by_cases c26_ : n2 < 0
        · refine pw_eqI (if_pos c26_) ?_
          have b27_ : (-2147483648) ≤ Int32.toInt n2 ∧ Int32.toInt n2 ≤ (-1) := zr_lt_l (-1) c26_ (zbnd n2) (show 0 ≤ Int32.toInt 0 ∧ Int32.toInt 0 ≤ 0 from (by decide)) (by decide)
          show PW 12 d (31, [some (pvR 124), some (pvI n1), some (pvI n2)], [pvI 0], M) _
          refine pw_ifn hT (c := 0 = 0) rfl rfl (fun c28_ => absurd (by decide) c28_) (fun c28_ => ?_)
          refine pw_blk hT 1 (S' := (36, [some (pvR 124), some (pvI n1), some (pvI n2)], [pvI (-2)], M)) rfl ⟨trivial, trivial⟩ ?_
          exact pw_ret hT rfl (r := some (pvI (-2))) (M' := M) ⟨rfl, rfl⟩ ⟨⟨_, rfl, (zr_wide (show (-2) ≤ Int32.toInt (-2) ∧ Int32.toInt (-2) ≤ (-2) from (by decide)) (by decide) (by decide))⟩, hok, pvfr_0⟩
        · refine pw_eqI (if_neg c26_) ?_
          have b29_ : 0 ≤ Int32.toInt n2 ∧ Int32.toInt n2 ≤ 2147483647 := zr_nlt_l 0 c26_ (zbnd n2) (show 0 ≤ Int32.toInt 0 ∧ Int32.toInt 0 ≤ 0 from (by decide)) (by decide)
          by_cases c30_ : 9999 < n2
          · refine pw_eqI (if_pos c30_) ?_
            have b31_ : 10000 ≤ Int32.toInt n2 ∧ Int32.toInt n2 ≤ 2147483647 := zr_lt_r 10000 c30_ b29_ (show 9999 ≤ Int32.toInt 9999 ∧ Int32.toInt 9999 ≤ 9999 from (by decide)) (by decide)
            show PW 12 d (31, [some (pvR 124), some (pvI n1), some (pvI n2)], [pvI 0], M) _
            refine pw_ifn hT (c := 0 = 0) rfl rfl (fun c32_ => absurd (by decide) c32_) (fun c32_ => ?_)
            refine pw_blk hT 1 (S' := (36, [some (pvR 124), some (pvI n1), some (pvI n2)], [pvI (-2)], M)) rfl ⟨trivial, trivial⟩ ?_
            exact pw_ret hT rfl (r := some (pvI (-2))) (M' := M) ⟨rfl, rfl⟩ ⟨⟨_, rfl, (zr_wide (show (-2) ≤ Int32.toInt (-2) ∧ Int32.toInt (-2) ≤ (-2) from (by decide)) (by decide) (by decide))⟩, hok, pvfr_0⟩
          · refine pw_eqI (if_neg c30_) ?_
            have b33_ : 0 ≤ Int32.toInt n2 ∧ Int32.toInt n2 ≤ 9999 := zr_nlt_r 9999 c30_ b29_ (show 9999 ≤ Int32.toInt 9999 ∧ Int32.toInt 9999 ≤ 9999 from (by decide)) (by decide)
            show PW 12 d (31, [some (pvR 124), some (pvI n1), some (pvI n2)], [pvI 1], M) _
            refine pw_ifn hT (c := 1 = 0) rfl rfl (fun c34_ => ?_) (fun c34_ => absurd c34_ (by decide))
            have b35_ : 0 ≤ Int32.toInt (M.1 124 43) ∧ Int32.toInt (M.1 124 43) ≤ 8 := pvok_r hok 124 43 rfl
            refine pw_blk hT 3 (S' := (43, [some (pvR 124), some (pvI n1), some (pvI n2)], [pvI 8, pvI (M.1 124 43)], M)) rfl ⟨trivial, rfl, trivial, trivial⟩ ?_
            refine pw_icn hT (c := (M.1 124 43) = 8) rfl rfl (fun c36_ => ?_) (fun c36_ => ?_)
            · have b37_ : 0 ≤ Int32.toInt (M.1 124 43) ∧ Int32.toInt (M.1 124 43) ≤ 7 := (by have u0 := b35_; have u1 := (not_congr (zi_eq _ _)).mp c36_; have u2 := (show 8 ≤ Int32.toInt 8 ∧ Int32.toInt 8 ≤ 8 from (by decide)); omega)
              refine pw_blkw hT 6 (pc := 59) (lo := [some (pvR 124), some (pvI n1), some (pvI n2)]) (st := []) (M := pvu M 149 (Int32.toNatClampNeg (M.1 124 43)) n1) rfl ⟨trivial, rfl, trivial, rfl, trivial, ⟨rfl, (zr_in (n := 8) b37_ (by decide) (by decide))⟩, trivial⟩ (fun M38_ e39_ => ?_)
              have o40_ : pvOk M38_ := pvok_u2 e39_ hok rfl b18_
              have f41_ : pvFr fp_X10_book_124_x_x M M38_ := pvfr_u e39_ pvfr_0 rfl
              have e42_ : (M38_.1 124 43) = (M.1 124 43) := (pvu_n e39_ 124 43 (Or.inl (by decide)))
              have b43_ : 0 ≤ Int32.toInt (M38_.1 124 43) ∧ Int32.toInt (M38_.1 124 43) ≤ 7 := (by rw [e42_]; exact b37_)
              refine pw_blkw hT 6 (pc := 69) (lo := [some (pvR 124), some (pvI n1), some (pvI n2)]) (st := []) (M := pvu M38_ 150 (Int32.toNatClampNeg (M38_.1 124 43)) n2) rfl ⟨trivial, rfl, trivial, rfl, trivial, ⟨rfl, (zr_in (n := 8) b43_ (by decide) (by decide))⟩, trivial⟩ (fun M44_ e45_ => ?_)
              have o46_ : pvOk M44_ := pvok_u2 e45_ o40_ rfl b33_
              have f47_ : pvFr fp_X10_book_124_x_x M M44_ := pvfr_u e45_ f41_ rfl
              have e48_ : (M44_.1 124 43) = (M38_.1 124 43) := (pvu_n e45_ 124 43 (Or.inl (by decide)))
              have b49_ : 0 ≤ Int32.toInt (M44_.1 124 43) ∧ Int32.toInt (M44_.1 124 43) ≤ 7 := (by rw [e48_]; exact b43_)
              obtain ⟨q51_, b50_⟩ : (Int32.toInt ((M44_.1 124 43) + 1) = Int32.toInt (M44_.1 124 43) + 1) ∧ (1 ≤ Int32.toInt ((M44_.1 124 43) + 1) ∧ Int32.toInt ((M44_.1 124 43) + 1) ≤ 8) := zadd_k (M44_.1 124 43) 1 1 1 8 b49_ (by decide) (by decide) (by decide) (by decide) (by decide)
              refine pw_blkw hT 6 (pc := 79) (lo := [some (pvR 124), some (pvI n1), some (pvI n2)]) (st := []) (M := pvu M44_ 124 43 ((M44_.1 124 43) + 1)) rfl ⟨trivial, trivial, rfl, trivial, trivial, rfl, trivial⟩ (fun M52_ e53_ => ?_)
              have o54_ : pvOk M52_ := pvok_u2 e53_ o46_ rfl (zr_wide b50_ (by decide) (by decide))
              have f55_ : pvFr fp_X10_book_124_x_x M M52_ := pvfr_u e53_ f47_ rfl
              have e56_ : (M52_.1 124 43) = ((M44_.1 124 43) + 1) := (pvu_s e53_)
              have b57_ : 1 ≤ Int32.toInt (M52_.1 124 43) ∧ Int32.toInt (M52_.1 124 43) ≤ 8 := (by rw [e56_]; exact b50_)
              refine pw_blk hT 2 (S' := (83, [some (pvR 124), some (pvI n1), some (pvI n2)], [pvI (M52_.1 124 43)], M52_)) rfl ⟨trivial, rfl, trivial⟩ ?_
              exact pw_ret hT rfl (r := some (pvI (M52_.1 124 43))) (M' := M52_) ⟨rfl, rfl⟩ ⟨⟨_, rfl, (zr_wide b57_ (by decide) (by decide))⟩, o54_, f55_⟩
            · have b58_ : 8 ≤ Int32.toInt (M.1 124 43) ∧ Int32.toInt (M.1 124 43) ≤ 8 := (by have u0 := b35_; have u1 := (zi_eq _ _).mp c36_; have u2 := (show 8 ≤ Int32.toInt 8 ∧ Int32.toInt 8 ≤ 8 from (by decide)); omega)
              refine pw_blk hT 1 (S' := (48, [some (pvR 124), some (pvI n1), some (pvI n2)], [pvI (-4)], M)) rfl ⟨trivial, trivial⟩ ?_
              exact pw_ret hT rfl (r := some (pvI (-4))) (M' := M) ⟨rfl, rfl⟩ ⟨⟨_, rfl, (zr_wide (show (-4) ≤ Int32.toInt (-4) ∧ Int32.toInt (-4) ≤ (-4) from (by decide)) (by decide) (by decide))⟩, hok, pvfr_0⟩
  · have b59_ : (-1) ≤ Int32.toInt n1 ∧ Int32.toInt n1 ≤ (-1) := (by have u0 := (zbnd n1); have u1 := (zi_eq _ _).mp c1_; have u2 := (show (-1) ≤ Int32.toInt (-1) ∧ Int32.toInt (-1) ≤ (-1) from (by decide)); omega)
    refine pw_blkw hT 3 (pc := 10) (lo := [some (pvR 124), some (pvI n1), some (pvI n2)]) (st := []) (M := pvu M 124 43 0) rfl ⟨trivial, trivial, rfl, trivial⟩ (fun M60_ e61_ => ?_)
    have o62_ : pvOk M60_ := pvok_u2 e61_ hok rfl (zr_wide (show 0 ≤ Int32.toInt 0 ∧ Int32.toInt 0 ≤ 0 from (by decide)) (by decide) (by decide))
    have f63_ : pvFr fp_X10_book_124_x_x M M60_ := pvfr_u e61_ pvfr_0 rfl
    refine pw_blk hT 1 (S' := (11, [some (pvR 124), some (pvI n1), some (pvI n2)], [pvI 0], M60_)) rfl ⟨trivial, trivial⟩ ?_
    exact pw_ret hT rfl (r := some (pvI 0)) (M' := M60_) ⟨rfl, rfl⟩ ⟨⟨_, rfl, (zr_wide (show 0 ≤ Int32.toInt 0 ∧ Int32.toInt 0 ≤ 0 from (by decide)) (by decide) (by decide))⟩, o62_, f63_⟩
def fpL_X10_costOfNone_124 : List (Nat × Nat × Nat) := [(0, 143, 0)]
def fp_X10_costOfNone_124 (q k : Nat) : Bool := pvfp fpL_X10_costOfNone_124 q k
theorem fp_X10_costOfNone_124_fp_X10_layOpen_124 (a b : Nat) (h : fp_X10_layOpen_124 a b = true) : fp_X10_costOfNone_124 a b = true := pvfp_sub (l1 := fpL_X10_layOpen_124) (l2 := fpL_X10_costOfNone_124) (by decide) a b h
set_option maxHeartbeats 4000000 in
set_option maxRecDepth 10000 in
theorem sf_X10_costOfNone_124 (M : pvM) (hok : pvOk M) (d : Nat) : PW 13 d (0, [some (pvR 124)], [], M) (fun r X => (∃ x : Int32, r = some (pvI x) ∧ 0 ≤ Int32.toInt x ∧ Int32.toInt x ≤ 9000000) ∧ pvOk X ∧ pvFr fp_X10_costOfNone_124 M X) := by
  have hT : pvdom 13 = pvD_13 := rfl
  refine pw_blk hT 1 (S' := (1, [some (pvR 124)], [pvR 124], M)) rfl ⟨trivial, trivial⟩ ?_
  refine pw_callV hT (as := [pvR 124]) (lo1 := [some (pvR 124), none]) (d1 := d) (rest := []) rfl rfl rfl rfl rfl (fun _ => rfl) (Nat.zero_le _) rfl rfl rfl (sf_X10_layOpen_124 M hok d) (fun M2_ o4_ g5_ => ?_)
  have f6_ : pvFr fp_X10_costOfNone_124 M M2_ := pvfr_t g5_ pvfr_0 fp_X10_costOfNone_124_fp_X10_layOpen_124
  refine pw_blk hT 1 (S' := (5, [some (pvR 124)], [pvR 124], M2_)) rfl ⟨trivial, trivial⟩ ?_
  refine pw_callGp hT (as := [pvR 124]) (lo1 := [some (pvR 124)]) (d1 := d) (rest := []) rfl rfl rfl rfl rfl (fun _ => rfl) (Nat.zero_le _) rfl rfl rfl (sf_X10_harmTillEnd_124 M2_ o4_ d) (fun x7_ b9_ => ?_)
  exact pw_ret hT rfl (r := some (pvI x7_)) (M' := M2_) ⟨rfl, rfl⟩ ⟨⟨_, rfl, b9_⟩, o4_, f6_⟩
def fpL_X10_costOfRound_124_x : List (Nat × Nat × Nat) := [(0, 124, 33), (0, 124, 36), (0, 141, 0), (0, 142, 0), (0, 143, 0), (0, 144, 0)]
def fp_X10_costOfRound_124_x (q k : Nat) : Bool := pvfp fpL_X10_costOfRound_124_x q k
theorem fp_X10_costOfRound_124_x_fp_X10_costOfPath_124_x (a b : Nat) (h : fp_X10_costOfPath_124_x a b = true) : fp_X10_costOfRound_124_x a b = true := pvfp_sub (l1 := fpL_X10_costOfPath_124_x) (l2 := fpL_X10_costOfRound_124_x) (by decide) a b h
theorem fp_X10_costOfRound_124_x_fp_X10_layRain_124 (a b : Nat) (h : fp_X10_layRain_124 a b = true) : fp_X10_costOfRound_124_x a b = true := pvfp_sub (l1 := fpL_X10_layRain_124) (l2 := fpL_X10_costOfRound_124_x) (by decide) a b h
theorem fp_X10_costOfRound_124_x_fp_X10_layRound_124 (a b : Nat) (h : fp_X10_layRound_124 a b = true) : fp_X10_costOfRound_124_x a b = true := pvfp_sub (l1 := fpL_X10_layRound_124) (l2 := fpL_X10_costOfRound_124_x) (by decide) a b h
set_option maxHeartbeats 4000000 in
set_option maxRecDepth 10000 in
theorem sf_X10_costOfRound_124_x (M : pvM) (hok : pvOk M) (n1 : Int32) (hn1 : 0 ≤ Int32.toInt n1 ∧ Int32.toInt n1 ≤ 60) (d : Nat) : PW 15 d (0, [some (pvR 124), some (pvI n1)], [], M) (fun r X => (∃ x : Int32, r = some (pvI x) ∧ 0 ≤ Int32.toInt x ∧ Int32.toInt x ≤ 9000000) ∧ pvOk X ∧ pvFr fp_X10_costOfRound_124_x M X) := by
  have hT : pvdom 15 = pvD_15 := rfl
  refine pw_blk hT 1 (S' := (1, [some (pvR 124), some (pvI n1)], [pvR 124], M)) rfl ⟨trivial, trivial⟩ ?_
  refine pw_callV hT (as := [pvR 124]) (lo1 := [some (pvR 124), none, none]) (d1 := d) (rest := []) rfl rfl rfl rfl rfl (fun _ => rfl) (Nat.zero_le _) rfl rfl rfl (sf_X10_layRain_124 M hok d) (fun M2_ o4_ g5_ => ?_)
  have f6_ : pvFr fp_X10_costOfRound_124_x M M2_ := pvfr_t g5_ pvfr_0 fp_X10_costOfRound_124_x_fp_X10_layRain_124
  refine pw_blk hT 1 (S' := (5, [some (pvR 124), some (pvI n1)], [pvR 124], M2_)) rfl ⟨trivial, trivial⟩ ?_
  refine pw_callV hT (as := [pvR 124]) (lo1 := [some (pvR 124), none]) (d1 := d) (rest := []) rfl rfl rfl rfl rfl (fun _ => rfl) (Nat.zero_le _) rfl rfl rfl (sf_X10_layRound_124 M2_ o4_ d) (fun M8_ o10_ g11_ => ?_)
  have f12_ : pvFr fp_X10_costOfRound_124_x M M8_ := pvfr_t g11_ f6_ fp_X10_costOfRound_124_x_fp_X10_layRound_124
  refine pw_blk hT 2 (S' := (10, [some (pvR 124), some (pvI n1)], [pvI n1, pvR 124], M8_)) rfl ⟨trivial, trivial, trivial⟩ ?_
  refine pw_callG hT (as := [pvR 124, pvI n1]) (lo1 := [some (pvR 124), some (pvI n1), none]) (d1 := d) (rest := []) rfl rfl rfl rfl rfl (fun _ => rfl) (Nat.zero_le _) rfl rfl rfl (sf_X10_costOfPath_124_x M8_ o10_ n1 hn1 d) (fun x13_ M14_ b15_ o16_ g17_ => ?_)
  have f18_ : pvFr fp_X10_costOfRound_124_x M M14_ := pvfr_t g17_ f12_ fp_X10_costOfRound_124_x_fp_X10_costOfPath_124_x
  exact pw_ret hT rfl (r := some (pvI x13_)) (M' := M14_) ⟨rfl, rfl⟩ ⟨⟨_, rfl, b15_⟩, o16_, f18_⟩
set_option maxHeartbeats 4000000 in
set_option maxRecDepth 10000 in
theorem sf_X10_count_124_x (M : pvM) (hok : pvOk M) (n1 : Int32) (d : Nat) : PW 16 d (0, [some (pvR 124), some (pvI n1)], [], M) (fun r X => r = some (pvI ((if n1 = 0 then (M.1 124 0) else (if n1 = 1 then (M.1 124 14) else (if n1 = 2 then (M.1 124 37) else (if n1 = 3 then (M.1 124 40) else (if n1 = 4 then (M.1 124 43) else (if n1 = 5 then (M.1 124 16) else (if n1 = 6 then (M.1 124 70) else (-2)))))))))) ∧ X = M) := by
  have hT : pvdom 16 = pvD_16 := rfl
  refine pw_blk hT 1 (S' := (1, [some (pvR 124), some (pvI n1)], [pvI n1], M)) rfl ⟨trivial, trivial⟩ ?_
  refine pw_sw hT rfl rfl ?_
  refine And.intro (fun c1_ => ?_) (fun c1_ => ?_)
  · show PW 16 d (44, [some (pvR 124), some (pvI n1)], [], M) _
    have b2_ : 0 ≤ Int32.toInt n1 ∧ Int32.toInt n1 ≤ 0 := (by have u0 := (zbnd n1); have u1 := (zi_eq _ _).mp c1_; have u2 := (show 0 ≤ Int32.toInt 0 ∧ Int32.toInt 0 ≤ 0 from (by decide)); omega)
    have b3_ : 0 ≤ Int32.toInt (M.1 124 0) ∧ Int32.toInt (M.1 124 0) ≤ 7 := pvok_r hok 124 0 rfl
    refine pw_blk hT 2 (S' := (48, [some (pvR 124), some (pvI n1)], [pvI (M.1 124 0)], M)) rfl ⟨trivial, rfl, trivial⟩ ?_
    exact pw_ret hT rfl (r := some (pvI (M.1 124 0))) (M' := M) ⟨rfl, rfl⟩ ⟨(by rw [if_pos c1_]), rfl⟩
  · refine And.intro (fun c4_ => ?_) (fun c4_ => ?_)
    · show PW 16 d (49, [some (pvR 124), some (pvI n1)], [], M) _
      have b5_ : 1 ≤ Int32.toInt n1 ∧ Int32.toInt n1 ≤ 1 := (by have u0 := (zbnd n1); have u1 := (zi_eq _ _).mp c4_; have u2 := (show 1 ≤ Int32.toInt 1 ∧ Int32.toInt 1 ≤ 1 from (by decide)); omega)
      have b6_ : 0 ≤ Int32.toInt (M.1 124 14) ∧ Int32.toInt (M.1 124 14) ≤ 6 := pvok_r hok 124 14 rfl
      refine pw_blk hT 2 (S' := (53, [some (pvR 124), some (pvI n1)], [pvI (M.1 124 14)], M)) rfl ⟨trivial, rfl, trivial⟩ ?_
      exact pw_ret hT rfl (r := some (pvI (M.1 124 14))) (M' := M) ⟨rfl, rfl⟩ ⟨(by rw [if_neg c1_, if_pos c4_]), rfl⟩
    · refine And.intro (fun c7_ => ?_) (fun c7_ => ?_)
      · show PW 16 d (54, [some (pvR 124), some (pvI n1)], [], M) _
        have b8_ : 2 ≤ Int32.toInt n1 ∧ Int32.toInt n1 ≤ 2 := (by have u0 := (zbnd n1); have u1 := (zi_eq _ _).mp c7_; have u2 := (show 2 ≤ Int32.toInt 2 ∧ Int32.toInt 2 ≤ 2 from (by decide)); omega)
        have b9_ : 0 ≤ Int32.toInt (M.1 124 37) ∧ Int32.toInt (M.1 124 37) ≤ 7 := pvok_r hok 124 37 rfl
        refine pw_blk hT 2 (S' := (58, [some (pvR 124), some (pvI n1)], [pvI (M.1 124 37)], M)) rfl ⟨trivial, rfl, trivial⟩ ?_
        exact pw_ret hT rfl (r := some (pvI (M.1 124 37))) (M' := M) ⟨rfl, rfl⟩ ⟨(by rw [if_neg c1_, if_neg c4_, if_pos c7_]), rfl⟩
      · refine And.intro (fun c10_ => ?_) (fun c10_ => ?_)
        · show PW 16 d (59, [some (pvR 124), some (pvI n1)], [], M) _
          have b11_ : 3 ≤ Int32.toInt n1 ∧ Int32.toInt n1 ≤ 3 := (by have u0 := (zbnd n1); have u1 := (zi_eq _ _).mp c10_; have u2 := (show 3 ≤ Int32.toInt 3 ∧ Int32.toInt 3 ≤ 3 from (by decide)); omega)
          have b12_ : 0 ≤ Int32.toInt (M.1 124 40) ∧ Int32.toInt (M.1 124 40) ≤ 6 := pvok_r hok 124 40 rfl
          refine pw_blk hT 2 (S' := (63, [some (pvR 124), some (pvI n1)], [pvI (M.1 124 40)], M)) rfl ⟨trivial, rfl, trivial⟩ ?_
          exact pw_ret hT rfl (r := some (pvI (M.1 124 40))) (M' := M) ⟨rfl, rfl⟩ ⟨(by rw [if_neg c1_, if_neg c4_, if_neg c7_, if_pos c10_]), rfl⟩
        · refine And.intro (fun c13_ => ?_) (fun c13_ => ?_)
          · show PW 16 d (64, [some (pvR 124), some (pvI n1)], [], M) _
            have b14_ : 4 ≤ Int32.toInt n1 ∧ Int32.toInt n1 ≤ 4 := (by have u0 := (zbnd n1); have u1 := (zi_eq _ _).mp c13_; have u2 := (show 4 ≤ Int32.toInt 4 ∧ Int32.toInt 4 ≤ 4 from (by decide)); omega)
            have b15_ : 0 ≤ Int32.toInt (M.1 124 43) ∧ Int32.toInt (M.1 124 43) ≤ 8 := pvok_r hok 124 43 rfl
            refine pw_blk hT 2 (S' := (68, [some (pvR 124), some (pvI n1)], [pvI (M.1 124 43)], M)) rfl ⟨trivial, rfl, trivial⟩ ?_
            exact pw_ret hT rfl (r := some (pvI (M.1 124 43))) (M' := M) ⟨rfl, rfl⟩ ⟨(by rw [if_neg c1_, if_neg c4_, if_neg c7_, if_neg c10_, if_pos c13_]), rfl⟩
          · refine And.intro (fun c16_ => ?_) (fun c16_ => ?_)
            · show PW 16 d (69, [some (pvR 124), some (pvI n1)], [], M) _
              have b17_ : 5 ≤ Int32.toInt n1 ∧ Int32.toInt n1 ≤ 5 := (by have u0 := (zbnd n1); have u1 := (zi_eq _ _).mp c16_; have u2 := (show 5 ≤ Int32.toInt 5 ∧ Int32.toInt 5 ≤ 5 from (by decide)); omega)
              have b18_ : 0 ≤ Int32.toInt (M.1 124 16) ∧ Int32.toInt (M.1 124 16) ≤ 100 := pvok_r hok 124 16 rfl
              refine pw_blk hT 2 (S' := (73, [some (pvR 124), some (pvI n1)], [pvI (M.1 124 16)], M)) rfl ⟨trivial, rfl, trivial⟩ ?_
              exact pw_ret hT rfl (r := some (pvI (M.1 124 16))) (M' := M) ⟨rfl, rfl⟩ ⟨(by rw [if_neg c1_, if_neg c4_, if_neg c7_, if_neg c10_, if_neg c13_, if_pos c16_]), rfl⟩
            · refine And.intro (fun c19_ => ?_) (fun c19_ => ?_)
              · show PW 16 d (74, [some (pvR 124), some (pvI n1)], [], M) _
                have b20_ : 6 ≤ Int32.toInt n1 ∧ Int32.toInt n1 ≤ 6 := (by have u0 := (zbnd n1); have u1 := (zi_eq _ _).mp c19_; have u2 := (show 6 ≤ Int32.toInt 6 ∧ Int32.toInt 6 ≤ 6 from (by decide)); omega)
                have b21_ : 0 ≤ Int32.toInt (M.1 124 70) ∧ Int32.toInt (M.1 124 70) ≤ 1000000 := pvok_r hok 124 70 rfl
                refine pw_blk hT 2 (S' := (78, [some (pvR 124), some (pvI n1)], [pvI (M.1 124 70)], M)) rfl ⟨trivial, rfl, trivial⟩ ?_
                exact pw_ret hT rfl (r := some (pvI (M.1 124 70))) (M' := M) ⟨rfl, rfl⟩ ⟨(by rw [if_neg c1_, if_neg c4_, if_neg c7_, if_neg c10_, if_neg c13_, if_neg c16_, if_pos c19_]), rfl⟩
              · show PW 16 d (79, [some (pvR 124), some (pvI n1)], [], M) _
                refine pw_blk hT 1 (S' := (81, [some (pvR 124), some (pvI n1)], [pvI (-2)], M)) rfl ⟨trivial, trivial⟩ ?_
                exact pw_ret hT rfl (r := some (pvI (-2))) (M' := M) ⟨rfl, rfl⟩ ⟨(by rw [if_neg c1_, if_neg c4_, if_neg c7_, if_neg c10_, if_neg c13_, if_neg c16_, if_neg c19_]), rfl⟩
set_option maxHeartbeats 4000000 in
set_option maxRecDepth 10000 in
theorem sf_X10_divisor_124_x_x (M : pvM) (hok : pvOk M) (n1 : Int32) (n2 : Int32) (hn1 : 0 ≤ Int32.toInt n1 ∧ Int32.toInt n1 ≤ 90000000) (hn2 : 1 ≤ Int32.toInt n2 ∧ Int32.toInt n2 ≤ 10) (d : Nat) : PW 17 d (0, [some (pvR 124), some (pvI n1), some (pvI n2), none, none, none], [], M) (fun r X => (∃ x : Int32, r = some (pvI x) ∧ 1 ≤ Int32.toInt x ∧ Int32.toInt x ≤ 90000000) ∧ X = M) := by
  have hT : pvdom 17 = pvD_17 := rfl
  refine pw_blk hT 4 (S' := (5, [some (pvR 124), some (pvI n1), some (pvI n2), some (pvI n1), some (pvI n2), none], [], M)) rfl ⟨trivial, trivial, trivial, trivial, trivial⟩ ?_
  have hlz14_ : ∀ (nz14_ : Nat) (i3z14_ : Int32) (i4z14_ : Int32) (v5z14_ : Option pvV), (0 ≤ Int32.toInt i3z14_ ∧ Int32.toInt i3z14_ ≤ 90000000) → (0 ≤ Int32.toInt i4z14_ ∧ Int32.toInt i4z14_ ≤ 10) → (1 ≤ Int32.toInt i3z14_ ∨ 1 ≤ Int32.toInt i4z14_) → (zhide ((Int32.toInt i4z14_).toNat < nz14_)) → PW 17 d (5, [some (pvR 124), some (pvI n1), some (pvI n2), some (pvI i3z14_), some (pvI i4z14_), v5z14_], [], M) (fun r X => (∃ x : Int32, r = some (pvI x) ∧ 1 ≤ Int32.toInt x ∧ Int32.toInt x ≤ 90000000) ∧ X = M) := by
    intro nz14_
    induction nz14_ with
    | zero => intro i3z14_ i4z14_ v5z14_ h3z14_ h4z14_ j0z14_ hmz14_; exact absurd (zshow hmz14_) (Nat.not_lt_zero _)
    | succ nz14_ ihz14_ =>
      intro i3z14_ i4z14_ v5z14_ h3z14_ h4z14_ j0z14_ hmz14_
      refine pw_blk hT 1 (S' := (7, [some (pvR 124), some (pvI n1), some (pvI n2), some (pvI i3z14_), some (pvI i4z14_), v5z14_], [pvI i4z14_], M)) rfl ⟨trivial, trivial⟩ ?_
      refine pw_if hT (c := i4z14_ = 0) rfl rfl (fun c15_ => ?_) (fun c15_ => ?_)
      · have b16_ : 0 ≤ Int32.toInt i4z14_ ∧ Int32.toInt i4z14_ ≤ 0 := (by have u0 := h4z14_; have u1 := (zi_eq _ _).mp c15_; have u2 := (show 0 ≤ Int32.toInt 0 ∧ Int32.toInt 0 ≤ 0 from (by decide)); omega)
        refine pw_blk hT 1 (S' := (27, [some (pvR 124), some (pvI n1), some (pvI n2), some (pvI i3z14_), some (pvI i4z14_), v5z14_], [pvI i3z14_], M)) rfl ⟨trivial, trivial⟩ ?_
        exact pw_ret hT rfl (r := some (pvI i3z14_)) (M' := M) ⟨rfl, rfl⟩ ⟨⟨_, rfl, (by have u0 := h3z14_; omega)⟩, rfl⟩
      · have b17_ : 1 ≤ Int32.toInt i4z14_ ∧ Int32.toInt i4z14_ ≤ 10 := (by have u0 := h4z14_; have u1 := (not_congr (zi_eq _ _)).mp c15_; have u2 := (show 0 ≤ Int32.toInt 0 ∧ Int32.toInt 0 ≤ 0 from (by decide)); omega)
        have q18_ : 0 ≤ Int32.toInt (i3z14_ - i3z14_ / i4z14_ * i4z14_) ∧ Int32.toInt (i3z14_ - i3z14_ / i4z14_ * i4z14_) < Int32.toInt i4z14_ := pvrem i3z14_ i4z14_ (by have u0 := h3z14_; omega) (by have u0 := b17_; omega)
        have b19_ : 0 ≤ Int32.toInt (i3z14_ - i3z14_ / i4z14_ * i4z14_) ∧ Int32.toInt (i3z14_ - i3z14_ / i4z14_ * i4z14_) ≤ 9 := (by have u0 := q18_; have u1 := b17_; omega)
        refine pw_blk hT 9 (S' := (5, [some (pvR 124), some (pvI n1), some (pvI n2), some (pvI i4z14_), some (pvI (i3z14_ - i3z14_ / i4z14_ * i4z14_)), some (pvI (i3z14_ - i3z14_ / i4z14_ * i4z14_))], [], M)) rfl ⟨trivial, trivial, c15_, trivial, trivial, trivial, trivial, trivial, trivial, trivial⟩ ?_
        have j20_ : 1 ≤ Int32.toInt i4z14_ ∨ 1 ≤ Int32.toInt (i3z14_ - i3z14_ / i4z14_ * i4z14_) := by omega
        exact ihz14_ i4z14_ (i3z14_ - i3z14_ / i4z14_ * i4z14_) (some (pvI (i3z14_ - i3z14_ / i4z14_ * i4z14_))) (zr_wide b17_ (by decide) (by decide)) (zr_wide b19_ (by decide) (by decide)) j20_ (zhid (by have hm0 := zshow hmz14_; omega))
  have j21_ : 1 ≤ Int32.toInt n1 ∨ 1 ≤ Int32.toInt n2 := by omega
  exact hlz14_ _ n1 n2 none hn1 (zr_wide hn2 (by decide) (by decide)) j21_ (zhid (Nat.lt_succ_self _))
set_option maxHeartbeats 4000000 in
set_option maxRecDepth 10000 in
theorem sf_X10_factOf_124_x_x (M : pvM) (hok : pvOk M) (n1 : Int32) (n2 : Int32) (hn2 : 0 ≤ Int32.toInt n2 ∧ Int32.toInt n2 ≤ 6) (d : Nat) : PW 19 d (0, [some (pvR 124), some (pvI n1), some (pvI n2)], [], M) (fun r X => r = some (pvI ((if n1 = 0 then n2 else (if n1 = 1 then (M.1 125 (Int32.toNatClampNeg n2)) else (if n1 = 2 then (M.1 127 (Int32.toNatClampNeg n2)) else (if n1 = 3 then (M.1 128 (Int32.toNatClampNeg n2)) else (if n1 = 4 then (M.1 124 4) else (M.1 124 32)))))))) ∧ X = M) := by
  have hT : pvdom 19 = pvD_19 := rfl
  refine pw_blk hT 1 (S' := (1, [some (pvR 124), some (pvI n1), some (pvI n2)], [pvI n1], M)) rfl ⟨trivial, trivial⟩ ?_
  refine pw_sw hT rfl rfl ?_
  refine And.intro (fun c1_ => ?_) (fun c1_ => ?_)
  · show PW 19 d (36, [some (pvR 124), some (pvI n1), some (pvI n2)], [], M) _
    have b2_ : 0 ≤ Int32.toInt n1 ∧ Int32.toInt n1 ≤ 0 := (by have u0 := (zbnd n1); have u1 := (zi_eq _ _).mp c1_; have u2 := (show 0 ≤ Int32.toInt 0 ∧ Int32.toInt 0 ≤ 0 from (by decide)); omega)
    refine pw_blk hT 1 (S' := (37, [some (pvR 124), some (pvI n1), some (pvI n2)], [pvI n2], M)) rfl ⟨trivial, trivial⟩ ?_
    exact pw_ret hT rfl (r := some (pvI n2)) (M' := M) ⟨rfl, rfl⟩ ⟨(by rw [if_pos c1_]), rfl⟩
  · refine And.intro (fun c3_ => ?_) (fun c3_ => ?_)
    · show PW 19 d (38, [some (pvR 124), some (pvI n1), some (pvI n2)], [], M) _
      have b4_ : 1 ≤ Int32.toInt n1 ∧ Int32.toInt n1 ≤ 1 := (by have u0 := (zbnd n1); have u1 := (zi_eq _ _).mp c3_; have u2 := (show 1 ≤ Int32.toInt 1 ∧ Int32.toInt 1 ≤ 1 from (by decide)); omega)
      have b5_ : 0 ≤ Int32.toInt (M.1 125 (Int32.toNatClampNeg n2)) ∧ Int32.toInt (M.1 125 (Int32.toNatClampNeg n2)) ≤ 6 := pvok_r hok 125 (Int32.toNatClampNeg n2) rfl
      refine pw_blk hT 4 (S' := (44, [some (pvR 124), some (pvI n1), some (pvI n2)], [pvI (M.1 125 (Int32.toNatClampNeg n2))], M)) rfl ⟨trivial, rfl, trivial, ⟨rfl, (zr_in (n := 7) hn2 (by decide) (by decide))⟩, trivial⟩ ?_
      exact pw_ret hT rfl (r := some (pvI (M.1 125 (Int32.toNatClampNeg n2)))) (M' := M) ⟨rfl, rfl⟩ ⟨(by rw [if_neg c1_, if_pos c3_]), rfl⟩
    · refine And.intro (fun c6_ => ?_) (fun c6_ => ?_)
      · show PW 19 d (45, [some (pvR 124), some (pvI n1), some (pvI n2)], [], M) _
        have b7_ : 2 ≤ Int32.toInt n1 ∧ Int32.toInt n1 ≤ 2 := (by have u0 := (zbnd n1); have u1 := (zi_eq _ _).mp c6_; have u2 := (show 2 ≤ Int32.toInt 2 ∧ Int32.toInt 2 ≤ 2 from (by decide)); omega)
        have b8_ : 0 ≤ Int32.toInt (M.1 127 (Int32.toNatClampNeg n2)) ∧ Int32.toInt (M.1 127 (Int32.toNatClampNeg n2)) ≤ 3 := pvok_r hok 127 (Int32.toNatClampNeg n2) rfl
        refine pw_blk hT 4 (S' := (51, [some (pvR 124), some (pvI n1), some (pvI n2)], [pvI (M.1 127 (Int32.toNatClampNeg n2))], M)) rfl ⟨trivial, rfl, trivial, ⟨rfl, (zr_in (n := 7) hn2 (by decide) (by decide))⟩, trivial⟩ ?_
        exact pw_ret hT rfl (r := some (pvI (M.1 127 (Int32.toNatClampNeg n2)))) (M' := M) ⟨rfl, rfl⟩ ⟨(by rw [if_neg c1_, if_neg c3_, if_pos c6_]), rfl⟩
      · refine And.intro (fun c9_ => ?_) (fun c9_ => ?_)
        · show PW 19 d (52, [some (pvR 124), some (pvI n1), some (pvI n2)], [], M) _
          have b10_ : 3 ≤ Int32.toInt n1 ∧ Int32.toInt n1 ≤ 3 := (by have u0 := (zbnd n1); have u1 := (zi_eq _ _).mp c9_; have u2 := (show 3 ≤ Int32.toInt 3 ∧ Int32.toInt 3 ≤ 3 from (by decide)); omega)
          have b11_ : 0 ≤ Int32.toInt (M.1 128 (Int32.toNatClampNeg n2)) ∧ Int32.toInt (M.1 128 (Int32.toNatClampNeg n2)) ≤ 4 := pvok_r hok 128 (Int32.toNatClampNeg n2) rfl
          refine pw_blk hT 4 (S' := (58, [some (pvR 124), some (pvI n1), some (pvI n2)], [pvI (M.1 128 (Int32.toNatClampNeg n2))], M)) rfl ⟨trivial, rfl, trivial, ⟨rfl, (zr_in (n := 7) hn2 (by decide) (by decide))⟩, trivial⟩ ?_
          exact pw_ret hT rfl (r := some (pvI (M.1 128 (Int32.toNatClampNeg n2)))) (M' := M) ⟨rfl, rfl⟩ ⟨(by rw [if_neg c1_, if_neg c3_, if_neg c6_, if_pos c9_]), rfl⟩
        · refine And.intro (fun c12_ => ?_) (fun c12_ => ?_)
          · show PW 19 d (59, [some (pvR 124), some (pvI n1), some (pvI n2)], [], M) _
            have b13_ : 4 ≤ Int32.toInt n1 ∧ Int32.toInt n1 ≤ 4 := (by have u0 := (zbnd n1); have u1 := (zi_eq _ _).mp c12_; have u2 := (show 4 ≤ Int32.toInt 4 ∧ Int32.toInt 4 ≤ 4 from (by decide)); omega)
            have b14_ : 0 ≤ Int32.toInt (M.1 124 4) ∧ Int32.toInt (M.1 124 4) ≤ 4 := pvok_r hok 124 4 rfl
            refine pw_blk hT 2 (S' := (63, [some (pvR 124), some (pvI n1), some (pvI n2)], [pvI (M.1 124 4)], M)) rfl ⟨trivial, rfl, trivial⟩ ?_
            exact pw_ret hT rfl (r := some (pvI (M.1 124 4))) (M' := M) ⟨rfl, rfl⟩ ⟨(by rw [if_neg c1_, if_neg c3_, if_neg c6_, if_neg c9_, if_pos c12_]), rfl⟩
          · show PW 19 d (64, [some (pvR 124), some (pvI n1), some (pvI n2)], [], M) _
            have b15_ : 0 ≤ Int32.toInt (M.1 124 32) ∧ Int32.toInt (M.1 124 32) ≤ 99 := pvok_r hok 124 32 rfl
            refine pw_blk hT 2 (S' := (68, [some (pvR 124), some (pvI n1), some (pvI n2)], [pvI (M.1 124 32)], M)) rfl ⟨trivial, rfl, trivial⟩ ?_
            exact pw_ret hT rfl (r := some (pvI (M.1 124 32))) (M' := M) ⟨rfl, rfl⟩ ⟨(by rw [if_neg c1_, if_neg c3_, if_neg c6_, if_neg c9_, if_neg c12_]), rfl⟩
def fpL_X10_feed_124_x : List (Nat × Nat × Nat) := [(0, 124, 17), (0, 132, 0)]
def fp_X10_feed_124_x (q k : Nat) : Bool := pvfp fpL_X10_feed_124_x q k
set_option maxHeartbeats 4000000 in
set_option maxRecDepth 10000 in
theorem sf_X10_feed_124_x (M : pvM) (hok : pvOk M) (n1 : Int32) (d : Nat) : PW 20 d (0, [some (pvR 124), some (pvI n1)], [], M) (fun r X => (∃ x : Int32, r = some (pvI x) ∧ (-4) ≤ Int32.toInt x ∧ Int32.toInt x ≤ 100) ∧ pvOk X ∧ pvFr fp_X10_feed_124_x M X) := by
  have hT : pvdom 20 = pvD_20 := rfl
  refine pw_blk hT 4 (S' := (5, [some (pvR 124), some (pvI n1)], [pvI 127, pvI 0, pvI n1, pvR 124], M)) rfl ⟨trivial, trivial, trivial, trivial, trivial⟩ ?_
  refine pw_callT hT (as := [pvR 124, pvI n1, pvI 0, pvI 127]) (lo1 := [some (pvR 124), some (pvI n1), some (pvI 0), some (pvI 127)]) (d1 := d) (rest := []) rfl rfl rfl rfl rfl (fun _ => rfl) (Nat.zero_le _) rfl rfl rfl (sf_X10_in_124_x_x_x M hok n1 0 127 d) ?_
  by_cases c6_ : n1 < 0
  · refine pw_eqI (if_pos c6_) ?_
    have b7_ : (-2147483648) ≤ Int32.toInt n1 ∧ Int32.toInt n1 ≤ (-1) := zr_lt_l (-1) c6_ (zbnd n1) (show 0 ≤ Int32.toInt 0 ∧ Int32.toInt 0 ≤ 0 from (by decide)) (by decide)
    show PW 20 d (8, [some (pvR 124), some (pvI n1)], [pvI 0], M) _
    refine pw_ifn hT (c := 0 = 0) rfl rfl (fun c8_ => absurd (by decide) c8_) (fun c8_ => ?_)
    refine pw_blk hT 1 (S' := (13, [some (pvR 124), some (pvI n1)], [pvI (-2)], M)) rfl ⟨trivial, trivial⟩ ?_
    exact pw_ret hT rfl (r := some (pvI (-2))) (M' := M) ⟨rfl, rfl⟩ ⟨⟨_, rfl, (zr_wide (show (-2) ≤ Int32.toInt (-2) ∧ Int32.toInt (-2) ≤ (-2) from (by decide)) (by decide) (by decide))⟩, hok, pvfr_0⟩
  · refine pw_eqI (if_neg c6_) ?_
    have b9_ : 0 ≤ Int32.toInt n1 ∧ Int32.toInt n1 ≤ 2147483647 := zr_nlt_l 0 c6_ (zbnd n1) (show 0 ≤ Int32.toInt 0 ∧ Int32.toInt 0 ≤ 0 from (by decide)) (by decide)
    by_cases c10_ : 127 < n1
    · refine pw_eqI (if_pos c10_) ?_
      have b11_ : 128 ≤ Int32.toInt n1 ∧ Int32.toInt n1 ≤ 2147483647 := zr_lt_r 128 c10_ b9_ (show 127 ≤ Int32.toInt 127 ∧ Int32.toInt 127 ≤ 127 from (by decide)) (by decide)
      show PW 20 d (8, [some (pvR 124), some (pvI n1)], [pvI 0], M) _
      refine pw_ifn hT (c := 0 = 0) rfl rfl (fun c12_ => absurd (by decide) c12_) (fun c12_ => ?_)
      refine pw_blk hT 1 (S' := (13, [some (pvR 124), some (pvI n1)], [pvI (-2)], M)) rfl ⟨trivial, trivial⟩ ?_
      exact pw_ret hT rfl (r := some (pvI (-2))) (M' := M) ⟨rfl, rfl⟩ ⟨⟨_, rfl, (zr_wide (show (-2) ≤ Int32.toInt (-2) ∧ Int32.toInt (-2) ≤ (-2) from (by decide)) (by decide) (by decide))⟩, hok, pvfr_0⟩
    · refine pw_eqI (if_neg c10_) ?_
      have b13_ : 0 ≤ Int32.toInt n1 ∧ Int32.toInt n1 ≤ 127 := zr_nlt_r 127 c10_ b9_ (show 127 ≤ Int32.toInt 127 ∧ Int32.toInt 127 ≤ 127 from (by decide)) (by decide)
      show PW 20 d (8, [some (pvR 124), some (pvI n1)], [pvI 1], M) _
      refine pw_ifn hT (c := 1 = 0) rfl rfl (fun c14_ => ?_) (fun c14_ => absurd c14_ (by decide))
      have b15_ : 0 ≤ Int32.toInt (M.1 124 16) ∧ Int32.toInt (M.1 124 16) ≤ 100 := pvok_r hok 124 16 rfl
      refine pw_blk hT 3 (S' := (20, [some (pvR 124), some (pvI n1)], [pvI 100, pvI (M.1 124 16)], M)) rfl ⟨trivial, rfl, trivial, trivial⟩ ?_
      refine pw_icn hT (c := (M.1 124 16) = 100) rfl rfl (fun c16_ => ?_) (fun c16_ => ?_)
      · have b17_ : 0 ≤ Int32.toInt (M.1 124 16) ∧ Int32.toInt (M.1 124 16) ≤ 99 := (by have u0 := b15_; have u1 := (not_congr (zi_eq _ _)).mp c16_; have u2 := (show 100 ≤ Int32.toInt 100 ∧ Int32.toInt 100 ≤ 100 from (by decide)); omega)
        refine pw_blkw hT 6 (pc := 36) (lo := [some (pvR 124), some (pvI n1)]) (st := []) (M := pvu M 132 (Int32.toNatClampNeg (M.1 124 16)) n1) rfl ⟨trivial, rfl, trivial, rfl, trivial, ⟨rfl, (zr_in (n := 100) b17_ (by decide) (by decide))⟩, trivial⟩ (fun M18_ e19_ => ?_)
        have o20_ : pvOk M18_ := pvok_u2 e19_ hok rfl b13_
        have f21_ : pvFr fp_X10_feed_124_x M M18_ := pvfr_u e19_ pvfr_0 rfl
        have e22_ : (M18_.1 124 16) = (M.1 124 16) := (pvu_n e19_ 124 16 (Or.inl (by decide)))
        have b23_ : 0 ≤ Int32.toInt (M18_.1 124 16) ∧ Int32.toInt (M18_.1 124 16) ≤ 99 := (by rw [e22_]; exact b17_)
        obtain ⟨q25_, b24_⟩ : (Int32.toInt ((M18_.1 124 16) + 1) = Int32.toInt (M18_.1 124 16) + 1) ∧ (1 ≤ Int32.toInt ((M18_.1 124 16) + 1) ∧ Int32.toInt ((M18_.1 124 16) + 1) ≤ 100) := zadd_k (M18_.1 124 16) 1 1 1 100 b23_ (by decide) (by decide) (by decide) (by decide) (by decide)
        refine pw_blkw hT 6 (pc := 46) (lo := [some (pvR 124), some (pvI n1)]) (st := []) (M := pvu M18_ 124 16 ((M18_.1 124 16) + 1)) rfl ⟨trivial, trivial, rfl, trivial, trivial, rfl, trivial⟩ (fun M26_ e27_ => ?_)
        have o28_ : pvOk M26_ := pvok_u2 e27_ o20_ rfl (zr_wide b24_ (by decide) (by decide))
        have f29_ : pvFr fp_X10_feed_124_x M M26_ := pvfr_u e27_ f21_ rfl
        have e30_ : (M26_.1 124 16) = ((M18_.1 124 16) + 1) := (pvu_s e27_)
        have b31_ : 1 ≤ Int32.toInt (M26_.1 124 16) ∧ Int32.toInt (M26_.1 124 16) ≤ 100 := (by rw [e30_]; exact b24_)
        refine pw_blk hT 2 (S' := (50, [some (pvR 124), some (pvI n1)], [pvI (M26_.1 124 16)], M26_)) rfl ⟨trivial, rfl, trivial⟩ ?_
        exact pw_ret hT rfl (r := some (pvI (M26_.1 124 16))) (M' := M26_) ⟨rfl, rfl⟩ ⟨⟨_, rfl, (zr_wide b31_ (by decide) (by decide))⟩, o28_, f29_⟩
      · have b32_ : 100 ≤ Int32.toInt (M.1 124 16) ∧ Int32.toInt (M.1 124 16) ≤ 100 := (by have u0 := b15_; have u1 := (zi_eq _ _).mp c16_; have u2 := (show 100 ≤ Int32.toInt 100 ∧ Int32.toInt 100 ≤ 100 from (by decide)); omega)
        refine pw_blk hT 1 (S' := (25, [some (pvR 124), some (pvI n1)], [pvI (-4)], M)) rfl ⟨trivial, trivial⟩ ?_
        exact pw_ret hT rfl (r := some (pvI (-4))) (M' := M) ⟨rfl, rfl⟩ ⟨⟨_, rfl, (zr_wide (show (-4) ≤ Int32.toInt (-4) ∧ Int32.toInt (-4) ≤ (-4) from (by decide)) (by decide) (by decide))⟩, hok, pvfr_0⟩
set_option maxHeartbeats 4000000 in
set_option maxRecDepth 10000 in
theorem sf_X10_harmOf_124_x (M : pvM) (hok : pvOk M) (n1 : Int32) (hn1 : 0 ≤ Int32.toInt n1 ∧ Int32.toInt n1 ≤ 6) (d : Nat) : PW 29 d (0, [some (pvR 124), some (pvI n1), none, none], [], M) (fun r X => (∃ x : Int32, r = some (pvI x) ∧ 0 ≤ Int32.toInt x ∧ Int32.toInt x ≤ 9000000) ∧ X = M) := by
  have hT : pvdom 29 = pvD_29 := rfl
  have b1_ : 0 ≤ Int32.toInt (M.1 124 1) ∧ Int32.toInt (M.1 124 1) ≤ 9999 := pvok_r hok 124 1 rfl
  have b2_ : 0 ≤ Int32.toInt (M.1 124 3) ∧ Int32.toInt (M.1 124 3) ≤ 108 := pvok_r hok 124 3 rfl
  refine pw_blk hT 6 (S' := (10, [some (pvR 124), some (pvI n1), some (pvI 0), none], [pvI (M.1 124 3), pvI (M.1 124 1)], M)) rfl ⟨trivial, trivial, trivial, rfl, trivial, rfl, trivial⟩ ?_
  refine pw_ic hT (c := (M.1 124 3) ≤ (M.1 124 1)) rfl rfl (fun c3_ => ?_) (fun c3_ => ?_)
  · have d4_ : Int32.toInt (M.1 124 3) ≤ Int32.toInt (M.1 124 1) := (zi_le _ _).mp c3_
    refine pw_blk hT 3 (S' := (25, [some (pvR 124), some (pvI n1), some (pvI 0), some (pvI (M.1 124 1))], [], M)) rfl ⟨trivial, rfl, trivial, trivial⟩ ?_
    have hlz69_ : ∀ (nz69_ : Nat) (i2z69_ : Int32) (i3z69_ : Int32), (0 ≤ Int32.toInt i2z69_ ∧ Int32.toInt i2z69_ ≤ 9000000) → (0 ≤ Int32.toInt i3z69_ ∧ Int32.toInt i3z69_ ≤ 9999) → (Int32.toInt i2z69_ ≤ 90000 * (Int32.toInt i3z69_ - Int32.toInt (M.1 124 3))) → (0 ≤ Int32.toInt i2z69_) → (Int32.toInt (M.1 124 3) ≤ Int32.toInt i3z69_) → (Int32.toInt i3z69_ ≤ Int32.toInt (M.1 124 3) + 99 ∨ Int32.toInt i2z69_ = 0) → (zhide ((10000 - Int32.toInt i3z69_).toNat < nz69_)) → PW 29 d (25, [some (pvR 124), some (pvI n1), some (pvI i2z69_), some (pvI i3z69_)], [], M) (fun r X => (∃ x : Int32, r = some (pvI x) ∧ 0 ≤ Int32.toInt x ∧ Int32.toInt x ≤ 9000000) ∧ X = M) := by
      intro nz69_
      induction nz69_ with
      | zero => intro i2z69_ i3z69_ h2z69_ h3z69_ j0z69_ j1z69_ j2z69_ j3z69_ hmz69_; exact absurd (zshow hmz69_) (Nat.not_lt_zero _)
      | succ nz69_ ihz69_ =>
        intro i2z69_ i3z69_ h2z69_ h3z69_ j0z69_ j1z69_ j2z69_ j3z69_ hmz69_
        refine pw_blk hT 4 (S' := (31, [some (pvR 124), some (pvI n1), some (pvI i2z69_), some (pvI i3z69_)], [pvR 124, pvI (M.1 124 3), pvI i3z69_], M)) rfl ⟨trivial, trivial, rfl, trivial, trivial⟩ ?_
        refine pw_callGp hT (as := [pvR 124]) (lo1 := [some (pvR 124)]) (d1 := d) (rest := [pvI (M.1 124 3), pvI i3z69_]) rfl rfl rfl rfl rfl (fun _ => rfl) (Nat.zero_le _) rfl rfl rfl (sf_X10_lastNow_124 M hok d) (fun x70_ b72_ => ?_)
        obtain ⟨q76_, b75_⟩ : (Int32.toInt ((M.1 124 3) + x70_) = Int32.toInt (M.1 124 3) + Int32.toInt x70_) ∧ (0 ≤ Int32.toInt ((M.1 124 3) + x70_) ∧ Int32.toInt ((M.1 124 3) + x70_) ≤ 207) := zadd_r (M.1 124 3) x70_ 0 207 b2_ b72_ (by decide) (by decide) (by decide) (by decide)
        refine pw_blk hT 1 (S' := (35, [some (pvR 124), some (pvI n1), some (pvI i2z69_), some (pvI i3z69_)], [pvI ((M.1 124 3) + x70_), pvI i3z69_], M)) rfl ⟨trivial, trivial⟩ ?_
        refine pw_ic hT (c := ((M.1 124 3) + x70_) ≤ i3z69_) rfl rfl (fun c77_ => ?_) (fun c77_ => ?_)
        · have d78_ : Int32.toInt ((M.1 124 3) + x70_) ≤ Int32.toInt i3z69_ := (zi_le _ _).mp c77_
          refine pw_blk hT 1 (S' := (54, [some (pvR 124), some (pvI n1), some (pvI i2z69_), some (pvI i3z69_)], [pvI i2z69_], M)) rfl ⟨trivial, trivial⟩ ?_
          exact pw_ret hT rfl (r := some (pvI i2z69_)) (M' := M) ⟨rfl, rfl⟩ ⟨⟨_, rfl, h2z69_⟩, rfl⟩
        · have b79_ : 1 ≤ Int32.toInt ((M.1 124 3) + x70_) ∧ Int32.toInt ((M.1 124 3) + x70_) ≤ 207 := zr_nle_l 1 c77_ b75_ h3z69_ (by decide)
          have b80_ : 0 ≤ Int32.toInt i3z69_ ∧ Int32.toInt i3z69_ ≤ 206 := zr_nle_r 206 c77_ h3z69_ b79_ (by decide)
          have d81_ : Int32.toInt ((M.1 124 3) + x70_) > Int32.toInt i3z69_ := Int.not_le.mp ((not_congr (zi_le _ _)).mp c77_)
          refine pw_blk hT 4 (S' := (42, [some (pvR 124), some (pvI n1), some (pvI i2z69_), some (pvI i3z69_)], [pvI i3z69_, pvI n1, pvR 124, pvI i2z69_], M)) rfl ⟨trivial, trivial, trivial, trivial, trivial⟩ ?_
          refine pw_callGp hT (as := [pvR 124, pvI n1, pvI i3z69_]) (lo1 := [some (pvR 124), some (pvI n1), some (pvI i3z69_), none, none]) (d1 := d) (rest := [pvI i2z69_]) rfl rfl rfl rfl rfl (fun _ => rfl) (Nat.zero_le _) rfl rfl rfl (sf_X10_harm_124_x_x M hok n1 i3z69_ hn1 (zr_wide b80_ (by decide) (by decide)) d) (fun x82_ b84_ => ?_)
          obtain ⟨q88_, b87_⟩ : (Int32.toInt (i2z69_ + x82_) = Int32.toInt i2z69_ + Int32.toInt x82_) ∧ (0 ≤ Int32.toInt (i2z69_ + x82_) ∧ Int32.toInt (i2z69_ + x82_) ≤ 9012009) := zadd_r i2z69_ x82_ 0 9012009 h2z69_ b84_ (by decide) (by decide) (by decide) (by decide)
          obtain ⟨q90_, b89_⟩ : (Int32.toInt (i3z69_ + 1) = Int32.toInt i3z69_ + 1) ∧ (1 ≤ Int32.toInt (i3z69_ + 1) ∧ Int32.toInt (i3z69_ + 1) ≤ 207) := zadd_k i3z69_ 1 1 1 207 b80_ (by decide) (by decide) (by decide) (by decide) (by decide)
          refine pw_blk hT 4 (S' := (25, [some (pvR 124), some (pvI n1), some (pvI (i2z69_ + x82_)), some (pvI (i3z69_ + 1))], [], M)) rfl ⟨trivial, trivial, trivial, trivial, trivial⟩ ?_
          have j91_ : Int32.toInt (i2z69_ + x82_) ≤ 90000 * (Int32.toInt (i3z69_ + 1) - Int32.toInt (M.1 124 3)) := by omega
          have j92_ : 0 ≤ Int32.toInt (i2z69_ + x82_) := by omega
          have j93_ : Int32.toInt (M.1 124 3) ≤ Int32.toInt (i3z69_ + 1) := by omega
          have j94_ : Int32.toInt (i3z69_ + 1) ≤ Int32.toInt (M.1 124 3) + 99 ∨ Int32.toInt (i2z69_ + x82_) = 0 := by omega
          exact ihz69_ (i2z69_ + x82_) (i3z69_ + 1) (by have u0 := b87_; omega) (zr_wide b89_ (by decide) (by decide)) j91_ j92_ j93_ j94_ (zhid (pvms_up (zshow hmz69_) h3z69_ q90_ (by decide) (by decide)))
    have u95_ : Int32.toInt 0 = 0 := by decide
    have j96_ : Int32.toInt 0 ≤ 90000 * (Int32.toInt (M.1 124 1) - Int32.toInt (M.1 124 3)) := by omega
    have j97_ : 0 ≤ Int32.toInt 0 := by omega
    have j98_ : Int32.toInt (M.1 124 3) ≤ Int32.toInt (M.1 124 1) := by omega
    have j99_ : Int32.toInt (M.1 124 1) ≤ Int32.toInt (M.1 124 3) + 99 ∨ Int32.toInt 0 = 0 := by omega
    exact hlz69_ _ 0 (M.1 124 1) (zr_wide (show 0 ≤ Int32.toInt 0 ∧ Int32.toInt 0 ≤ 0 from (by decide)) (by decide) (by decide)) b1_ j96_ j97_ j98_ j99_ (zhid (Nat.lt_succ_self _))
  · have b100_ : 1 ≤ Int32.toInt (M.1 124 3) ∧ Int32.toInt (M.1 124 3) ≤ 108 := zr_nle_l 1 c3_ b2_ b1_ (by decide)
    have b101_ : 0 ≤ Int32.toInt (M.1 124 1) ∧ Int32.toInt (M.1 124 1) ≤ 107 := zr_nle_r 107 c3_ b1_ b100_ (by decide)
    have d102_ : Int32.toInt (M.1 124 3) > Int32.toInt (M.1 124 1) := Int.not_le.mp ((not_congr (zi_le _ _)).mp c3_)
    refine pw_blk hT 4 (S' := (25, [some (pvR 124), some (pvI n1), some (pvI 0), some (pvI (M.1 124 3))], [], M)) rfl ⟨trivial, rfl, trivial, trivial, trivial⟩ ?_
    have hlz167_ : ∀ (nz167_ : Nat) (i2z167_ : Int32) (i3z167_ : Int32), (0 ≤ Int32.toInt i2z167_ ∧ Int32.toInt i2z167_ ≤ 9000000) → (1 ≤ Int32.toInt i3z167_ ∧ Int32.toInt i3z167_ ≤ 207) → (Int32.toInt i2z167_ ≤ 90000 * (Int32.toInt i3z167_ - Int32.toInt (M.1 124 3))) → (0 ≤ Int32.toInt i2z167_) → (Int32.toInt (M.1 124 3) ≤ Int32.toInt i3z167_) → (Int32.toInt i3z167_ ≤ Int32.toInt (M.1 124 3) + 99 ∨ Int32.toInt i2z167_ = 0) → (zhide ((208 - Int32.toInt i3z167_).toNat < nz167_)) → PW 29 d (25, [some (pvR 124), some (pvI n1), some (pvI i2z167_), some (pvI i3z167_)], [], M) (fun r X => (∃ x : Int32, r = some (pvI x) ∧ 0 ≤ Int32.toInt x ∧ Int32.toInt x ≤ 9000000) ∧ X = M) := by
      intro nz167_
      induction nz167_ with
      | zero => intro i2z167_ i3z167_ h2z167_ h3z167_ j0z167_ j1z167_ j2z167_ j3z167_ hmz167_; exact absurd (zshow hmz167_) (Nat.not_lt_zero _)
      | succ nz167_ ihz167_ =>
        intro i2z167_ i3z167_ h2z167_ h3z167_ j0z167_ j1z167_ j2z167_ j3z167_ hmz167_
        refine pw_blk hT 4 (S' := (31, [some (pvR 124), some (pvI n1), some (pvI i2z167_), some (pvI i3z167_)], [pvR 124, pvI (M.1 124 3), pvI i3z167_], M)) rfl ⟨trivial, trivial, rfl, trivial, trivial⟩ ?_
        refine pw_callGp hT (as := [pvR 124]) (lo1 := [some (pvR 124)]) (d1 := d) (rest := [pvI (M.1 124 3), pvI i3z167_]) rfl rfl rfl rfl rfl (fun _ => rfl) (Nat.zero_le _) rfl rfl rfl (sf_X10_lastNow_124 M hok d) (fun x168_ b170_ => ?_)
        obtain ⟨q174_, b173_⟩ : (Int32.toInt ((M.1 124 3) + x168_) = Int32.toInt (M.1 124 3) + Int32.toInt x168_) ∧ (1 ≤ Int32.toInt ((M.1 124 3) + x168_) ∧ Int32.toInt ((M.1 124 3) + x168_) ≤ 207) := zadd_r (M.1 124 3) x168_ 1 207 b100_ b170_ (by decide) (by decide) (by decide) (by decide)
        refine pw_blk hT 1 (S' := (35, [some (pvR 124), some (pvI n1), some (pvI i2z167_), some (pvI i3z167_)], [pvI ((M.1 124 3) + x168_), pvI i3z167_], M)) rfl ⟨trivial, trivial⟩ ?_
        refine pw_ic hT (c := ((M.1 124 3) + x168_) ≤ i3z167_) rfl rfl (fun c175_ => ?_) (fun c175_ => ?_)
        · have d176_ : Int32.toInt ((M.1 124 3) + x168_) ≤ Int32.toInt i3z167_ := (zi_le _ _).mp c175_
          refine pw_blk hT 1 (S' := (54, [some (pvR 124), some (pvI n1), some (pvI i2z167_), some (pvI i3z167_)], [pvI i2z167_], M)) rfl ⟨trivial, trivial⟩ ?_
          exact pw_ret hT rfl (r := some (pvI i2z167_)) (M' := M) ⟨rfl, rfl⟩ ⟨⟨_, rfl, h2z167_⟩, rfl⟩
        · have b177_ : 2 ≤ Int32.toInt ((M.1 124 3) + x168_) ∧ Int32.toInt ((M.1 124 3) + x168_) ≤ 207 := zr_nle_l 2 c175_ b173_ h3z167_ (by decide)
          have b178_ : 1 ≤ Int32.toInt i3z167_ ∧ Int32.toInt i3z167_ ≤ 206 := zr_nle_r 206 c175_ h3z167_ b177_ (by decide)
          have d179_ : Int32.toInt ((M.1 124 3) + x168_) > Int32.toInt i3z167_ := Int.not_le.mp ((not_congr (zi_le _ _)).mp c175_)
          refine pw_blk hT 4 (S' := (42, [some (pvR 124), some (pvI n1), some (pvI i2z167_), some (pvI i3z167_)], [pvI i3z167_, pvI n1, pvR 124, pvI i2z167_], M)) rfl ⟨trivial, trivial, trivial, trivial, trivial⟩ ?_
          refine pw_callGp hT (as := [pvR 124, pvI n1, pvI i3z167_]) (lo1 := [some (pvR 124), some (pvI n1), some (pvI i3z167_), none, none]) (d1 := d) (rest := [pvI i2z167_]) rfl rfl rfl rfl rfl (fun _ => rfl) (Nat.zero_le _) rfl rfl rfl (sf_X10_harm_124_x_x M hok n1 i3z167_ hn1 (zr_wide b178_ (by decide) (by decide)) d) (fun x180_ b182_ => ?_)
          obtain ⟨q186_, b185_⟩ : (Int32.toInt (i2z167_ + x180_) = Int32.toInt i2z167_ + Int32.toInt x180_) ∧ (0 ≤ Int32.toInt (i2z167_ + x180_) ∧ Int32.toInt (i2z167_ + x180_) ≤ 9012009) := zadd_r i2z167_ x180_ 0 9012009 h2z167_ b182_ (by decide) (by decide) (by decide) (by decide)
          obtain ⟨q188_, b187_⟩ : (Int32.toInt (i3z167_ + 1) = Int32.toInt i3z167_ + 1) ∧ (2 ≤ Int32.toInt (i3z167_ + 1) ∧ Int32.toInt (i3z167_ + 1) ≤ 207) := zadd_k i3z167_ 1 1 2 207 b178_ (by decide) (by decide) (by decide) (by decide) (by decide)
          refine pw_blk hT 4 (S' := (25, [some (pvR 124), some (pvI n1), some (pvI (i2z167_ + x180_)), some (pvI (i3z167_ + 1))], [], M)) rfl ⟨trivial, trivial, trivial, trivial, trivial⟩ ?_
          have j189_ : Int32.toInt (i2z167_ + x180_) ≤ 90000 * (Int32.toInt (i3z167_ + 1) - Int32.toInt (M.1 124 3)) := by omega
          have j190_ : 0 ≤ Int32.toInt (i2z167_ + x180_) := by omega
          have j191_ : Int32.toInt (M.1 124 3) ≤ Int32.toInt (i3z167_ + 1) := by omega
          have j192_ : Int32.toInt (i3z167_ + 1) ≤ Int32.toInt (M.1 124 3) + 99 ∨ Int32.toInt (i2z167_ + x180_) = 0 := by omega
          exact ihz167_ (i2z167_ + x180_) (i3z167_ + 1) (by have u0 := b185_; omega) (zr_wide b187_ (by decide) (by decide)) j189_ j190_ j191_ j192_ (zhid (pvms_up (zshow hmz167_) h3z167_ q188_ (by decide) (by decide)))
    have u193_ : Int32.toInt 0 = 0 := by decide
    have j194_ : Int32.toInt 0 ≤ 90000 * (Int32.toInt (M.1 124 3) - Int32.toInt (M.1 124 3)) := by omega
    have j195_ : 0 ≤ Int32.toInt 0 := by omega
    have j196_ : Int32.toInt (M.1 124 3) ≤ Int32.toInt (M.1 124 3) := by omega
    have j197_ : Int32.toInt (M.1 124 3) ≤ Int32.toInt (M.1 124 3) + 99 ∨ Int32.toInt 0 = 0 := by omega
    exact hlz167_ _ 0 (M.1 124 3) (zr_wide (show 0 ≤ Int32.toInt 0 ∧ Int32.toInt 0 ≤ 0 from (by decide)) (by decide) (by decide)) (zr_wide b100_ (by decide) (by decide)) j194_ j195_ j196_ j197_ (zhid (Nat.lt_succ_self _))
def fpL_X10_from_124 : List (Nat × Nat × Nat) := [(0, 124, 33), (0, 124, 5), (0, 141, 0), (0, 142, 0), (0, 143, 0)]
def fp_X10_from_124 (q k : Nat) : Bool := pvfp fpL_X10_from_124 q k
theorem fp_X10_from_124_fp_X10_layOpen_124 (a b : Nat) (h : fp_X10_layOpen_124 a b = true) : fp_X10_from_124 a b = true := pvfp_sub (l1 := fpL_X10_layOpen_124) (l2 := fpL_X10_from_124) (by decide) a b h
theorem fp_X10_from_124_fp_X10_layRain_124 (a b : Nat) (h : fp_X10_layRain_124 a b = true) : fp_X10_from_124 a b = true := pvfp_sub (l1 := fpL_X10_layRain_124) (l2 := fpL_X10_from_124) (by decide) a b h
set_option maxHeartbeats 4000000 in
set_option maxRecDepth 10000 in
theorem sf_X10_from_124 (M : pvM) (hok : pvOk M) (d : Nat) : PW 22 d (0, [some (pvR 124), none, none, none, none], [], M) (fun r X => (∃ x : Int32, r = some (pvI x) ∧ True) ∧ pvOk X ∧ pvFr fp_X10_from_124 M X) := by
  have hT : pvdom 22 = pvD_22 := rfl
  have b1_ : 0 ≤ Int32.toInt (M.1 124 4) ∧ Int32.toInt (M.1 124 4) ≤ 4 := pvok_r hok 124 4 rfl
  refine pw_blk hT 6 (S' := (8, [some (pvR 124), some (pvI (M.1 124 4)), some (pvI 0), none, none], [pvR 124], M)) rfl ⟨trivial, rfl, trivial, trivial, trivial, trivial, trivial⟩ ?_
  refine pw_callV hT (as := [pvR 124]) (lo1 := [some (pvR 124), none]) (d1 := d) (rest := []) rfl rfl rfl rfl rfl (fun _ => rfl) (Nat.zero_le _) rfl rfl rfl (sf_X10_layOpen_124 M hok d) (fun M3_ o5_ g6_ => ?_)
  have f7_ : pvFr fp_X10_from_124 M M3_ := pvfr_t g6_ pvfr_0 fp_X10_from_124_fp_X10_layOpen_124
  refine pw_blkw hT 3 (pc := 16) (lo := [some (pvR 124), some (pvI (M.1 124 4)), some (pvI 0), none, none]) (st := []) (M := pvu M3_ 124 4 0) rfl ⟨trivial, trivial, rfl, trivial⟩ (fun M8_ e9_ => ?_)
  have o10_ : pvOk M8_ := pvok_u2 e9_ o5_ rfl (zr_wide (show 0 ≤ Int32.toInt 0 ∧ Int32.toInt 0 ≤ 0 from (by decide)) (by decide) (by decide))
  have f11_ : pvFr fp_X10_from_124 M M8_ := pvfr_u e9_ f7_ rfl
  have hlz553_ : ∀ (nz553_ : Nat) (i2z553_ : Int32) (v3z553_ : Option pvV) (v4z553_ : Option pvV) (Mz553_ : pvM), (pvOk Mz553_) → (pvFr fp_X10_from_124 M Mz553_) → (zhide ((5 - Int32.toInt (Mz553_.1 124 4)).toNat < nz553_)) → PW 22 d (16, [some (pvR 124), some (pvI (M.1 124 4)), some (pvI i2z553_), v3z553_, v4z553_], [], Mz553_) (fun r X => (∃ x : Int32, r = some (pvI x) ∧ True) ∧ pvOk X ∧ pvFr fp_X10_from_124 M X) := by
    intro nz553_
    induction nz553_ with
    | zero => intro i2z553_ v3z553_ v4z553_ Mz553_ oz553_ fz553_ hmz553_; exact absurd (zshow hmz553_) (Nat.not_lt_zero _)
    | succ nz553_ ihz553_ =>
      intro i2z553_ v3z553_ v4z553_ Mz553_ oz553_ fz553_ hmz553_
      have b554_ : 0 ≤ Int32.toInt (Mz553_.1 124 4) ∧ Int32.toInt (Mz553_.1 124 4) ≤ 4 := pvok_r oz553_ 124 4 rfl
      refine pw_blk hT 3 (S' := (21, [some (pvR 124), some (pvI (M.1 124 4)), some (pvI i2z553_), v3z553_, v4z553_], [pvI 4, pvI (Mz553_.1 124 4)], Mz553_)) rfl ⟨trivial, rfl, trivial, trivial⟩ ?_
      refine pw_ic hT (c := 4 ≤ (Mz553_.1 124 4)) rfl rfl (fun c555_ => ?_) (fun c555_ => ?_)
      · have b556_ : 4 ≤ Int32.toInt (Mz553_.1 124 4) ∧ Int32.toInt (Mz553_.1 124 4) ≤ 4 := zr_le_r 4 c555_ b554_ (show 4 ≤ Int32.toInt 4 ∧ Int32.toInt 4 ≤ 4 from (by decide)) (by decide)
        refine pw_blkw hT 3 (pc := 114) (lo := [some (pvR 124), some (pvI (M.1 124 4)), some (pvI i2z553_), v3z553_, v4z553_]) (st := []) (M := pvu Mz553_ 124 4 (M.1 124 4)) rfl ⟨trivial, trivial, rfl, trivial⟩ (fun M557_ e558_ => ?_)
        have o559_ : pvOk M557_ := pvok_u2 e558_ oz553_ rfl b1_
        have f560_ : pvFr fp_X10_from_124 M M557_ := pvfr_u e558_ fz553_ rfl
        refine pw_blk hT 1 (S' := (115, [some (pvR 124), some (pvI (M.1 124 4)), some (pvI i2z553_), v3z553_, v4z553_], [pvI i2z553_], M557_)) rfl ⟨trivial, trivial⟩ ?_
        exact pw_ret hT rfl (r := some (pvI i2z553_)) (M' := M557_) ⟨rfl, rfl⟩ ⟨⟨_, rfl, trivial⟩, o559_, f560_⟩
      · have b561_ : 0 ≤ Int32.toInt (Mz553_.1 124 4) ∧ Int32.toInt (Mz553_.1 124 4) ≤ 3 := zr_nle_r 3 c555_ b554_ (show 4 ≤ Int32.toInt 4 ∧ Int32.toInt 4 ≤ 4 from (by decide)) (by decide)
        refine pw_blk hT 1 (S' := (25, [some (pvR 124), some (pvI (M.1 124 4)), some (pvI i2z553_), v3z553_, v4z553_], [pvR 124], Mz553_)) rfl ⟨trivial, trivial⟩ ?_
        refine pw_callV hT (as := [pvR 124]) (lo1 := [some (pvR 124), none, none]) (d1 := d) (rest := []) rfl rfl rfl rfl rfl (fun _ => rfl) (Nat.zero_le _) rfl rfl rfl (sf_X10_layRain_124 Mz553_ oz553_ d) (fun M563_ o565_ g566_ => ?_)
        have f567_ : pvFr fp_X10_from_124 M M563_ := pvfr_t g566_ fz553_ fp_X10_from_124_fp_X10_layRain_124
        refine pw_blk hT 4 (S' := (33, [some (pvR 124), some (pvI (M.1 124 4)), some (pvI i2z553_), some (pvI 1), some (pvI 0)], [], M563_)) rfl ⟨trivial, trivial, trivial, trivial, trivial⟩ ?_
        have e568_ : (M563_.1 124 4) = (Mz553_.1 124 4) := (g566_ 124 4 rfl)
        have b569_ : 0 ≤ Int32.toInt (M563_.1 124 4) ∧ Int32.toInt (M563_.1 124 4) ≤ 3 := (by rw [e568_]; exact b561_)
        have hlz689_ : ∀ (nz689_ : Nat) (i3z689_ : Int32) (i4z689_ : Int32), (0 ≤ Int32.toInt i3z689_ ∧ Int32.toInt i3z689_ ≤ 1) → (0 ≤ Int32.toInt i4z689_ ∧ Int32.toInt i4z689_ ≤ 6) → (zhide ((7 - Int32.toInt i4z689_).toNat < nz689_)) → PW 22 d (33, [some (pvR 124), some (pvI (M.1 124 4)), some (pvI i2z553_), some (pvI i3z689_), some (pvI i4z689_)], [], M563_) (fun r X => (∃ x : Int32, r = some (pvI x) ∧ True) ∧ pvOk X ∧ pvFr fp_X10_from_124 M X) := by
          intro nz689_
          induction nz689_ with
          | zero => intro i3z689_ i4z689_ h3z689_ h4z689_ hmz689_; exact absurd (zshow hmz689_) (Nat.not_lt_zero _)
          | succ nz689_ ihz689_ =>
            intro i3z689_ i4z689_ h3z689_ h4z689_ hmz689_
            have b690_ : 0 ≤ Int32.toInt (M563_.1 124 40) ∧ Int32.toInt (M563_.1 124 40) ≤ 6 := pvok_r o565_ 124 40 rfl
            refine pw_blk hT 3 (S' := (39, [some (pvR 124), some (pvI (M.1 124 4)), some (pvI i2z553_), some (pvI i3z689_), some (pvI i4z689_)], [pvI (M563_.1 124 40), pvI i4z689_], M563_)) rfl ⟨trivial, trivial, rfl, trivial⟩ ?_
            refine pw_ic hT (c := (M563_.1 124 40) ≤ i4z689_) rfl rfl (fun c691_ => ?_) (fun c691_ => ?_)
            · have d692_ : Int32.toInt (M563_.1 124 40) ≤ Int32.toInt i4z689_ := (zi_le _ _).mp c691_
              refine pw_blk hT 2 (S' := (81, [some (pvR 124), some (pvI (M.1 124 4)), some (pvI i2z553_), some (pvI i3z689_), some (pvI i4z689_)], [pvI i3z689_, pvI i2z553_], M563_)) rfl ⟨trivial, trivial, trivial⟩ ?_
              refine pw_if hT (c := i3z689_ = 0) rfl rfl (fun c693_ => ?_) (fun c693_ => ?_)
              · have b694_ : 0 ≤ Int32.toInt i3z689_ ∧ Int32.toInt i3z689_ ≤ 0 := (by have u0 := h3z689_; have u1 := (zi_eq _ _).mp c693_; have u2 := (show 0 ≤ Int32.toInt 0 ∧ Int32.toInt 0 ≤ 0 from (by decide)); omega)
                obtain ⟨q696_, b695_⟩ : (Int32.toInt ((M563_.1 124 4) + 1) = Int32.toInt (M563_.1 124 4) + 1) ∧ (1 ≤ Int32.toInt ((M563_.1 124 4) + 1) ∧ Int32.toInt ((M563_.1 124 4) + 1) ≤ 4) := zadd_k (M563_.1 124 4) 1 1 1 4 b569_ (by decide) (by decide) (by decide) (by decide) (by decide)
                refine pw_blkw hT 9 (pc := 106) (lo := [some (pvR 124), some (pvI (M.1 124 4)), some (pvI (i2z553_ ||| 0)), some (pvI i3z689_), some (pvI i4z689_)]) (st := []) (M := pvu M563_ 124 4 ((M563_.1 124 4) + 1)) rfl ⟨trivial, trivial, trivial, trivial, trivial, rfl, trivial, trivial, rfl, trivial⟩ (fun M697_ e698_ => ?_)
                have o699_ : pvOk M697_ := pvok_u2 e698_ o565_ rfl (zr_wide b695_ (by decide) (by decide))
                have f700_ : pvFr fp_X10_from_124 M M697_ := pvfr_u e698_ f567_ rfl
                refine pw_blk hT 1 (S' := (16, [some (pvR 124), some (pvI (M.1 124 4)), some (pvI (i2z553_ ||| 0)), some (pvI i3z689_), some (pvI i4z689_)], [], M697_)) rfl ⟨trivial, trivial⟩ ?_
                exact ihz553_ (i2z553_ ||| 0) (some (pvI i3z689_)) (some (pvI i4z689_)) M697_ o699_ f700_ (zhid (by have hm0 := zshow hmz553_; have z1 : Int32.toInt (M697_.1 124 4) = Int32.toInt ((M563_.1 124 4) + 1) := congrArg Int32.toInt (pvu_s e698_); have z2 : Int32.toInt (M563_.1 124 4) = Int32.toInt (Mz553_.1 124 4) := congrArg Int32.toInt (g566_ 124 4 rfl); omega))
              · have b701_ : 1 ≤ Int32.toInt i3z689_ ∧ Int32.toInt i3z689_ ≤ 1 := (by have u0 := h3z689_; have u1 := (not_congr (zi_eq _ _)).mp c693_; have u2 := (show 0 ≤ Int32.toInt 0 ∧ Int32.toInt 0 ≤ 0 from (by decide)); omega)
                obtain ⟨q703_, b702_⟩ : (Int32.toInt ((M563_.1 124 4) + 1) = Int32.toInt (M563_.1 124 4) + 1) ∧ (1 ≤ Int32.toInt ((M563_.1 124 4) + 1) ∧ Int32.toInt ((M563_.1 124 4) + 1) ≤ 4) := zadd_k (M563_.1 124 4) 1 1 1 4 b569_ (by decide) (by decide) (by decide) (by decide) (by decide)
                refine pw_blkw hT 13 (pc := 106) (lo := [some (pvR 124), some (pvI (M.1 124 4)), some (pvI (i2z553_ ||| (1 <<< ((M563_.1 124 4) &&& 31)))), some (pvI i3z689_), some (pvI i4z689_)]) (st := []) (M := pvu M563_ 124 4 ((M563_.1 124 4) + 1)) rfl ⟨trivial, trivial, rfl, trivial, trivial, trivial, trivial, trivial, trivial, rfl, trivial, trivial, rfl, trivial⟩ (fun M704_ e705_ => ?_)
                have o706_ : pvOk M704_ := pvok_u2 e705_ o565_ rfl (zr_wide b702_ (by decide) (by decide))
                have f707_ : pvFr fp_X10_from_124 M M704_ := pvfr_u e705_ f567_ rfl
                refine pw_blk hT 1 (S' := (16, [some (pvR 124), some (pvI (M.1 124 4)), some (pvI (i2z553_ ||| (1 <<< ((M563_.1 124 4) &&& 31)))), some (pvI i3z689_), some (pvI i4z689_)], [], M704_)) rfl ⟨trivial, trivial⟩ ?_
                exact ihz553_ (i2z553_ ||| (1 <<< ((M563_.1 124 4) &&& 31))) (some (pvI i3z689_)) (some (pvI i4z689_)) M704_ o706_ f707_ (zhid (by have hm0 := zshow hmz553_; have z1 : Int32.toInt (M704_.1 124 4) = Int32.toInt ((M563_.1 124 4) + 1) := congrArg Int32.toInt (pvu_s e705_); have z2 : Int32.toInt (M563_.1 124 4) = Int32.toInt (Mz553_.1 124 4) := congrArg Int32.toInt (g566_ 124 4 rfl); omega))
            · have b708_ : 1 ≤ Int32.toInt (M563_.1 124 40) ∧ Int32.toInt (M563_.1 124 40) ≤ 6 := zr_nle_l 1 c691_ b690_ h4z689_ (by decide)
              have b709_ : 0 ≤ Int32.toInt i4z689_ ∧ Int32.toInt i4z689_ ≤ 5 := zr_nle_r 5 c691_ h4z689_ b708_ (by decide)
              have d710_ : Int32.toInt (M563_.1 124 40) > Int32.toInt i4z689_ := Int.not_le.mp ((not_congr (zi_le _ _)).mp c691_)
              refine pw_blk hT 1 (S' := (43, [some (pvR 124), some (pvI (M.1 124 4)), some (pvI i2z553_), some (pvI i3z689_), some (pvI i4z689_)], [pvI i3z689_], M563_)) rfl ⟨trivial, trivial⟩ ?_
              refine pw_if hT (c := i3z689_ = 0) rfl rfl (fun c711_ => ?_) (fun c711_ => ?_)
              · have b712_ : 0 ≤ Int32.toInt i3z689_ ∧ Int32.toInt i3z689_ ≤ 0 := (by have u0 := h3z689_; have u1 := (zi_eq _ _).mp c711_; have u2 := (show 0 ≤ Int32.toInt 0 ∧ Int32.toInt 0 ≤ 0 from (by decide)); omega)
                refine pw_blk hT 2 (S' := (81, [some (pvR 124), some (pvI (M.1 124 4)), some (pvI i2z553_), some (pvI i3z689_), some (pvI i4z689_)], [pvI i3z689_, pvI i2z553_], M563_)) rfl ⟨trivial, trivial, trivial⟩ ?_
                refine pw_if hT (c := i3z689_ = 0) rfl rfl (fun c713_ => ?_) (fun c713_ => absurd c711_ c713_)
                obtain ⟨q715_, b714_⟩ : (Int32.toInt ((M563_.1 124 4) + 1) = Int32.toInt (M563_.1 124 4) + 1) ∧ (1 ≤ Int32.toInt ((M563_.1 124 4) + 1) ∧ Int32.toInt ((M563_.1 124 4) + 1) ≤ 4) := zadd_k (M563_.1 124 4) 1 1 1 4 b569_ (by decide) (by decide) (by decide) (by decide) (by decide)
                refine pw_blkw hT 9 (pc := 106) (lo := [some (pvR 124), some (pvI (M.1 124 4)), some (pvI (i2z553_ ||| 0)), some (pvI i3z689_), some (pvI i4z689_)]) (st := []) (M := pvu M563_ 124 4 ((M563_.1 124 4) + 1)) rfl ⟨trivial, trivial, trivial, trivial, trivial, rfl, trivial, trivial, rfl, trivial⟩ (fun M716_ e717_ => ?_)
                have o718_ : pvOk M716_ := pvok_u2 e717_ o565_ rfl (zr_wide b714_ (by decide) (by decide))
                have f719_ : pvFr fp_X10_from_124 M M716_ := pvfr_u e717_ f567_ rfl
                refine pw_blk hT 1 (S' := (16, [some (pvR 124), some (pvI (M.1 124 4)), some (pvI (i2z553_ ||| 0)), some (pvI i3z689_), some (pvI i4z689_)], [], M716_)) rfl ⟨trivial, trivial⟩ ?_
                exact ihz553_ (i2z553_ ||| 0) (some (pvI i3z689_)) (some (pvI i4z689_)) M716_ o718_ f719_ (zhid (by have hm0 := zshow hmz553_; have z1 : Int32.toInt (M716_.1 124 4) = Int32.toInt ((M563_.1 124 4) + 1) := congrArg Int32.toInt (pvu_s e717_); have z2 : Int32.toInt (M563_.1 124 4) = Int32.toInt (Mz553_.1 124 4) := congrArg Int32.toInt (g566_ 124 4 rfl); omega))
              · have b720_ : 1 ≤ Int32.toInt i3z689_ ∧ Int32.toInt i3z689_ ≤ 1 := (by have u0 := h3z689_; have u1 := (not_congr (zi_eq _ _)).mp c711_; have u2 := (show 0 ≤ Int32.toInt 0 ∧ Int32.toInt 0 ≤ 0 from (by decide)); omega)
                have b721_ : 0 ≤ Int32.toInt (M563_.1 147 (Int32.toNatClampNeg i4z689_)) ∧ Int32.toInt (M563_.1 147 (Int32.toNatClampNeg i4z689_)) ≤ 6 := pvok_r o565_ 147 (Int32.toNatClampNeg i4z689_) rfl
                refine pw_blk hT 5 (S' := (54, [some (pvR 124), some (pvI (M.1 124 4)), some (pvI i2z553_), some (pvI i3z689_), some (pvI i4z689_)], [pvI (M563_.1 147 (Int32.toNatClampNeg i4z689_)), pvR 124], M563_)) rfl ⟨trivial, trivial, rfl, trivial, ⟨rfl, (zr_in (n := 6) b709_ (by decide) (by decide))⟩, trivial⟩ ?_
                refine pw_callGp hT (as := [pvR 124, pvI (M563_.1 147 (Int32.toNatClampNeg i4z689_))]) (lo1 := [some (pvR 124), some (pvI (M563_.1 147 (Int32.toNatClampNeg i4z689_))), none, none]) (d1 := d) (rest := []) rfl rfl rfl rfl rfl (fun _ => rfl) (Nat.zero_le _) rfl rfl rfl (sf_X10_harmOf_124_x M563_ o565_ (M563_.1 147 (Int32.toNatClampNeg i4z689_)) b721_ d) (fun x722_ b724_ => ?_)
                have b727_ : 0 ≤ Int32.toInt (M563_.1 148 (Int32.toNatClampNeg i4z689_)) ∧ Int32.toInt (M563_.1 148 (Int32.toNatClampNeg i4z689_)) ≤ 9999 := pvok_r o565_ 148 (Int32.toNatClampNeg i4z689_) rfl
                refine pw_blk hT 4 (S' := (64, [some (pvR 124), some (pvI (M.1 124 4)), some (pvI i2z553_), some (pvI i3z689_), some (pvI i4z689_)], [pvI (M563_.1 148 (Int32.toNatClampNeg i4z689_)), pvI x722_], M563_)) rfl ⟨trivial, rfl, trivial, ⟨rfl, (zr_in (n := 6) b709_ (by decide) (by decide))⟩, trivial⟩ ?_
                refine pw_icn hT (c := x722_ = (M563_.1 148 (Int32.toNatClampNeg i4z689_))) rfl rfl (fun c728_ => ?_) (fun c728_ => ?_)
                · obtain ⟨q730_, b729_⟩ : (Int32.toInt (i4z689_ + 1) = Int32.toInt i4z689_ + 1) ∧ (1 ≤ Int32.toInt (i4z689_ + 1) ∧ Int32.toInt (i4z689_ + 1) ≤ 6) := zadd_k i4z689_ 1 1 1 6 b709_ (by decide) (by decide) (by decide) (by decide) (by decide)
                  refine pw_blk hT 4 (S' := (33, [some (pvR 124), some (pvI (M.1 124 4)), some (pvI i2z553_), some (pvI 0), some (pvI (i4z689_ + 1))], [], M563_)) rfl ⟨trivial, trivial, trivial, trivial, trivial⟩ ?_
                  exact ihz689_ 0 (i4z689_ + 1) (zr_wide (show 0 ≤ Int32.toInt 0 ∧ Int32.toInt 0 ≤ 0 from (by decide)) (by decide) (by decide)) (zr_wide b729_ (by decide) (by decide)) (zhid (pvms_up (zshow hmz689_) h4z689_ q730_ (by decide) (by decide)))
                · have b731_ : 0 ≤ Int32.toInt x722_ ∧ Int32.toInt x722_ ≤ 9999 := (by have u0 := b724_; have u1 := (zi_eq _ _).mp c728_; have u2 := b727_; omega)
                  have d732_ : Int32.toInt x722_ = Int32.toInt (M563_.1 148 (Int32.toNatClampNeg i4z689_)) := (zi_eq _ _).mp c728_
                  obtain ⟨q734_, b733_⟩ : (Int32.toInt (i4z689_ + 1) = Int32.toInt i4z689_ + 1) ∧ (1 ≤ Int32.toInt (i4z689_ + 1) ∧ Int32.toInt (i4z689_ + 1) ≤ 6) := zadd_k i4z689_ 1 1 1 6 b709_ (by decide) (by decide) (by decide) (by decide) (by decide)
                  refine pw_blk hT 5 (S' := (33, [some (pvR 124), some (pvI (M.1 124 4)), some (pvI i2z553_), some (pvI 1), some (pvI (i4z689_ + 1))], [], M563_)) rfl ⟨trivial, trivial, trivial, trivial, trivial, trivial⟩ ?_
                  exact ihz689_ 1 (i4z689_ + 1) (zr_wide (show 1 ≤ Int32.toInt 1 ∧ Int32.toInt 1 ≤ 1 from (by decide)) (by decide) (by decide)) (zr_wide b733_ (by decide) (by decide)) (zhid (pvms_up (zshow hmz689_) h4z689_ q734_ (by decide) (by decide)))
        exact hlz689_ _ 1 0 (zr_wide (show 1 ≤ Int32.toInt 1 ∧ Int32.toInt 1 ≤ 1 from (by decide)) (by decide) (by decide)) (zr_wide (show 0 ≤ Int32.toInt 0 ∧ Int32.toInt 0 ≤ 0 from (by decide)) (by decide) (by decide)) (zhid (Nat.lt_succ_self _))
  exact hlz553_ _ 0 none none M8_ o10_ f11_ (zhid (Nat.lt_succ_self _))
def fpL_X10_goMinutes_124_x : List (Nat × Nat × Nat) := [(0, 124, 2), (0, 124, 3), (0, 124, 33), (0, 141, 0), (0, 142, 0), (0, 143, 0)]
def fp_X10_goMinutes_124_x (q k : Nat) : Bool := pvfp fpL_X10_goMinutes_124_x q k
theorem fp_X10_goMinutes_124_x_fp_X10_layOpen_124 (a b : Nat) (h : fp_X10_layOpen_124 a b = true) : fp_X10_goMinutes_124_x a b = true := pvfp_sub (l1 := fpL_X10_layOpen_124) (l2 := fpL_X10_goMinutes_124_x) (by decide) a b h
theorem fp_X10_goMinutes_124_x_fp_X10_layRain_124 (a b : Nat) (h : fp_X10_layRain_124 a b = true) : fp_X10_goMinutes_124_x a b = true := pvfp_sub (l1 := fpL_X10_layRain_124) (l2 := fpL_X10_goMinutes_124_x) (by decide) a b h
set_option maxHeartbeats 4000000 in
set_option maxRecDepth 10000 in
theorem sf_X10_goMinutes_124_x (M : pvM) (hok : pvOk M) (n1 : Int32) (hn1 : 0 ≤ Int32.toInt n1 ∧ Int32.toInt n1 ≤ 9999) (hx0 : Int32.toInt (M.1 124 1) + Int32.toInt n1 ≤ 9999) (d : Nat) : PW 23 d (0, [some (pvR 124), some (pvI n1), none], [], M) (fun r X => (∃ x : Int32, r = some (pvI x) ∧ 0 ≤ Int32.toInt x ∧ Int32.toInt x ≤ 9000000) ∧ pvOk X ∧ pvFr fp_X10_goMinutes_124_x M X) := by
  have hT : pvdom 23 = pvD_23 := rfl
  have b1_ : 0 ≤ Int32.toInt (M.1 124 1) ∧ Int32.toInt (M.1 124 1) ≤ 9999 := pvok_r hok 124 1 rfl
  refine pw_blk hT 1 (S' := (1, [some (pvR 124), some (pvI n1), none], [pvR 124], M)) rfl ⟨trivial, trivial⟩ ?_
  refine pw_callV hT (as := [pvR 124]) (lo1 := [some (pvR 124), none, none]) (d1 := d) (rest := []) rfl rfl rfl rfl rfl (fun _ => rfl) (Nat.zero_le _) rfl rfl rfl (sf_X10_layRain_124 M hok d) (fun M3_ o5_ g6_ => ?_)
  have f7_ : pvFr fp_X10_goMinutes_124_x M M3_ := pvfr_t g6_ pvfr_0 fp_X10_goMinutes_124_x_fp_X10_layRain_124
  refine pw_blk hT 1 (S' := (5, [some (pvR 124), some (pvI n1), none], [pvR 124], M3_)) rfl ⟨trivial, trivial⟩ ?_
  refine pw_callV hT (as := [pvR 124]) (lo1 := [some (pvR 124), none]) (d1 := d) (rest := []) rfl rfl rfl rfl rfl (fun _ => rfl) (Nat.zero_le _) rfl rfl rfl (sf_X10_layOpen_124 M3_ o5_ d) (fun M9_ o11_ g12_ => ?_)
  have f13_ : pvFr fp_X10_goMinutes_124_x M M9_ := pvfr_t g12_ f7_ fp_X10_goMinutes_124_x_fp_X10_layOpen_124
  have e14_ : (M9_.1 124 1) = (M.1 124 1) := ((g12_ 124 1 rfl).trans (g6_ 124 1 rfl))
  have b15_ : 0 ≤ Int32.toInt (M9_.1 124 1) ∧ Int32.toInt (M9_.1 124 1) ≤ 9999 := pvok_r o11_ 124 1 rfl
  have d16_ : Int32.toInt (M9_.1 124 1) = Int32.toInt (M.1 124 1) := congrArg Int32.toInt e14_
  obtain ⟨q18_, b17_⟩ : (Int32.toInt ((M9_.1 124 1) + n1) = Int32.toInt (M9_.1 124 1) + Int32.toInt n1) ∧ (0 ≤ Int32.toInt ((M9_.1 124 1) + n1) ∧ Int32.toInt ((M9_.1 124 1) + n1) ≤ 19998) := zadd_r (M9_.1 124 1) n1 0 19998 b15_ hn1 (by decide) (by decide) (by decide) (by decide)
  refine pw_blk hT 7 (S' := (19, [some (pvR 124), some (pvI n1), none], [pvI ((M9_.1 124 1) + n1), pvI (M9_.1 124 1), pvR 124], M9_)) rfl ⟨trivial, trivial, rfl, trivial, rfl, trivial, trivial, trivial⟩ ?_
  refine pw_callGp hT (as := [pvR 124, pvI (M9_.1 124 1), pvI ((M9_.1 124 1) + n1)]) (lo1 := [some (pvR 124), some (pvI (M9_.1 124 1)), some (pvI ((M9_.1 124 1) + n1)), none, none]) (d1 := d) (rest := []) rfl rfl rfl rfl rfl (fun _ => rfl) (Nat.zero_le _) rfl rfl rfl (sf_X10_harmFrom_124_x_x M9_ o11_ (M9_.1 124 1) ((M9_.1 124 1) + n1) (zr_wide b15_ (by decide) (by decide)) (zr_wide b17_ (by decide) (by decide)) d) (fun x19_ b21_ => ?_)
  have b24_ : 0 ≤ Int32.toInt (M9_.1 124 2) ∧ Int32.toInt (M9_.1 124 2) ≤ 999999 := pvok_r o11_ 124 2 rfl
  obtain ⟨q26_, b25_⟩ : (Int32.toInt ((M9_.1 124 2) + x19_) = Int32.toInt (M9_.1 124 2) + Int32.toInt x19_) ∧ (0 ≤ Int32.toInt ((M9_.1 124 2) + x19_) ∧ Int32.toInt ((M9_.1 124 2) + x19_) ≤ 9999999) := zadd_r (M9_.1 124 2) x19_ 0 9999999 b24_ b21_ (by decide) (by decide) (by decide) (by decide)
  refine pw_blk hT 7 (S' := (33, [some (pvR 124), some (pvI n1), some (pvI x19_)], [pvI 999999, pvI ((M9_.1 124 2) + x19_), pvR 124], M9_)) rfl ⟨trivial, trivial, trivial, rfl, trivial, trivial, trivial, trivial⟩ ?_
  refine pw_ic hT (c := ((M9_.1 124 2) + x19_) ≤ 999999) rfl rfl (fun c27_ => ?_) (fun c27_ => ?_)
  · have b28_ : 0 ≤ Int32.toInt ((M9_.1 124 2) + x19_) ∧ Int32.toInt ((M9_.1 124 2) + x19_) ≤ 999999 := zr_le_l 999999 c27_ b25_ (show 999999 ≤ Int32.toInt 999999 ∧ Int32.toInt 999999 ≤ 999999 from (by decide)) (by decide)
    refine pw_blkw hT 5 (pc := 51) (lo := [some (pvR 124), some (pvI n1), some (pvI x19_)]) (st := []) (M := pvu M9_ 124 2 ((M9_.1 124 2) + x19_)) rfl ⟨trivial, rfl, trivial, trivial, rfl, trivial⟩ (fun M29_ e30_ => ?_)
    have o31_ : pvOk M29_ := pvok_u2 e30_ o11_ rfl b28_
    have f32_ : pvFr fp_X10_goMinutes_124_x M M29_ := pvfr_u e30_ f13_ rfl
    have e33_ : (M29_.1 124 1) = (M9_.1 124 1) := (pvu_n e30_ 124 1 (Or.inr (by decide)))
    have b34_ : 0 ≤ Int32.toInt (M29_.1 124 1) ∧ Int32.toInt (M29_.1 124 1) ≤ 9999 := pvok_r o31_ 124 1 rfl
    have d35_ : Int32.toInt (M29_.1 124 1) = Int32.toInt (M9_.1 124 1) := congrArg Int32.toInt e33_
    obtain ⟨q37_, b36_⟩ : (Int32.toInt ((M29_.1 124 1) + n1) = Int32.toInt (M29_.1 124 1) + Int32.toInt n1) ∧ (0 ≤ Int32.toInt ((M29_.1 124 1) + n1) ∧ Int32.toInt ((M29_.1 124 1) + n1) ≤ 19998) := zadd_r (M29_.1 124 1) n1 0 19998 b34_ hn1 (by decide) (by decide) (by decide) (by decide)
    refine pw_blkw hT 6 (pc := 61) (lo := [some (pvR 124), some (pvI n1), some (pvI x19_)]) (st := []) (M := pvu M29_ 124 1 ((M29_.1 124 1) + n1)) rfl ⟨trivial, trivial, rfl, trivial, trivial, rfl, trivial⟩ (fun M38_ e39_ => ?_)
    have o40_ : pvOk M38_ := pvok_u2 e39_ o31_ rfl (by have u0 := b36_; omega)
    have f41_ : pvFr fp_X10_goMinutes_124_x M M38_ := pvfr_u e39_ f32_ rfl
    refine pw_blk hT 1 (S' := (62, [some (pvR 124), some (pvI n1), some (pvI x19_)], [pvI x19_], M38_)) rfl ⟨trivial, trivial⟩ ?_
    exact pw_ret hT rfl (r := some (pvI x19_)) (M' := M38_) ⟨rfl, rfl⟩ ⟨⟨_, rfl, b21_⟩, o40_, f41_⟩
  · have b42_ : 1000000 ≤ Int32.toInt ((M9_.1 124 2) + x19_) ∧ Int32.toInt ((M9_.1 124 2) + x19_) ≤ 9999999 := zr_nle_l 1000000 c27_ b25_ (show 999999 ≤ Int32.toInt 999999 ∧ Int32.toInt 999999 ≤ 999999 from (by decide)) (by decide)
    refine pw_blkw hT 3 (pc := 51) (lo := [some (pvR 124), some (pvI n1), some (pvI x19_)]) (st := []) (M := pvu M9_ 124 2 999999) rfl ⟨trivial, trivial, rfl, trivial⟩ (fun M43_ e44_ => ?_)
    have o45_ : pvOk M43_ := pvok_u2 e44_ o11_ rfl (zr_wide (show 999999 ≤ Int32.toInt 999999 ∧ Int32.toInt 999999 ≤ 999999 from (by decide)) (by decide) (by decide))
    have f46_ : pvFr fp_X10_goMinutes_124_x M M43_ := pvfr_u e44_ f13_ rfl
    have e47_ : (M43_.1 124 1) = (M9_.1 124 1) := (pvu_n e44_ 124 1 (Or.inr (by decide)))
    have b48_ : 0 ≤ Int32.toInt (M43_.1 124 1) ∧ Int32.toInt (M43_.1 124 1) ≤ 9999 := pvok_r o45_ 124 1 rfl
    have d49_ : Int32.toInt (M43_.1 124 1) = Int32.toInt (M9_.1 124 1) := congrArg Int32.toInt e47_
    obtain ⟨q51_, b50_⟩ : (Int32.toInt ((M43_.1 124 1) + n1) = Int32.toInt (M43_.1 124 1) + Int32.toInt n1) ∧ (0 ≤ Int32.toInt ((M43_.1 124 1) + n1) ∧ Int32.toInt ((M43_.1 124 1) + n1) ≤ 19998) := zadd_r (M43_.1 124 1) n1 0 19998 b48_ hn1 (by decide) (by decide) (by decide) (by decide)
    refine pw_blkw hT 6 (pc := 61) (lo := [some (pvR 124), some (pvI n1), some (pvI x19_)]) (st := []) (M := pvu M43_ 124 1 ((M43_.1 124 1) + n1)) rfl ⟨trivial, trivial, rfl, trivial, trivial, rfl, trivial⟩ (fun M52_ e53_ => ?_)
    have o54_ : pvOk M52_ := pvok_u2 e53_ o45_ rfl (by have u0 := b50_; omega)
    have f55_ : pvFr fp_X10_goMinutes_124_x M M52_ := pvfr_u e53_ f46_ rfl
    refine pw_blk hT 1 (S' := (62, [some (pvR 124), some (pvI n1), some (pvI x19_)], [pvI x19_], M52_)) rfl ⟨trivial, trivial⟩ ?_
    exact pw_ret hT rfl (r := some (pvI x19_)) (M' := M52_) ⟨rfl, rfl⟩ ⟨⟨_, rfl, b21_⟩, o54_, f55_⟩
def fpL_X10_goesText_124_x : List (Nat × Nat × Nat) := [(0, 124, 18), (0, 124, 19), (0, 124, 28), (0, 124, 29), (0, 124, 30), (0, 133, 0), (0, 134, 0), (0, 135, 0), (0, 136, 0), (0, 137, 0), (0, 138, 0), (0, 139, 0)]
def fp_X10_goesText_124_x (q k : Nat) : Bool := pvfp fpL_X10_goesText_124_x q k
theorem sf_X10_goesText_124_x (M : pvM) (hok : pvOk M) (n1 : Int32) (h1 : 0 ≤ Int32.toInt n1 ∧ Int32.toInt n1 ≤ 5) (d : Nat) : PW 25 d (0, [some (pvR 124), some (pvI n1), none], [], M) (fun r X => (∃ x : Int32, r = some (pvI x) ∧ 0 ≤ Int32.toInt x ∧ Int32.toInt x ≤ 1) ∧ pvOk X ∧ pvFr fp_X10_goesText_124_x M X) := sorry
def fpL_X10_house_124 : List (Nat × Nat × Nat) := [(0, 124, 15), (0, 124, 16), (0, 124, 17), (0, 124, 18), (0, 124, 19), (0, 124, 28), (0, 124, 29), (0, 124, 30), (0, 133, 0), (0, 134, 0), (0, 135, 0), (0, 136, 0), (0, 137, 0), (0, 138, 0), (0, 139, 0)]
def fp_X10_house_124 (q k : Nat) : Bool := pvfp fpL_X10_house_124 q k
theorem fp_X10_house_124_fp_X10_goesText_124_x (a b : Nat) (h : fp_X10_goesText_124_x a b = true) : fp_X10_house_124 a b = true := pvfp_sub (l1 := fpL_X10_goesText_124_x) (l2 := fpL_X10_house_124) (by decide) a b h
set_option maxHeartbeats 4000000 in
set_option maxRecDepth 10000 in
theorem sf_X10_house_124 (M : pvM) (hok : pvOk M) (d : Nat) : PW 34 d (0, [some (pvR 124), none], [], M) (fun r X => (∃ x : Int32, r = some (pvI x) ∧ (-110) ≤ Int32.toInt x ∧ Int32.toInt x ≤ 5) ∧ pvOk X ∧ pvFr fp_X10_house_124 M X) := by
  have hT : pvdom 34 = pvD_34 := rfl
  have b1_ : 0 ≤ Int32.toInt (M.1 124 14) ∧ Int32.toInt (M.1 124 14) ≤ 6 := pvok_r hok 124 14 rfl
  refine pw_blk hT 3 (S' := (6, [some (pvR 124), none], [pvI 6, pvI (M.1 124 14)], M)) rfl ⟨trivial, rfl, trivial, trivial⟩ ?_
  refine pw_icn hT (c := (M.1 124 14) = 6) rfl rfl (fun c2_ => ?_) (fun c2_ => ?_)
  · have b3_ : 0 ≤ Int32.toInt (M.1 124 14) ∧ Int32.toInt (M.1 124 14) ≤ 5 := (by have u0 := b1_; have u1 := (not_congr (zi_eq _ _)).mp c2_; have u2 := (show 6 ≤ Int32.toInt 6 ∧ Int32.toInt 6 ≤ 6 from (by decide)); omega)
    refine pw_blk hT 3 (S' := (17, [some (pvR 124), none], [pvI (M.1 124 14), pvR 124], M)) rfl ⟨trivial, trivial, rfl, trivial⟩ ?_
    refine pw_callG hT (as := [pvR 124, pvI (M.1 124 14)]) (lo1 := [some (pvR 124), some (pvI (M.1 124 14)), none]) (d1 := d) (rest := []) rfl rfl rfl rfl rfl (fun _ => rfl) (Nat.zero_le _) rfl rfl rfl (sf_X10_goesText_124_x M hok (M.1 124 14) (show 0 ≤ Int32.toInt (M.1 124 14) ∧ Int32.toInt (M.1 124 14) ≤ 5 from (by omega)) d) (fun x4_ M5_ b6_ o7_ g8_ => ?_)
    have f9_ : pvFr fp_X10_house_124 M M5_ := pvfr_t g8_ pvfr_0 fp_X10_house_124_fp_X10_goesText_124_x
    refine pw_blkw hT 4 (pc := 26) (lo := [some (pvR 124), some (pvI x4_)]) (st := []) (M := pvu M5_ 124 16 0) rfl ⟨trivial, trivial, trivial, rfl, trivial⟩ (fun M10_ e11_ => ?_)
    have o12_ : pvOk M10_ := pvok_u2 e11_ o7_ rfl (zr_wide (show 0 ≤ Int32.toInt 0 ∧ Int32.toInt 0 ≤ 0 from (by decide)) (by decide) (by decide))
    have f13_ : pvFr fp_X10_house_124 M M10_ := pvfr_u e11_ f9_ rfl
    refine pw_blk hT 1 (S' := (27, [some (pvR 124), some (pvI x4_)], [pvI x4_], M10_)) rfl ⟨trivial, trivial⟩ ?_
    refine pw_ifn hT (c := x4_ = 0) rfl rfl (fun c14_ => ?_) (fun c14_ => ?_)
    · have b15_ : 1 ≤ Int32.toInt x4_ ∧ Int32.toInt x4_ ≤ 1 := (by have u0 := b6_; have u1 := (not_congr (zi_eq _ _)).mp c14_; have u2 := (show 0 ≤ Int32.toInt 0 ∧ Int32.toInt 0 ≤ 0 from (by decide)); omega)
      have e16_ : (M10_.1 124 14) = (M.1 124 14) := ((pvu_n e11_ 124 14 (Or.inr (by decide))).trans (g8_ 124 14 rfl))
      have b17_ : 0 ≤ Int32.toInt (M10_.1 124 14) ∧ Int32.toInt (M10_.1 124 14) ≤ 5 := (by rw [e16_]; exact b3_)
      refine pw_blkw hT 4 (pc := 46) (lo := [some (pvR 124), some (pvI x4_)]) (st := []) (M := pvu M10_ 124 15 (M10_.1 124 14)) rfl ⟨trivial, trivial, rfl, rfl, trivial⟩ (fun M18_ e19_ => ?_)
      have o20_ : pvOk M18_ := pvok_u2 e19_ o12_ rfl (zr_wide b17_ (by decide) (by decide))
      have f21_ : pvFr fp_X10_house_124 M M18_ := pvfr_u e19_ f13_ rfl
      have e22_ : (M18_.1 124 14) = (M10_.1 124 14) := (pvu_n e19_ 124 14 (Or.inr (by decide)))
      have b23_ : 0 ≤ Int32.toInt (M18_.1 124 14) ∧ Int32.toInt (M18_.1 124 14) ≤ 5 := (by rw [e22_]; exact b17_)
      obtain ⟨q25_, b24_⟩ : (Int32.toInt ((M18_.1 124 14) + 1) = Int32.toInt (M18_.1 124 14) + 1) ∧ (1 ≤ Int32.toInt ((M18_.1 124 14) + 1) ∧ Int32.toInt ((M18_.1 124 14) + 1) ≤ 6) := zadd_k (M18_.1 124 14) 1 1 1 6 b23_ (by decide) (by decide) (by decide) (by decide) (by decide)
      refine pw_blkw hT 6 (pc := 56) (lo := [some (pvR 124), some (pvI x4_)]) (st := []) (M := pvu M18_ 124 14 ((M18_.1 124 14) + 1)) rfl ⟨trivial, trivial, rfl, trivial, trivial, rfl, trivial⟩ (fun M26_ e27_ => ?_)
      have o28_ : pvOk M26_ := pvok_u2 e27_ o20_ rfl (zr_wide b24_ (by decide) (by decide))
      have f29_ : pvFr fp_X10_house_124 M M26_ := pvfr_u e27_ f21_ rfl
      have e30_ : (M26_.1 124 15) = (M10_.1 124 14) := ((pvu_n e27_ 124 15 (Or.inr (by decide))).trans (pvu_s e19_))
      have b31_ : 0 ≤ Int32.toInt (M26_.1 124 15) ∧ Int32.toInt (M26_.1 124 15) ≤ 5 := (by rw [e30_]; exact b17_)
      refine pw_blk hT 2 (S' := (60, [some (pvR 124), some (pvI x4_)], [pvI (M26_.1 124 15)], M26_)) rfl ⟨trivial, rfl, trivial⟩ ?_
      exact pw_ret hT rfl (r := some (pvI (M26_.1 124 15))) (M' := M26_) ⟨rfl, rfl⟩ ⟨⟨_, rfl, (zr_wide b31_ (by decide) (by decide))⟩, o28_, f29_⟩
    · have b32_ : 0 ≤ Int32.toInt x4_ ∧ Int32.toInt x4_ ≤ 0 := (by have u0 := b6_; have u1 := (zi_eq _ _).mp c14_; have u2 := (show 0 ≤ Int32.toInt 0 ∧ Int32.toInt 0 ≤ 0 from (by decide)); omega)
      have b33_ : 0 ≤ Int32.toInt (M10_.1 124 17) ∧ Int32.toInt (M10_.1 124 17) ≤ 100 := pvok_r o12_ 124 17 rfl
      obtain ⟨q35_, b34_⟩ : (Int32.toInt ((-10) - (M10_.1 124 17)) = (-10) - Int32.toInt (M10_.1 124 17)) ∧ ((-110) ≤ Int32.toInt ((-10) - (M10_.1 124 17)) ∧ Int32.toInt ((-10) - (M10_.1 124 17)) ≤ (-10)) := zsub_q (-10) (M10_.1 124 17) (-10) (-110) (-10) b33_ (by decide) (by decide) (by decide) (by decide) (by decide)
      refine pw_blk hT 4 (S' := (37, [some (pvR 124), some (pvI x4_)], [pvI ((-10) - (M10_.1 124 17))], M10_)) rfl ⟨trivial, trivial, rfl, trivial, trivial⟩ ?_
      exact pw_ret hT rfl (r := some (pvI ((-10) - (M10_.1 124 17)))) (M' := M10_) ⟨rfl, rfl⟩ ⟨⟨_, rfl, (zr_wide b34_ (by decide) (by decide))⟩, o12_, f13_⟩
  · have b36_ : 6 ≤ Int32.toInt (M.1 124 14) ∧ Int32.toInt (M.1 124 14) ≤ 6 := (by have u0 := b1_; have u1 := (zi_eq _ _).mp c2_; have u2 := (show 6 ≤ Int32.toInt 6 ∧ Int32.toInt 6 ≤ 6 from (by decide)); omega)
    refine pw_blk hT 1 (S' := (11, [some (pvR 124), none], [pvI (-4)], M)) rfl ⟨trivial, trivial⟩ ?_
    exact pw_ret hT rfl (r := some (pvI (-4))) (M' := M) ⟨rfl, rfl⟩ ⟨⟨_, rfl, (zr_wide (show (-4) ≤ Int32.toInt (-4) ∧ Int32.toInt (-4) ≤ (-4) from (by decide)) (by decide) (by decide))⟩, hok, pvfr_0⟩
def fpL_X10_image_124 : List (Nat × Nat × Nat) := [(0, 124, 47), (0, 124, 48), (0, 124, 49), (0, 124, 50), (0, 124, 51), (0, 124, 52), (0, 124, 53), (0, 124, 54), (0, 124, 55), (0, 124, 56), (0, 124, 57), (0, 124, 58), (0, 151, 0), (0, 152, 0), (0, 153, 0), (0, 154, 0), (0, 155, 0), (0, 156, 0), (0, 157, 0), (0, 158, 0), (0, 159, 0), (0, 160, 0), (0, 161, 0), (0, 162, 0)]
def fp_X10_image_124 (q k : Nat) : Bool := pvfp fpL_X10_image_124 q k
set_option maxHeartbeats 4000000 in
set_option maxRecDepth 10000 in
theorem sf_X10_image_124 (M : pvM) (hok : pvOk M) (d : Nat) : PW 35 d (0, [some (pvR 124), none], [], M) (fun r X => (∃ x : Int32, r = some (pvI x) ∧ 0 ≤ Int32.toInt x ∧ Int32.toInt x ≤ 7) ∧ pvOk X ∧ pvFr fp_X10_image_124 M X) := by
  have hT : pvdom 35 = pvD_35 := rfl
  refine pw_blkw hT 3 (pc := 5) (lo := [some (pvR 124), none]) (st := []) (M := pvu M 124 46 1) rfl ⟨trivial, trivial, ⟨rfl, Or.inr rfl⟩, trivial⟩ (fun M1_ e2_ => ?_)
  have o3_ : pvOk M1_ := pvok_u2 e2_ hok rfl (zr_wide (show 1 ≤ Int32.toInt 1 ∧ Int32.toInt 1 ≤ 1 from (by decide)) (by decide) (by decide))
  have f4_ : pvFr fp_X10_image_124 M M1_ := pvfr_u e2_ pvfr_0 rfl
  have b5_ : (-1) ≤ Int32.toInt (M1_.1 124 15) ∧ Int32.toInt (M1_.1 124 15) ≤ 5 := pvok_r o3_ 124 15 rfl
  refine pw_blkw hT 4 (pc := 13) (lo := [some (pvR 124), none]) (st := []) (M := pvu M1_ 124 47 (M1_.1 124 15)) rfl ⟨trivial, trivial, rfl, rfl, trivial⟩ (fun M6_ e7_ => ?_)
  have o8_ : pvOk M6_ := pvok_u2 e7_ o3_ rfl b5_
  have f9_ : pvFr fp_X10_image_124 M M6_ := pvfr_u e7_ f4_ rfl
  have b10_ : 0 ≤ Int32.toInt (M6_.1 124 0) ∧ Int32.toInt (M6_.1 124 0) ≤ 7 := pvok_r o8_ 124 0 rfl
  refine pw_blkw hT 4 (pc := 21) (lo := [some (pvR 124), none]) (st := []) (M := pvu M6_ 124 48 (M6_.1 124 0)) rfl ⟨trivial, trivial, rfl, rfl, trivial⟩ (fun M11_ e12_ => ?_)
  have o13_ : pvOk M11_ := pvok_u2 e12_ o8_ rfl b10_
  have f14_ : pvFr fp_X10_image_124 M M11_ := pvfr_u e12_ f9_ rfl
  have b15_ : 0 ≤ Int32.toInt (M11_.1 124 1) ∧ Int32.toInt (M11_.1 124 1) ≤ 9999 := pvok_r o13_ 124 1 rfl
  refine pw_blkw hT 4 (pc := 29) (lo := [some (pvR 124), none]) (st := []) (M := pvu M11_ 124 49 (M11_.1 124 1)) rfl ⟨trivial, trivial, rfl, rfl, trivial⟩ (fun M16_ e17_ => ?_)
  have o18_ : pvOk M16_ := pvok_u2 e17_ o13_ rfl b15_
  have f19_ : pvFr fp_X10_image_124 M M16_ := pvfr_u e17_ f14_ rfl
  have b20_ : 0 ≤ Int32.toInt (M16_.1 124 2) ∧ Int32.toInt (M16_.1 124 2) ≤ 999999 := pvok_r o18_ 124 2 rfl
  refine pw_blkw hT 4 (pc := 37) (lo := [some (pvR 124), none]) (st := []) (M := pvu M16_ 124 50 (M16_.1 124 2)) rfl ⟨trivial, trivial, rfl, rfl, trivial⟩ (fun M21_ e22_ => ?_)
  have o23_ : pvOk M21_ := pvok_u2 e22_ o18_ rfl b20_
  have f24_ : pvFr fp_X10_image_124 M M21_ := pvfr_u e22_ f19_ rfl
  have b25_ : 0 ≤ Int32.toInt (M21_.1 124 3) ∧ Int32.toInt (M21_.1 124 3) ≤ 108 := pvok_r o23_ 124 3 rfl
  refine pw_blkw hT 4 (pc := 45) (lo := [some (pvR 124), none]) (st := []) (M := pvu M21_ 124 51 (M21_.1 124 3)) rfl ⟨trivial, trivial, rfl, rfl, trivial⟩ (fun M26_ e27_ => ?_)
  have o28_ : pvOk M26_ := pvok_u2 e27_ o23_ rfl b25_
  have f29_ : pvFr fp_X10_image_124 M M26_ := pvfr_u e27_ f24_ rfl
  have b30_ : 0 ≤ Int32.toInt (M26_.1 124 4) ∧ Int32.toInt (M26_.1 124 4) ≤ 4 := pvok_r o28_ 124 4 rfl
  refine pw_blkw hT 4 (pc := 53) (lo := [some (pvR 124), none]) (st := []) (M := pvu M26_ 124 52 (M26_.1 124 4)) rfl ⟨trivial, trivial, rfl, rfl, trivial⟩ (fun M31_ e32_ => ?_)
  have o33_ : pvOk M31_ := pvok_u2 e32_ o28_ rfl b30_
  have f34_ : pvFr fp_X10_image_124 M M31_ := pvfr_u e32_ f29_ rfl
  have b35_ : 0 ≤ Int32.toInt (M31_.1 124 5) ∧ Int32.toInt (M31_.1 124 5) ≤ 3 := pvok_r o33_ 124 5 rfl
  refine pw_blkw hT 4 (pc := 61) (lo := [some (pvR 124), none]) (st := []) (M := pvu M31_ 124 53 (M31_.1 124 5)) rfl ⟨trivial, trivial, rfl, rfl, trivial⟩ (fun M36_ e37_ => ?_)
  have o38_ : pvOk M36_ := pvok_u2 e37_ o33_ rfl b35_
  have f39_ : pvFr fp_X10_image_124 M M36_ := pvfr_u e37_ f34_ rfl
  have b40_ : 0 ≤ Int32.toInt (M36_.1 124 6) ∧ Int32.toInt (M36_.1 124 6) ≤ 4 := pvok_r o38_ 124 6 rfl
  refine pw_blkw hT 4 (pc := 69) (lo := [some (pvR 124), none]) (st := []) (M := pvu M36_ 124 54 (M36_.1 124 6)) rfl ⟨trivial, trivial, rfl, rfl, trivial⟩ (fun M41_ e42_ => ?_)
  have o43_ : pvOk M41_ := pvok_u2 e42_ o38_ rfl b40_
  have f44_ : pvFr fp_X10_image_124 M M41_ := pvfr_u e42_ f39_ rfl
  have b45_ : 0 ≤ Int32.toInt (M41_.1 124 37) ∧ Int32.toInt (M41_.1 124 37) ≤ 7 := pvok_r o43_ 124 37 rfl
  refine pw_blkw hT 4 (pc := 77) (lo := [some (pvR 124), none]) (st := []) (M := pvu M41_ 124 55 (M41_.1 124 37)) rfl ⟨trivial, trivial, rfl, rfl, trivial⟩ (fun M46_ e47_ => ?_)
  have o48_ : pvOk M46_ := pvok_u2 e47_ o43_ rfl b45_
  have f49_ : pvFr fp_X10_image_124 M M46_ := pvfr_u e47_ f44_ rfl
  have b50_ : 0 ≤ Int32.toInt (M46_.1 124 40) ∧ Int32.toInt (M46_.1 124 40) ≤ 6 := pvok_r o48_ 124 40 rfl
  refine pw_blkw hT 4 (pc := 85) (lo := [some (pvR 124), none]) (st := []) (M := pvu M46_ 124 56 (M46_.1 124 40)) rfl ⟨trivial, trivial, rfl, rfl, trivial⟩ (fun M51_ e52_ => ?_)
  have o53_ : pvOk M51_ := pvok_u2 e52_ o48_ rfl b50_
  have f54_ : pvFr fp_X10_image_124 M M51_ := pvfr_u e52_ f49_ rfl
  have b55_ : 0 ≤ Int32.toInt (M51_.1 124 43) ∧ Int32.toInt (M51_.1 124 43) ≤ 8 := pvok_r o53_ 124 43 rfl
  refine pw_blkw hT 4 (pc := 93) (lo := [some (pvR 124), none]) (st := []) (M := pvu M51_ 124 57 (M51_.1 124 43)) rfl ⟨trivial, trivial, rfl, rfl, trivial⟩ (fun M56_ e57_ => ?_)
  have o58_ : pvOk M56_ := pvok_u2 e57_ o53_ rfl b55_
  have f59_ : pvFr fp_X10_image_124 M M56_ := pvfr_u e57_ f54_ rfl
  refine pw_blk hT 2 (S' := (95, [some (pvR 124), some (pvI 0)], [], M56_)) rfl ⟨trivial, trivial, trivial⟩ ?_
  have hlz5253_ : ∀ (nz5253_ : Nat) (i1z5253_ : Int32) (Mz5253_ : pvM), (pvOk Mz5253_) → (pvFr fp_X10_image_124 M Mz5253_) → (0 ≤ Int32.toInt i1z5253_ ∧ Int32.toInt i1z5253_ ≤ 7) → (zhide ((8 - Int32.toInt i1z5253_).toNat < nz5253_)) → PW 35 d (95, [some (pvR 124), some (pvI i1z5253_)], [], Mz5253_) (fun r X => (∃ x : Int32, r = some (pvI x) ∧ 0 ≤ Int32.toInt x ∧ Int32.toInt x ≤ 7) ∧ pvOk X ∧ pvFr fp_X10_image_124 M X) := by
    intro nz5253_
    induction nz5253_ with
    | zero => intro i1z5253_ Mz5253_ oz5253_ fz5253_ h1z5253_ hmz5253_; exact absurd (zshow hmz5253_) (Nat.not_lt_zero _)
    | succ nz5253_ ihz5253_ =>
      intro i1z5253_ Mz5253_ oz5253_ fz5253_ h1z5253_ hmz5253_
      refine pw_blk hT 2 (S' := (98, [some (pvR 124), some (pvI i1z5253_)], [pvI 7, pvI i1z5253_], Mz5253_)) rfl ⟨trivial, trivial, trivial⟩ ?_
      refine pw_ic hT (c := 7 ≤ i1z5253_) rfl rfl (fun c5254_ => ?_) (fun c5254_ => ?_)
      · have b5255_ : 7 ≤ Int32.toInt i1z5253_ ∧ Int32.toInt i1z5253_ ≤ 7 := zr_le_r 7 c5254_ h1z5253_ (show 7 ≤ Int32.toInt 7 ∧ Int32.toInt 7 ≤ 7 from (by decide)) (by decide)
        refine pw_blk hT 2 (S' := (193, [some (pvR 124), some (pvI 0)], [], Mz5253_)) rfl ⟨trivial, trivial, trivial⟩ ?_
        have hlz6516_ : ∀ (nz6516_ : Nat) (i1z6516_ : Int32) (Mz6516_ : pvM), (pvOk Mz6516_) → (pvFr fp_X10_image_124 M Mz6516_) → (0 ≤ Int32.toInt i1z6516_ ∧ Int32.toInt i1z6516_ ≤ 28) → (zhide ((29 - Int32.toInt i1z6516_).toNat < nz6516_)) → PW 35 d (193, [some (pvR 124), some (pvI i1z6516_)], [], Mz6516_) (fun r X => (∃ x : Int32, r = some (pvI x) ∧ 0 ≤ Int32.toInt x ∧ Int32.toInt x ≤ 7) ∧ pvOk X ∧ pvFr fp_X10_image_124 M X) := by
          intro nz6516_
          induction nz6516_ with
          | zero => intro i1z6516_ Mz6516_ oz6516_ fz6516_ h1z6516_ hmz6516_; exact absurd (zshow hmz6516_) (Nat.not_lt_zero _)
          | succ nz6516_ ihz6516_ =>
            intro i1z6516_ Mz6516_ oz6516_ fz6516_ h1z6516_ hmz6516_
            refine pw_blk hT 2 (S' := (196, [some (pvR 124), some (pvI i1z6516_)], [pvI 28, pvI i1z6516_], Mz6516_)) rfl ⟨trivial, trivial, trivial⟩ ?_
            refine pw_ic hT (c := 28 ≤ i1z6516_) rfl rfl (fun c6517_ => ?_) (fun c6517_ => ?_)
            · have b6518_ : 28 ≤ Int32.toInt i1z6516_ ∧ Int32.toInt i1z6516_ ≤ 28 := zr_le_r 28 c6517_ h1z6516_ (show 28 ≤ Int32.toInt 28 ∧ Int32.toInt 28 ≤ 28 from (by decide)) (by decide)
              refine pw_blk hT 2 (S' := (219, [some (pvR 124), some (pvI 0)], [], Mz6516_)) rfl ⟨trivial, trivial, trivial⟩ ?_
              have hlz6827_ : ∀ (nz6827_ : Nat) (i1z6827_ : Int32) (Mz6827_ : pvM), (pvOk Mz6827_) → (pvFr fp_X10_image_124 M Mz6827_) → (0 ≤ Int32.toInt i1z6827_ ∧ Int32.toInt i1z6827_ ≤ 6) → (zhide ((7 - Int32.toInt i1z6827_).toNat < nz6827_)) → PW 35 d (219, [some (pvR 124), some (pvI i1z6827_)], [], Mz6827_) (fun r X => (∃ x : Int32, r = some (pvI x) ∧ 0 ≤ Int32.toInt x ∧ Int32.toInt x ≤ 7) ∧ pvOk X ∧ pvFr fp_X10_image_124 M X) := by
                intro nz6827_
                induction nz6827_ with
                | zero => intro i1z6827_ Mz6827_ oz6827_ fz6827_ h1z6827_ hmz6827_; exact absurd (zshow hmz6827_) (Nat.not_lt_zero _)
                | succ nz6827_ ihz6827_ =>
                  intro i1z6827_ Mz6827_ oz6827_ fz6827_ h1z6827_ hmz6827_
                  refine pw_blk hT 2 (S' := (222, [some (pvR 124), some (pvI i1z6827_)], [pvI 6, pvI i1z6827_], Mz6827_)) rfl ⟨trivial, trivial, trivial⟩ ?_
                  refine pw_ic hT (c := 6 ≤ i1z6827_) rfl rfl (fun c6828_ => ?_) (fun c6828_ => ?_)
                  · have b6829_ : 6 ≤ Int32.toInt i1z6827_ ∧ Int32.toInt i1z6827_ ≤ 6 := zr_le_r 6 c6828_ h1z6827_ (show 6 ≤ Int32.toInt 6 ∧ Int32.toInt 6 ≤ 6 from (by decide)) (by decide)
                    refine pw_blk hT 2 (S' := (257, [some (pvR 124), some (pvI 0)], [], Mz6827_)) rfl ⟨trivial, trivial, trivial⟩ ?_
                    have hlz6895_ : ∀ (nz6895_ : Nat) (i1z6895_ : Int32) (Mz6895_ : pvM), (pvOk Mz6895_) → (pvFr fp_X10_image_124 M Mz6895_) → (0 ≤ Int32.toInt i1z6895_ ∧ Int32.toInt i1z6895_ ≤ 8) → (zhide ((9 - Int32.toInt i1z6895_).toNat < nz6895_)) → PW 35 d (257, [some (pvR 124), some (pvI i1z6895_)], [], Mz6895_) (fun r X => (∃ x : Int32, r = some (pvI x) ∧ 0 ≤ Int32.toInt x ∧ Int32.toInt x ≤ 7) ∧ pvOk X ∧ pvFr fp_X10_image_124 M X) := by
                      intro nz6895_
                      induction nz6895_ with
                      | zero => intro i1z6895_ Mz6895_ oz6895_ fz6895_ h1z6895_ hmz6895_; exact absurd (zshow hmz6895_) (Nat.not_lt_zero _)
                      | succ nz6895_ ihz6895_ =>
                        intro i1z6895_ Mz6895_ oz6895_ fz6895_ h1z6895_ hmz6895_
                        refine pw_blk hT 2 (S' := (260, [some (pvR 124), some (pvI i1z6895_)], [pvI 8, pvI i1z6895_], Mz6895_)) rfl ⟨trivial, trivial, trivial⟩ ?_
                        refine pw_ic hT (c := 8 ≤ i1z6895_) rfl rfl (fun c6896_ => ?_) (fun c6896_ => ?_)
                        · have b6897_ : 8 ≤ Int32.toInt i1z6895_ ∧ Int32.toInt i1z6895_ ≤ 8 := zr_le_r 8 c6896_ h1z6895_ (show 8 ≤ Int32.toInt 8 ∧ Int32.toInt 8 ≤ 8 from (by decide)) (by decide)
                          have b6898_ : 0 ≤ Int32.toInt (Mz6895_.1 124 0) ∧ Int32.toInt (Mz6895_.1 124 0) ≤ 7 := pvok_r oz6895_ 124 0 rfl
                          refine pw_blk hT 2 (S' := (297, [some (pvR 124), some (pvI i1z6895_)], [pvI (Mz6895_.1 124 0)], Mz6895_)) rfl ⟨trivial, rfl, trivial⟩ ?_
                          exact pw_ret hT rfl (r := some (pvI (Mz6895_.1 124 0))) (M' := Mz6895_) ⟨rfl, rfl⟩ ⟨⟨_, rfl, b6898_⟩, oz6895_, fz6895_⟩
                        · have b6899_ : 0 ≤ Int32.toInt i1z6895_ ∧ Int32.toInt i1z6895_ ≤ 7 := zr_nle_r 7 c6896_ h1z6895_ (show 8 ≤ Int32.toInt 8 ∧ Int32.toInt 8 ≤ 8 from (by decide)) (by decide)
                          have b6900_ : 0 ≤ Int32.toInt (Mz6895_.1 149 (Int32.toNatClampNeg i1z6895_)) ∧ Int32.toInt (Mz6895_.1 149 (Int32.toNatClampNeg i1z6895_)) ≤ 6 := pvok_r oz6895_ 149 (Int32.toNatClampNeg i1z6895_) rfl
                          refine pw_blkw hT 8 (pc := 275) (lo := [some (pvR 124), some (pvI i1z6895_)]) (st := []) (M := pvu Mz6895_ 160 (Int32.toNatClampNeg i1z6895_) (Mz6895_.1 149 (Int32.toNatClampNeg i1z6895_))) rfl ⟨trivial, rfl, trivial, trivial, rfl, trivial, ⟨rfl, (zr_in (n := 8) b6899_ (by decide) (by decide))⟩, ⟨rfl, (zr_in (n := 8) b6899_ (by decide) (by decide))⟩, trivial⟩ (fun M6901_ e6902_ => ?_)
                          have o6903_ : pvOk M6901_ := pvok_u2 e6902_ oz6895_ rfl b6900_
                          have f6904_ : pvFr fp_X10_image_124 M M6901_ := pvfr_u e6902_ fz6895_ rfl
                          have b6905_ : 0 ≤ Int32.toInt (M6901_.1 150 (Int32.toNatClampNeg i1z6895_)) ∧ Int32.toInt (M6901_.1 150 (Int32.toNatClampNeg i1z6895_)) ≤ 9999 := pvok_r o6903_ 150 (Int32.toNatClampNeg i1z6895_) rfl
                          refine pw_blkw hT 8 (pc := 287) (lo := [some (pvR 124), some (pvI i1z6895_)]) (st := []) (M := pvu M6901_ 161 (Int32.toNatClampNeg i1z6895_) (M6901_.1 150 (Int32.toNatClampNeg i1z6895_))) rfl ⟨trivial, rfl, trivial, trivial, rfl, trivial, ⟨rfl, (zr_in (n := 8) b6899_ (by decide) (by decide))⟩, ⟨rfl, (zr_in (n := 8) b6899_ (by decide) (by decide))⟩, trivial⟩ (fun M6906_ e6907_ => ?_)
                          have o6908_ : pvOk M6906_ := pvok_u2 e6907_ o6903_ rfl b6905_
                          have f6909_ : pvFr fp_X10_image_124 M M6906_ := pvfr_u e6907_ f6904_ rfl
                          obtain ⟨q6911_, b6910_⟩ : (Int32.toInt (i1z6895_ + 1) = Int32.toInt i1z6895_ + 1) ∧ (1 ≤ Int32.toInt (i1z6895_ + 1) ∧ Int32.toInt (i1z6895_ + 1) ≤ 8) := zadd_k i1z6895_ 1 1 1 8 b6899_ (by decide) (by decide) (by decide) (by decide) (by decide)
                          refine pw_blk hT 2 (S' := (257, [some (pvR 124), some (pvI (i1z6895_ + 1))], [], M6906_)) rfl ⟨trivial, trivial, trivial⟩ ?_
                          exact ihz6895_ (i1z6895_ + 1) M6906_ o6908_ f6909_ (zr_wide b6910_ (by decide) (by decide)) (zhid (pvms_up (zshow hmz6895_) h1z6895_ q6911_ (by decide) (by decide)))
                    exact hlz6895_ _ 0 Mz6827_ oz6827_ fz6827_ (zr_wide (show 0 ≤ Int32.toInt 0 ∧ Int32.toInt 0 ≤ 0 from (by decide)) (by decide) (by decide)) (zhid (Nat.lt_succ_self _))
                  · have b6912_ : 0 ≤ Int32.toInt i1z6827_ ∧ Int32.toInt i1z6827_ ≤ 5 := zr_nle_r 5 c6828_ h1z6827_ (show 6 ≤ Int32.toInt 6 ∧ Int32.toInt 6 ≤ 6 from (by decide)) (by decide)
                    have b6913_ : 0 ≤ Int32.toInt (Mz6827_.1 147 (Int32.toNatClampNeg i1z6827_)) ∧ Int32.toInt (Mz6827_.1 147 (Int32.toNatClampNeg i1z6827_)) ≤ 6 := pvok_r oz6827_ 147 (Int32.toNatClampNeg i1z6827_) rfl
                    refine pw_blkw hT 8 (pc := 237) (lo := [some (pvR 124), some (pvI i1z6827_)]) (st := []) (M := pvu Mz6827_ 158 (Int32.toNatClampNeg i1z6827_) (Mz6827_.1 147 (Int32.toNatClampNeg i1z6827_))) rfl ⟨trivial, rfl, trivial, trivial, rfl, trivial, ⟨rfl, (zr_in (n := 6) b6912_ (by decide) (by decide))⟩, ⟨rfl, (zr_in (n := 6) b6912_ (by decide) (by decide))⟩, trivial⟩ (fun M6914_ e6915_ => ?_)
                    have o6916_ : pvOk M6914_ := pvok_u2 e6915_ oz6827_ rfl b6913_
                    have f6917_ : pvFr fp_X10_image_124 M M6914_ := pvfr_u e6915_ fz6827_ rfl
                    have b6918_ : 0 ≤ Int32.toInt (M6914_.1 148 (Int32.toNatClampNeg i1z6827_)) ∧ Int32.toInt (M6914_.1 148 (Int32.toNatClampNeg i1z6827_)) ≤ 9999 := pvok_r o6916_ 148 (Int32.toNatClampNeg i1z6827_) rfl
                    refine pw_blkw hT 8 (pc := 249) (lo := [some (pvR 124), some (pvI i1z6827_)]) (st := []) (M := pvu M6914_ 159 (Int32.toNatClampNeg i1z6827_) (M6914_.1 148 (Int32.toNatClampNeg i1z6827_))) rfl ⟨trivial, rfl, trivial, trivial, rfl, trivial, ⟨rfl, (zr_in (n := 6) b6912_ (by decide) (by decide))⟩, ⟨rfl, (zr_in (n := 6) b6912_ (by decide) (by decide))⟩, trivial⟩ (fun M6919_ e6920_ => ?_)
                    have o6921_ : pvOk M6919_ := pvok_u2 e6920_ o6916_ rfl b6918_
                    have f6922_ : pvFr fp_X10_image_124 M M6919_ := pvfr_u e6920_ f6917_ rfl
                    obtain ⟨q6924_, b6923_⟩ : (Int32.toInt (i1z6827_ + 1) = Int32.toInt i1z6827_ + 1) ∧ (1 ≤ Int32.toInt (i1z6827_ + 1) ∧ Int32.toInt (i1z6827_ + 1) ≤ 6) := zadd_k i1z6827_ 1 1 1 6 b6912_ (by decide) (by decide) (by decide) (by decide) (by decide)
                    refine pw_blk hT 2 (S' := (219, [some (pvR 124), some (pvI (i1z6827_ + 1))], [], M6919_)) rfl ⟨trivial, trivial, trivial⟩ ?_
                    exact ihz6827_ (i1z6827_ + 1) M6919_ o6921_ f6922_ (zr_wide b6923_ (by decide) (by decide)) (zhid (pvms_up (zshow hmz6827_) h1z6827_ q6924_ (by decide) (by decide)))
              exact hlz6827_ _ 0 Mz6516_ oz6516_ fz6516_ (zr_wide (show 0 ≤ Int32.toInt 0 ∧ Int32.toInt 0 ≤ 0 from (by decide)) (by decide) (by decide)) (zhid (Nat.lt_succ_self _))
            · have b6925_ : 0 ≤ Int32.toInt i1z6516_ ∧ Int32.toInt i1z6516_ ≤ 27 := zr_nle_r 27 c6517_ h1z6516_ (show 28 ≤ Int32.toInt 28 ∧ Int32.toInt 28 ≤ 28 from (by decide)) (by decide)
              have b6926_ : 0 ≤ Int32.toInt (Mz6516_.1 130 (Int32.toNatClampNeg i1z6516_)) ∧ Int32.toInt (Mz6516_.1 130 (Int32.toNatClampNeg i1z6516_)) ≤ 9 := pvok_r oz6516_ 130 (Int32.toNatClampNeg i1z6516_) rfl
              refine pw_blkw hT 8 (pc := 211) (lo := [some (pvR 124), some (pvI i1z6516_)]) (st := []) (M := pvu Mz6516_ 156 (Int32.toNatClampNeg i1z6516_) (Mz6516_.1 130 (Int32.toNatClampNeg i1z6516_))) rfl ⟨trivial, rfl, trivial, trivial, rfl, trivial, ⟨rfl, (zr_in (n := 28) b6925_ (by decide) (by decide))⟩, ⟨rfl, (zr_in (n := 28) b6925_ (by decide) (by decide))⟩, trivial⟩ (fun M6927_ e6928_ => ?_)
              have o6929_ : pvOk M6927_ := pvok_u2 e6928_ oz6516_ rfl b6926_
              have f6930_ : pvFr fp_X10_image_124 M M6927_ := pvfr_u e6928_ fz6516_ rfl
              obtain ⟨q6932_, b6931_⟩ : (Int32.toInt (i1z6516_ + 1) = Int32.toInt i1z6516_ + 1) ∧ (1 ≤ Int32.toInt (i1z6516_ + 1) ∧ Int32.toInt (i1z6516_ + 1) ≤ 28) := zadd_k i1z6516_ 1 1 1 28 b6925_ (by decide) (by decide) (by decide) (by decide) (by decide)
              refine pw_blk hT 2 (S' := (193, [some (pvR 124), some (pvI (i1z6516_ + 1))], [], M6927_)) rfl ⟨trivial, trivial, trivial⟩ ?_
              exact ihz6516_ (i1z6516_ + 1) M6927_ o6929_ f6930_ (zr_wide b6931_ (by decide) (by decide)) (zhid (pvms_up (zshow hmz6516_) h1z6516_ q6932_ (by decide) (by decide)))
        exact hlz6516_ _ 0 Mz5253_ oz5253_ fz5253_ (zr_wide (show 0 ≤ Int32.toInt 0 ∧ Int32.toInt 0 ≤ 0 from (by decide)) (by decide) (by decide)) (zhid (Nat.lt_succ_self _))
      · have b6933_ : 0 ≤ Int32.toInt i1z5253_ ∧ Int32.toInt i1z5253_ ≤ 6 := zr_nle_r 6 c5254_ h1z5253_ (show 7 ≤ Int32.toInt 7 ∧ Int32.toInt 7 ≤ 7 from (by decide)) (by decide)
        have b6934_ : 0 ≤ Int32.toInt (Mz5253_.1 125 (Int32.toNatClampNeg i1z5253_)) ∧ Int32.toInt (Mz5253_.1 125 (Int32.toNatClampNeg i1z5253_)) ≤ 6 := pvok_r oz5253_ 125 (Int32.toNatClampNeg i1z5253_) rfl
        refine pw_blkw hT 8 (pc := 113) (lo := [some (pvR 124), some (pvI i1z5253_)]) (st := []) (M := pvu Mz5253_ 151 (Int32.toNatClampNeg i1z5253_) (Mz5253_.1 125 (Int32.toNatClampNeg i1z5253_))) rfl ⟨trivial, rfl, trivial, trivial, rfl, trivial, ⟨rfl, (zr_in (n := 7) b6933_ (by decide) (by decide))⟩, ⟨rfl, (zr_in (n := 7) b6933_ (by decide) (by decide))⟩, trivial⟩ (fun M6935_ e6936_ => ?_)
        have o6937_ : pvOk M6935_ := pvok_u2 e6936_ oz5253_ rfl b6934_
        have f6938_ : pvFr fp_X10_image_124 M M6935_ := pvfr_u e6936_ fz5253_ rfl
        have b6939_ : 0 ≤ Int32.toInt (M6935_.1 126 (Int32.toNatClampNeg i1z5253_)) ∧ Int32.toInt (M6935_.1 126 (Int32.toNatClampNeg i1z5253_)) ≤ 9 := pvok_r o6937_ 126 (Int32.toNatClampNeg i1z5253_) rfl
        refine pw_blkw hT 8 (pc := 125) (lo := [some (pvR 124), some (pvI i1z5253_)]) (st := []) (M := pvu M6935_ 152 (Int32.toNatClampNeg i1z5253_) (M6935_.1 126 (Int32.toNatClampNeg i1z5253_))) rfl ⟨trivial, rfl, trivial, trivial, rfl, trivial, ⟨rfl, (zr_in (n := 7) b6933_ (by decide) (by decide))⟩, ⟨rfl, (zr_in (n := 7) b6933_ (by decide) (by decide))⟩, trivial⟩ (fun M6940_ e6941_ => ?_)
        have o6942_ : pvOk M6940_ := pvok_u2 e6941_ o6937_ rfl b6939_
        have f6943_ : pvFr fp_X10_image_124 M M6940_ := pvfr_u e6941_ f6938_ rfl
        have b6944_ : 0 ≤ Int32.toInt (M6940_.1 127 (Int32.toNatClampNeg i1z5253_)) ∧ Int32.toInt (M6940_.1 127 (Int32.toNatClampNeg i1z5253_)) ≤ 3 := pvok_r o6942_ 127 (Int32.toNatClampNeg i1z5253_) rfl
        refine pw_blkw hT 8 (pc := 137) (lo := [some (pvR 124), some (pvI i1z5253_)]) (st := []) (M := pvu M6940_ 153 (Int32.toNatClampNeg i1z5253_) (M6940_.1 127 (Int32.toNatClampNeg i1z5253_))) rfl ⟨trivial, rfl, trivial, trivial, rfl, trivial, ⟨rfl, (zr_in (n := 7) b6933_ (by decide) (by decide))⟩, ⟨rfl, (zr_in (n := 7) b6933_ (by decide) (by decide))⟩, trivial⟩ (fun M6945_ e6946_ => ?_)
        have o6947_ : pvOk M6945_ := pvok_u2 e6946_ o6942_ rfl b6944_
        have f6948_ : pvFr fp_X10_image_124 M M6945_ := pvfr_u e6946_ f6943_ rfl
        have b6949_ : 0 ≤ Int32.toInt (M6945_.1 128 (Int32.toNatClampNeg i1z5253_)) ∧ Int32.toInt (M6945_.1 128 (Int32.toNatClampNeg i1z5253_)) ≤ 4 := pvok_r o6947_ 128 (Int32.toNatClampNeg i1z5253_) rfl
        refine pw_blkw hT 8 (pc := 149) (lo := [some (pvR 124), some (pvI i1z5253_)]) (st := []) (M := pvu M6945_ 154 (Int32.toNatClampNeg i1z5253_) (M6945_.1 128 (Int32.toNatClampNeg i1z5253_))) rfl ⟨trivial, rfl, trivial, trivial, rfl, trivial, ⟨rfl, (zr_in (n := 7) b6933_ (by decide) (by decide))⟩, ⟨rfl, (zr_in (n := 7) b6933_ (by decide) (by decide))⟩, trivial⟩ (fun M6950_ e6951_ => ?_)
        have o6952_ : pvOk M6950_ := pvok_u2 e6951_ o6947_ rfl b6949_
        have f6953_ : pvFr fp_X10_image_124 M M6950_ := pvfr_u e6951_ f6948_ rfl
        have b6954_ : 0 ≤ Int32.toInt (M6950_.1 129 (Int32.toNatClampNeg i1z5253_)) ∧ Int32.toInt (M6950_.1 129 (Int32.toNatClampNeg i1z5253_)) ≤ 9 := pvok_r o6952_ 129 (Int32.toNatClampNeg i1z5253_) rfl
        refine pw_blkw hT 8 (pc := 161) (lo := [some (pvR 124), some (pvI i1z5253_)]) (st := []) (M := pvu M6950_ 155 (Int32.toNatClampNeg i1z5253_) (M6950_.1 129 (Int32.toNatClampNeg i1z5253_))) rfl ⟨trivial, rfl, trivial, trivial, rfl, trivial, ⟨rfl, (zr_in (n := 7) b6933_ (by decide) (by decide))⟩, ⟨rfl, (zr_in (n := 7) b6933_ (by decide) (by decide))⟩, trivial⟩ (fun M6955_ e6956_ => ?_)
        have o6957_ : pvOk M6955_ := pvok_u2 e6956_ o6952_ rfl b6954_
        have f6958_ : pvFr fp_X10_image_124 M M6955_ := pvfr_u e6956_ f6953_ rfl
        have b6959_ : 0 ≤ Int32.toInt (M6955_.1 131 (Int32.toNatClampNeg i1z5253_)) ∧ Int32.toInt (M6955_.1 131 (Int32.toNatClampNeg i1z5253_)) ≤ 1 := pvok_r o6957_ 131 (Int32.toNatClampNeg i1z5253_) rfl
        refine pw_blkw hT 8 (pc := 173) (lo := [some (pvR 124), some (pvI i1z5253_)]) (st := []) (M := pvu M6955_ 162 (Int32.toNatClampNeg i1z5253_) (vp_nar .boolean (M6955_.1 131 (Int32.toNatClampNeg i1z5253_)))) rfl ⟨trivial, rfl, trivial, trivial, rfl, trivial, ⟨rfl, (zr_in (n := 7) b6933_ (by decide) (by decide))⟩, ⟨rfl, (zr_in (n := 7) b6933_ (by decide) (by decide))⟩, trivial⟩ (fun M6960_ e6961_ => ?_)
        have o6962_ : pvOk M6960_ := pvok_u2 e6961_ o6957_ rfl (zboolr (M6955_.1 131 (Int32.toNatClampNeg i1z5253_)))
        have f6963_ : pvFr fp_X10_image_124 M M6960_ := pvfr_u e6961_ f6958_ rfl
        have b6964_ : 0 ≤ Int32.toInt (M6960_.1 145 (Int32.toNatClampNeg i1z5253_)) ∧ Int32.toInt (M6960_.1 145 (Int32.toNatClampNeg i1z5253_)) ≤ 6 := pvok_r o6962_ 145 (Int32.toNatClampNeg i1z5253_) rfl
        refine pw_blkw hT 8 (pc := 185) (lo := [some (pvR 124), some (pvI i1z5253_)]) (st := []) (M := pvu M6960_ 157 (Int32.toNatClampNeg i1z5253_) (M6960_.1 145 (Int32.toNatClampNeg i1z5253_))) rfl ⟨trivial, rfl, trivial, trivial, rfl, trivial, ⟨rfl, (zr_in (n := 7) b6933_ (by decide) (by decide))⟩, ⟨rfl, (zr_in (n := 7) b6933_ (by decide) (by decide))⟩, trivial⟩ (fun M6965_ e6966_ => ?_)
        have o6967_ : pvOk M6965_ := pvok_u2 e6966_ o6962_ rfl b6964_
        have f6968_ : pvFr fp_X10_image_124 M M6965_ := pvfr_u e6966_ f6963_ rfl
        obtain ⟨q6970_, b6969_⟩ : (Int32.toInt (i1z5253_ + 1) = Int32.toInt i1z5253_ + 1) ∧ (1 ≤ Int32.toInt (i1z5253_ + 1) ∧ Int32.toInt (i1z5253_ + 1) ≤ 7) := zadd_k i1z5253_ 1 1 1 7 b6933_ (by decide) (by decide) (by decide) (by decide) (by decide)
        refine pw_blk hT 2 (S' := (95, [some (pvR 124), some (pvI (i1z5253_ + 1))], [], M6965_)) rfl ⟨trivial, trivial, trivial⟩ ?_
        exact ihz5253_ (i1z5253_ + 1) M6965_ o6967_ f6968_ (zr_wide b6969_ (by decide) (by decide)) (zhid (pvms_up (zshow hmz5253_) h1z5253_ q6970_ (by decide) (by decide)))
  exact hlz5253_ _ 0 M56_ o58_ f59_ (zr_wide (show 0 ≤ Int32.toInt 0 ∧ Int32.toInt 0 ≤ 0 from (by decide)) (by decide) (by decide)) (zhid (Nat.lt_succ_self _))
