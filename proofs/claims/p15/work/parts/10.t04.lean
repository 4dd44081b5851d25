def fpL_X10_book_124_x_x : List (Nat × Nat × Nat) := [(0, 124, 44), (0, 149, 0), (0, 150, 0)]
def fp_X10_book_124_x_x (q k : Nat) : Bool := pvfp fpL_X10_book_124_x_x q k
set_option maxHeartbeats 4000000 in
set_option maxRecDepth 10000 in
theorem sf_X10_book_124_x_x (M : pvM) (hok : pvOk M) (n1 : Int32) (n2 : Int32) (d : Nat) : PW 12 d (0, [some (pvR 124), some (pvI n1), some (pvI n2)], [], M) (fun r X => (∃ x : Int32, r = some (pvI x) ∧ (-4) ≤ Int32.toInt x ∧ Int32.toInt x ≤ 8) ∧ pvOk X ∧ pvFr fp_X10_book_124_x_x M X) := by
  have hT : pvdom 12 = pvD_12 := rfl
  refine pw_blk hT 2 (S' := (2, [some (pvR 124), some (pvI n1), some (pvI n2)], [pvI (-1), pvI n1], M)) rfl ⟨trivial, trivial, trivial⟩ ?_
  refine pw_icn hT (c := n1 = (-1)) rfl rfl (fun c1_ => ?_) (fun c1_ => ?_)
  · refine pw_blk hT 2 (S' := (14, [some (pvR 124), some (pvI n1), some (pvI n2)], [pvI n1, pvR 124], M)) rfl ⟨trivial, trivial, trivial⟩ ?_
    refine pw_callT hT (as := [pvR 124, pvI n1]) (lo1 := [some (pvR 124), some (pvI n1)]) (d1 := d) (rest := []) rfl rfl rfl rfl rfl (fun _ => rfl) (Nat.zero_le _) rfl rfl rfl (sf_X10_isWindow_124_x M hok n1 d) ?_
    by_cases c7_ : n1 < 0
    · refine pw_eqI (if_pos c7_) ?_
      have b8_ : (-2147483648) ≤ Int32.toInt n1 ∧ Int32.toInt n1 ≤ (-2) := (by have u0 := (zbnd n1); have u9 := (show _ ∧ _ from ⟨(zi_lt _ _).mp c7_, (show 0 ≤ Int32.toInt 0 ∧ Int32.toInt 0 ≤ 0 from (by decide))⟩); have v1 := (not_congr (zi_eq _ _)).mp c1_; have w1 : ((-1) : Int32).toInt = -1 := (by decide); omega)
      show PW 12 d (17, [some (pvR 124), some (pvI n1), some (pvI n2)], [pvI 0], M) _
      refine pw_ifn hT (c := 0 = 0) rfl rfl (fun c9_ => absurd (by decide) c9_) (fun c9_ => ?_)
      refine pw_blk hT 1 (S' := (21, [some (pvR 124), some (pvI n1), some (pvI n2)], [pvI (-1)], M)) rfl ⟨trivial, trivial⟩ ?_
      exact pw_ret hT rfl (r := some (pvI (-1))) (M' := M) ⟨rfl, rfl⟩ ⟨⟨_, rfl, (zr_wide (show (-1) ≤ Int32.toInt (-1) ∧ Int32.toInt (-1) ≤ (-1) from (by decide)) (by decide) (by decide))⟩, hok, pvfr_0⟩
    · refine pw_eqI (if_neg c7_) ?_
      have b10_ : 0 ≤ Int32.toInt n1 ∧ Int32.toInt n1 ≤ 2147483647 := zr_nlt_l 0 c7_ (zbnd n1) (show 0 ≤ Int32.toInt 0 ∧ Int32.toInt 0 ≤ 0 from (by decide)) (by decide)
      have b11_ : 0 ≤ Int32.toInt (M.1 124 0) ∧ Int32.toInt (M.1 124 0) ≤ 7 := pvok_r hok 124 0 rfl
      obtain ⟨q13_, b12_⟩ : (Int32.toInt ((M.1 124 0) - 1) = Int32.toInt (M.1 124 0) - 1) ∧ ((-1) ≤ Int32.toInt ((M.1 124 0) - 1) ∧ Int32.toInt ((M.1 124 0) - 1) ≤ 6) := zsub_k (M.1 124 0) 1 1 (-1) 6 b11_ (by decide) (by decide) (by decide) (by decide) (by decide)
      by_cases c14_ : ((M.1 124 0) - 1) < n1
      · refine pw_eqI (if_pos c14_) ?_
        have d15_ : Int32.toInt ((M.1 124 0) - 1) < Int32.toInt n1 := (zi_lt _ _).mp c14_
        show PW 12 d (17, [some (pvR 124), some (pvI n1), some (pvI n2)], [pvI 0], M) _
        refine pw_ifn hT (c := 0 = 0) rfl rfl (fun c16_ => absurd (by decide) c16_) (fun c16_ => ?_)
        refine pw_blk hT 1 (S' := (21, [some (pvR 124), some (pvI n1), some (pvI n2)], [pvI (-1)], M)) rfl ⟨trivial, trivial⟩ ?_
        exact pw_ret hT rfl (r := some (pvI (-1))) (M' := M) ⟨rfl, rfl⟩ ⟨⟨_, rfl, (zr_wide (show (-1) ≤ Int32.toInt (-1) ∧ Int32.toInt (-1) ≤ (-1) from (by decide)) (by decide) (by decide))⟩, hok, pvfr_0⟩
      · refine pw_eqI (if_neg c14_) ?_
        have b17_ : 0 ≤ Int32.toInt ((M.1 124 0) - 1) ∧ Int32.toInt ((M.1 124 0) - 1) ≤ 6 := zr_nlt_l 0 c14_ b12_ b10_ (by decide)
        have b18_ : 0 ≤ Int32.toInt n1 ∧ Int32.toInt n1 ≤ 6 := zr_nlt_r 6 c14_ b10_ b17_ (by decide)
        have d19_ : Int32.toInt ((M.1 124 0) - 1) ≥ Int32.toInt n1 := Int.not_lt.mp ((not_congr (zi_lt _ _)).mp c14_)
        show PW 12 d (17, [some (pvR 124), some (pvI n1), some (pvI n2)], [pvI 1], M) _
        refine pw_ifn hT (c := 1 = 0) rfl rfl (fun c20_ => ?_) (fun c20_ => absurd c20_ (by decide))
        refine pw_blk hT 4 (S' := (28, [some (pvR 124), some (pvI n1), some (pvI n2)], [pvI 9999, pvI 0, pvI n2, pvR 124], M)) rfl ⟨trivial, trivial, trivial, trivial, trivial⟩ ?_
        refine pw_callT hT (as := [pvR 124, pvI n2, pvI 0, pvI 9999]) (lo1 := [some (pvR 124), some (pvI n2), some (pvI 0), some (pvI 9999)]) (d1 := d) (rest := []) rfl rfl rfl rfl rfl (fun _ => rfl) (Nat.zero_le _) rfl rfl rfl (sf_X10_in_124_x_x_x M hok n2 0 9999 d) ?_
        by_cases c26_ : n2 < 0
        · refine pw_eqI (if_pos c26_) ?_
          have b27_ : (-2147483648) ≤ Int32.toInt n2 ∧ Int32.toInt n2 ≤ (-1) := zr_lt_l (-1) c26_ (zbnd n2) (show 0 ≤ Int32.toInt 0 ∧ Int32.toInt 0 ≤ 0 from (by decide)) (by decide)
          show PW 12 d (31, [some (pvR 124), some (pvI n1), some (pvI n2)], [pvI 0], M) _
          refine pw_ifn hT (c := 0 = 0) rfl rfl (fun c28_ => absurd (by decide) c28_) (fun c28_ => ?_)
          refine pw_blk hT 1 (S' := (36, [some (pvR 124), some (pvI n1), some (pvI n2)], [pvI (-2)], M)) rfl ⟨trivial, trivial⟩ ?_
          exact pw_ret hT rfl (r := some (pvI (-2))) (M' := M) ⟨rfl, rfl⟩ ⟨⟨_, rfl, (zr_wide (show (-2) ≤ Int32.toInt (-2) ∧ Int32.toInt (-2) ≤ (-2) from (by decide)) (by decide) (by decide))⟩, hok, pvfr_0⟩
        · refine pw_eqI (if_neg c26_) ?_
          have b29_ : 0 ≤ Int32.toInt n2 ∧ Int32.toInt n2 ≤ 2147483647 := zr_nlt_l 0 c26_ (zbnd n2) (show 0 ≤ Int32.toInt 0 ∧ Int32.toInt 0 ≤ 0 from (by decide)) (by decide)
          by_cases c30_ : 9999 < n2
          · refine pw_eqI (if_pos c30_) ?_
            have b31_ : 10000 ≤ Int32.toInt n2 ∧ Int32.toInt n2 ≤ 2147483647 := zr_lt_r 10000 c30_ b29_ (show 9999 ≤ Int32.toInt 9999 ∧ Int32.toInt 9999 ≤ 9999 from (by decide)) (by decide)
            show PW 12 d (31, [some (pvR 124), some (pvI n1), some (pvI n2)], [pvI 0], M) _
            refine pw_ifn hT (c := 0 = 0) rfl rfl (fun c32_ => absurd (by decide) c32_) (fun c32_ => ?_)
            refine pw_blk hT 1 (S' := (36, [some (pvR 124), some (pvI n1), some (pvI n2)], [pvI (-2)], M)) rfl ⟨trivial, trivial⟩ ?_
            exact pw_ret hT rfl (r := some (pvI (-2))) (M' := M) ⟨rfl, rfl⟩ ⟨⟨_, rfl, (zr_wide (show (-2) ≤ Int32.toInt (-2) ∧ Int32.toInt (-2) ≤ (-2) from (by decide)) (by decide) (by decide))⟩, hok, pvfr_0⟩
          · refine pw_eqI (if_neg c30_) ?_
            have b33_ : 0 ≤ Int32.toInt n2 ∧ Int32.toInt n2 ≤ 9999 := zr_nlt_r 9999 c30_ b29_ (show 9999 ≤ Int32.toInt 9999 ∧ Int32.toInt 9999 ≤ 9999 from (by decide)) (by decide)
            show PW 12 d (31, [some (pvR 124), some (pvI n1), some (pvI n2)], [pvI 1], M) _
            refine pw_ifn hT (c := 1 = 0) rfl rfl (fun c34_ => ?_) (fun c34_ => absurd c34_ (by decide))
            have b35_ : 0 ≤ Int32.toInt (M.1 124 43) ∧ Int32.toInt (M.1 124 43) ≤ 8 := pvok_r hok 124 43 rfl
            refine pw_blk hT 3 (S' := (43, [some (pvR 124), some (pvI n1), some (pvI n2)], [pvI 8, pvI (M.1 124 43)], M)) rfl ⟨trivial, rfl, trivial, trivial⟩ ?_
            refine pw_icn hT (c := (M.1 124 43) = 8) rfl rfl (fun c36_ => ?_) (fun c36_ => ?_)
            · have b37_ : 0 ≤ Int32.toInt (M.1 124 43) ∧ Int32.toInt (M.1 124 43) ≤ 7 := (by have u0 := b35_; have u1 := (not_congr (zi_eq _ _)).mp c36_; have u2 := (show 8 ≤ Int32.toInt 8 ∧ Int32.toInt 8 ≤ 8 from (by decide)); omega)
              refine pw_blkw hT 6 (pc := 59) (lo := [some (pvR 124), some (pvI n1), some (pvI n2)]) (st := []) (M := pvu M 149 (Int32.toNatClampNeg (M.1 124 43)) n1) rfl ⟨trivial, rfl, trivial, rfl, trivial, ⟨rfl, (zr_in (n := 8) b37_ (by decide) (by decide))⟩, trivial⟩ (fun M38_ e39_ => ?_)
              have o40_ : pvOk M38_ := pvok_u2 e39_ hok rfl b18_
              have f41_ : pvFr fp_X10_book_124_x_x M M38_ := pvfr_u e39_ pvfr_0 rfl
              have e42_ : (M38_.1 124 43) = (M.1 124 43) := (pvu_n e39_ 124 43 (Or.inl (by decide)))
              have b43_ : 0 ≤ Int32.toInt (M38_.1 124 43) ∧ Int32.toInt (M38_.1 124 43) ≤ 7 := (by rw [e42_]; exact b37_)
              refine pw_blkw hT 6 (pc := 69) (lo := [some (pvR 124), some (pvI n1), some (pvI n2)]) (st := []) (M := pvu M38_ 150 (Int32.toNatClampNeg (M38_.1 124 43)) n2) rfl ⟨trivial, rfl, trivial, rfl, trivial, ⟨rfl, (zr_in (n := 8) b43_ (by decide) (by decide))⟩, trivial⟩ (fun M44_ e45_ => ?_)
              have o46_ : pvOk M44_ := pvok_u2 e45_ o40_ rfl b33_
              have f47_ : pvFr fp_X10_book_124_x_x M M44_ := pvfr_u e45_ f41_ rfl
              have e48_ : (M44_.1 124 43) = (M38_.1 124 43) := (pvu_n e45_ 124 43 (Or.inl (by decide)))
              have b49_ : 0 ≤ Int32.toInt (M44_.1 124 43) ∧ Int32.toInt (M44_.1 124 43) ≤ 7 := (by rw [e48_]; exact b43_)
              obtain ⟨q51_, b50_⟩ : (Int32.toInt ((M44_.1 124 43) + 1) = Int32.toInt (M44_.1 124 43) + 1) ∧ (1 ≤ Int32.toInt ((M44_.1 124 43) + 1) ∧ Int32.toInt ((M44_.1 124 43) + 1) ≤ 8) := zadd_k (M44_.1 124 43) 1 1 1 8 b49_ (by decide) (by decide) (by decide) (by decide) (by decide)
              refine pw_blkw hT 6 (pc := 79) (lo := [some (pvR 124), some (pvI n1), some (pvI n2)]) (st := []) (M := pvu M44_ 124 43 ((M44_.1 124 43) + 1)) rfl ⟨trivial, trivial, rfl, trivial, trivial, rfl, trivial⟩ (fun M52_ e53_ => ?_)
              have o54_ : pvOk M52_ := pvok_u2 e53_ o46_ rfl (zr_wide b50_ (by decide) (by decide))
              have f55_ : pvFr fp_X10_book_124_x_x M M52_ := pvfr_u e53_ f47_ rfl
              have e56_ : (M52_.1 124 43) = ((M44_.1 124 43) + 1) := (pvu_s e53_)
              have b57_ : 1 ≤ Int32.toInt (M52_.1 124 43) ∧ Int32.toInt (M52_.1 124 43) ≤ 8 := (by rw [e56_]; exact b50_)
              refine pw_blk hT 2 (S' := (83, [some (pvR 124), some (pvI n1), some (pvI n2)], [pvI (M52_.1 124 43)], M52_)) rfl ⟨trivial, rfl, trivial⟩ ?_
              exact pw_ret hT rfl (r := some (pvI (M52_.1 124 43))) (M' := M52_) ⟨rfl, rfl⟩ ⟨⟨_, rfl, (zr_wide b57_ (by decide) (by decide))⟩, o54_, f55_⟩
            · have b58_ : 8 ≤ Int32.toInt (M.1 124 43) ∧ Int32.toInt (M.1 124 43) ≤ 8 := (by have u0 := b35_; have u1 := (zi_eq _ _).mp c36_; have u2 := (show 8 ≤ Int32.toInt 8 ∧ Int32.toInt 8 ≤ 8 from (by decide)); omega)
              refine pw_blk hT 1 (S' := (48, [some (pvR 124), some (pvI n1), some (pvI n2)], [pvI (-4)], M)) rfl ⟨trivial, trivial⟩ ?_
              exact pw_ret hT rfl (r := some (pvI (-4))) (M' := M) ⟨rfl, rfl⟩ ⟨⟨_, rfl, (zr_wide (show (-4) ≤ Int32.toInt (-4) ∧ Int32.toInt (-4) ≤ (-4) from (by decide)) (by decide) (by decide))⟩, hok, pvfr_0⟩
  · have b59_ : (-1) ≤ Int32.toInt n1 ∧ Int32.toInt n1 ≤ (-1) := (by have u0 := (zbnd n1); have u1 := (zi_eq _ _).mp c1_; have u2 := (show (-1) ≤ Int32.toInt (-1) ∧ Int32.toInt (-1) ≤ (-1) from (by decide)); omega)
    refine pw_blkw hT 3 (pc := 10) (lo := [some (pvR 124), some (pvI n1), some (pvI n2)]) (st := []) (M := pvu M 124 43 0) rfl ⟨trivial, trivial, rfl, trivial⟩ (fun M60_ e61_ => ?_)
    have o62_ : pvOk M60_ := pvok_u2 e61_ hok rfl (zr_wide (show 0 ≤ Int32.toInt 0 ∧ Int32.toInt 0 ≤ 0 from (by decide)) (by decide) (by decide))
    have f63_ : pvFr fp_X10_book_124_x_x M M60_ := pvfr_u e61_ pvfr_0 rfl
    refine pw_blk hT 1 (S' := (11, [some (pvR 124), some (pvI n1), some (pvI n2)], [pvI 0], M60_)) rfl ⟨trivial, trivial⟩ ?_
    exact pw_ret hT rfl (r := some (pvI 0)) (M' := M60_) ⟨rfl, rfl⟩ ⟨⟨_, rfl, (zr_wide (show 0 ≤ Int32.toInt 0 ∧ Int32.toInt 0 ≤ 0 from (by decide)) (by decide) (by decide))⟩, o62_, f63_⟩
def fpL_X10_costOfNone_124 : List (Nat × Nat × Nat) := [(0, 143, 0)]
def fp_X10_costOfNone_124 (q k : Nat) : Bool := pvfp fpL_X10_costOfNone_124 q k
theorem fp_X10_costOfNone_124_fp_X10_layOpen_124 (a b : Nat) (h : fp_X10_layOpen_124 a b = true) : fp_X10_costOfNone_124 a b = true := pvfp_sub (l1 := fpL_X10_layOpen_124) (l2 := fpL_X10_costOfNone_124) (by decide) a b h
set_option maxHeartbeats 4000000 in
set_option maxRecDepth 10000 in
theorem sf_X10_costOfNone_124 (M : pvM) (hok : pvOk M) (d : Nat) : PW 13 d (0, [some (pvR 124)], [], M) (fun r X => (∃ x : Int32, r = some (pvI x) ∧ 0 ≤ Int32.toInt x ∧ Int32.toInt x ≤ 9000000) ∧ pvOk X ∧ pvFr fp_X10_costOfNone_124 M X) := by
  have hT : pvdom 13 = pvD_13 := rfl
  refine pw_blk hT 1 (S' := (1, [some (pvR 124)], [pvR 124], M)) rfl ⟨trivial, trivial⟩ ?_
  refine pw_callV hT (as := [pvR 124]) (lo1 := [some (pvR 124), none]) (d1 := d) (rest := []) rfl rfl rfl rfl rfl (fun _ => rfl) (Nat.zero_le _) rfl rfl rfl (sf_X10_layOpen_124 M hok d) (fun M2_ o4_ g5_ => ?_)
  have f6_ : pvFr fp_X10_costOfNone_124 M M2_ := pvfr_t g5_ pvfr_0 fp_X10_costOfNone_124_fp_X10_layOpen_124
  refine pw_blk hT 1 (S' := (5, [some (pvR 124)], [pvR 124], M2_)) rfl ⟨trivial, trivial⟩ ?_
  refine pw_callGp hT (as := [pvR 124]) (lo1 := [some (pvR 124)]) (d1 := d) (rest := []) rfl rfl rfl rfl rfl (fun _ => rfl) (Nat.zero_le _) rfl rfl rfl (sf_X10_harmTillEnd_124 M2_ o4_ d) (fun x7_ b9_ => ?_)
  exact pw_ret hT rfl (r := some (pvI x7_)) (M' := M2_) ⟨rfl, rfl⟩ ⟨⟨_, rfl, b9_⟩, o4_, f6_⟩
def fpL_X10_costOfRound_124_x : List (Nat × Nat × Nat) := [(0, 124, 33), (0, 124, 36), (0, 141, 0), (0, 142, 0), (0, 143, 0), (0, 144, 0)]
def fp_X10_costOfRound_124_x (q k : Nat) : Bool := pvfp fpL_X10_costOfRound_124_x q k
theorem fp_X10_costOfRound_124_x_fp_X10_costOfPath_124_x (a b : Nat) (h : fp_X10_costOfPath_124_x a b = true) : fp_X10_costOfRound_124_x a b = true := pvfp_sub (l1 := fpL_X10_costOfPath_124_x) (l2 := fpL_X10_costOfRound_124_x) (by decide) a b h
theorem fp_X10_costOfRound_124_x_fp_X10_layRain_124 (a b : Nat) (h : fp_X10_layRain_124 a b = true) : fp_X10_costOfRound_124_x a b = true := pvfp_sub (l1 := fpL_X10_layRain_124) (l2 := fpL_X10_costOfRound_124_x) (by decide) a b h
theorem fp_X10_costOfRound_124_x_fp_X10_layRound_124 (a b : Nat) (h : fp_X10_layRound_124 a b = true) : fp_X10_costOfRound_124_x a b = true := pvfp_sub (l1 := fpL_X10_layRound_124) (l2 := fpL_X10_costOfRound_124_x) (by decide) a b h
set_option maxHeartbeats 4000000 in
set_option maxRecDepth 10000 in
theorem sf_X10_costOfRound_124_x (M : pvM) (hok : pvOk M) (n1 : Int32) (hn1 : 0 ≤ Int32.toInt n1 ∧ Int32.toInt n1 ≤ 60) (hz : pvWF M) (d : Nat) : PW 15 d (0, [some (pvR 124), some (pvI n1)], [], M) (fun r X => (∃ x : Int32, r = some (pvI x) ∧ 0 ≤ Int32.toInt x ∧ Int32.toInt x ≤ 9000000) ∧ pvOk X ∧ pvFr fp_X10_costOfRound_124_x M X) := by
  have hT : pvdom 15 = pvD_15 := rfl
  refine pw_blk hT 1 (S' := (1, [some (pvR 124), some (pvI n1)], [pvR 124], M)) rfl ⟨trivial, trivial⟩ ?_
  refine pw_callV hT (as := [pvR 124]) (lo1 := [some (pvR 124), none, none]) (d1 := d) (rest := []) rfl rfl rfl rfl rfl (fun _ => rfl) (Nat.zero_le _) rfl rfl rfl (sf_X10_layRain_124 M hok hz d) (fun M2_ o4_ g5_ => ?_)
  have f6_ : pvFr fp_X10_costOfRound_124_x M M2_ := pvfr_t g5_ pvfr_0 fp_X10_costOfRound_124_x_fp_X10_layRain_124
  refine pw_blk hT 1 (S' := (5, [some (pvR 124), some (pvI n1)], [pvR 124], M2_)) rfl ⟨trivial, trivial⟩ ?_
  refine pw_callV hT (as := [pvR 124]) (lo1 := [some (pvR 124), none]) (d1 := d) (rest := []) rfl rfl rfl rfl rfl (fun _ => rfl) (Nat.zero_le _) rfl rfl rfl (sf_X10_layRound_124 M2_ o4_ d) (fun M8_ o10_ g11_ => ?_)
  have f12_ : pvFr fp_X10_costOfRound_124_x M M8_ := pvfr_t g11_ f6_ fp_X10_costOfRound_124_x_fp_X10_layRound_124
  refine pw_blk hT 2 (S' := (10, [some (pvR 124), some (pvI n1)], [pvI n1, pvR 124], M8_)) rfl ⟨trivial, trivial, trivial⟩ ?_
  refine pw_callG hT (as := [pvR 124, pvI n1]) (lo1 := [some (pvR 124), some (pvI n1), none]) (d1 := d) (rest := []) rfl rfl rfl rfl rfl (fun _ => rfl) (Nat.zero_le _) rfl rfl rfl (sf_X10_costOfPath_124_x M8_ o10_ n1 hn1 d) (fun x13_ M14_ b15_ o16_ g17_ => ?_)
  have f18_ : pvFr fp_X10_costOfRound_124_x M M14_ := pvfr_t g17_ f12_ fp_X10_costOfRound_124_x_fp_X10_costOfPath_124_x
  exact pw_ret hT rfl (r := some (pvI x13_)) (M' := M14_) ⟨rfl, rfl⟩ ⟨⟨_, rfl, b15_⟩, o16_, f18_⟩
set_option maxHeartbeats 4000000 in
set_option maxRecDepth 10000 in
theorem sf_X10_count_124_x (M : pvM) (hok : pvOk M) (n1 : Int32) (d : Nat) : PW 16 d (0, [some (pvR 124), some (pvI n1)], [], M) (fun r X => r = some (pvI ((if n1 = 0 then (M.1 124 0) else (if n1 = 1 then (M.1 124 14) else (if n1 = 2 then (M.1 124 37) else (if n1 = 3 then (M.1 124 40) else (if n1 = 4 then (M.1 124 43) else (if n1 = 5 then (M.1 124 16) else (if n1 = 6 then (M.1 124 70) else (-2)))))))))) ∧ X = M) := by
  have hT : pvdom 16 = pvD_16 := rfl
  refine pw_blk hT 1 (S' := (1, [some (pvR 124), some (pvI n1)], [pvI n1], M)) rfl ⟨trivial, trivial⟩ ?_
  refine pw_sw hT rfl rfl ?_
  refine And.intro (fun c1_ => ?_) (fun c1_ => ?_)
  · show PW 16 d (44, [some (pvR 124), some (pvI n1)], [], M) _
    have b2_ : 0 ≤ Int32.toInt n1 ∧ Int32.toInt n1 ≤ 0 := (by have u0 := (zbnd n1); have u1 := (zi_eq _ _).mp c1_; have u2 := (show 0 ≤ Int32.toInt 0 ∧ Int32.toInt 0 ≤ 0 from (by decide)); omega)
    have b3_ : 0 ≤ Int32.toInt (M.1 124 0) ∧ Int32.toInt (M.1 124 0) ≤ 7 := pvok_r hok 124 0 rfl
    refine pw_blk hT 2 (S' := (48, [some (pvR 124), some (pvI n1)], [pvI (M.1 124 0)], M)) rfl ⟨trivial, rfl, trivial⟩ ?_
    exact pw_ret hT rfl (r := some (pvI (M.1 124 0))) (M' := M) ⟨rfl, rfl⟩ ⟨(by rw [if_pos c1_]), rfl⟩
  · refine And.intro (fun c4_ => ?_) (fun c4_ => ?_)
    · show PW 16 d (49, [some (pvR 124), some (pvI n1)], [], M) _
      have b5_ : 1 ≤ Int32.toInt n1 ∧ Int32.toInt n1 ≤ 1 := (by have u0 := (zbnd n1); have u1 := (zi_eq _ _).mp c4_; have u2 := (show 1 ≤ Int32.toInt 1 ∧ Int32.toInt 1 ≤ 1 from (by decide)); omega)
      have b6_ : 0 ≤ Int32.toInt (M.1 124 14) ∧ Int32.toInt (M.1 124 14) ≤ 6 := pvok_r hok 124 14 rfl
      refine pw_blk hT 2 (S' := (53, [some (pvR 124), some (pvI n1)], [pvI (M.1 124 14)], M)) rfl ⟨trivial, rfl, trivial⟩ ?_
      exact pw_ret hT rfl (r := some (pvI (M.1 124 14))) (M' := M) ⟨rfl, rfl⟩ ⟨(by rw [if_neg c1_, if_pos c4_]), rfl⟩
    · refine And.intro (fun c7_ => ?_) (fun c7_ => ?_)
      · show PW 16 d (54, [some (pvR 124), some (pvI n1)], [], M) _
        have b8_ : 2 ≤ Int32.toInt n1 ∧ Int32.toInt n1 ≤ 2 := (by have u0 := (zbnd n1); have u1 := (zi_eq _ _).mp c7_; have u2 := (show 2 ≤ Int32.toInt 2 ∧ Int32.toInt 2 ≤ 2 from (by decide)); omega)
        have b9_ : 0 ≤ Int32.toInt (M.1 124 37) ∧ Int32.toInt (M.1 124 37) ≤ 7 := pvok_r hok 124 37 rfl
        refine pw_blk hT 2 (S' := (58, [some (pvR 124), some (pvI n1)], [pvI (M.1 124 37)], M)) rfl ⟨trivial, rfl, trivial⟩ ?_
        exact pw_ret hT rfl (r := some (pvI (M.1 124 37))) (M' := M) ⟨rfl, rfl⟩ ⟨(by rw [if_neg c1_, if_neg c4_, if_pos c7_]), rfl⟩
      · refine And.intro (fun c10_ => ?_) (fun c10_ => ?_)
        · show PW 16 d (59, [some (pvR 124), some (pvI n1)], [], M) _
          have b11_ : 3 ≤ Int32.toInt n1 ∧ Int32.toInt n1 ≤ 3 := (by have u0 := (zbnd n1); have u1 := (zi_eq _ _).mp c10_; have u2 := (show 3 ≤ Int32.toInt 3 ∧ Int32.toInt 3 ≤ 3 from (by decide)); omega)
          have b12_ : 0 ≤ Int32.toInt (M.1 124 40) ∧ Int32.toInt (M.1 124 40) ≤ 6 := pvok_r hok 124 40 rfl
          refine pw_blk hT 2 (S' := (63, [some (pvR 124), some (pvI n1)], [pvI (M.1 124 40)], M)) rfl ⟨trivial, rfl, trivial⟩ ?_
          exact pw_ret hT rfl (r := some (pvI (M.1 124 40))) (M' := M) ⟨rfl, rfl⟩ ⟨(by rw [if_neg c1_, if_neg c4_, if_neg c7_, if_pos c10_]), rfl⟩
        · refine And.intro (fun c13_ => ?_) (fun c13_ => ?_)
          · show PW 16 d (64, [some (pvR 124), some (pvI n1)], [], M) _
            have b14_ : 4 ≤ Int32.toInt n1 ∧ Int32.toInt n1 ≤ 4 := (by have u0 := (zbnd n1); have u1 := (zi_eq _ _).mp c13_; have u2 := (show 4 ≤ Int32.toInt 4 ∧ Int32.toInt 4 ≤ 4 from (by decide)); omega)
            have b15_ : 0 ≤ Int32.toInt (M.1 124 43) ∧ Int32.toInt (M.1 124 43) ≤ 8 := pvok_r hok 124 43 rfl
            refine pw_blk hT 2 (S' := (68, [some (pvR 124), some (pvI n1)], [pvI (M.1 124 43)], M)) rfl ⟨trivial, rfl, trivial⟩ ?_
            exact pw_ret hT rfl (r := some (pvI (M.1 124 43))) (M' := M) ⟨rfl, rfl⟩ ⟨(by rw [if_neg c1_, if_neg c4_, if_neg c7_, if_neg c10_, if_pos c13_]), rfl⟩
          · refine And.intro (fun c16_ => ?_) (fun c16_ => ?_)
            · show PW 16 d (69, [some (pvR 124), some (pvI n1)], [], M) _
              have b17_ : 5 ≤ Int32.toInt n1 ∧ Int32.toInt n1 ≤ 5 := (by have u0 := (zbnd n1); have u1 := (zi_eq _ _).mp c16_; have u2 := (show 5 ≤ Int32.toInt 5 ∧ Int32.toInt 5 ≤ 5 from (by decide)); omega)
              have b18_ : 0 ≤ Int32.toInt (M.1 124 16) ∧ Int32.toInt (M.1 124 16) ≤ 100 := pvok_r hok 124 16 rfl
              refine pw_blk hT 2 (S' := (73, [some (pvR 124), some (pvI n1)], [pvI (M.1 124 16)], M)) rfl ⟨trivial, rfl, trivial⟩ ?_
              exact pw_ret hT rfl (r := some (pvI (M.1 124 16))) (M' := M) ⟨rfl, rfl⟩ ⟨(by rw [if_neg c1_, if_neg c4_, if_neg c7_, if_neg c10_, if_neg c13_, if_pos c16_]), rfl⟩
            · refine And.intro (fun c19_ => ?_) (fun c19_ => ?_)
              · show PW 16 d (74, [some (pvR 124), some (pvI n1)], [], M) _
                have b20_ : 6 ≤ Int32.toInt n1 ∧ Int32.toInt n1 ≤ 6 := (by have u0 := (zbnd n1); have u1 := (zi_eq _ _).mp c19_; have u2 := (show 6 ≤ Int32.toInt 6 ∧ Int32.toInt 6 ≤ 6 from (by decide)); omega)
                have b21_ : 0 ≤ Int32.toInt (M.1 124 70) ∧ Int32.toInt (M.1 124 70) ≤ 1000000 := pvok_r hok 124 70 rfl
                refine pw_blk hT 2 (S' := (78, [some (pvR 124), some (pvI n1)], [pvI (M.1 124 70)], M)) rfl ⟨trivial, rfl, trivial⟩ ?_
                exact pw_ret hT rfl (r := some (pvI (M.1 124 70))) (M' := M) ⟨rfl, rfl⟩ ⟨(by rw [if_neg c1_, if_neg c4_, if_neg c7_, if_neg c10_, if_neg c13_, if_neg c16_, if_pos c19_]), rfl⟩
              · show PW 16 d (79, [some (pvR 124), some (pvI n1)], [], M) _
                refine pw_blk hT 1 (S' := (81, [some (pvR 124), some (pvI n1)], [pvI (-2)], M)) rfl ⟨trivial, trivial⟩ ?_
                exact pw_ret hT rfl (r := some (pvI (-2))) (M' := M) ⟨rfl, rfl⟩ ⟨(by rw [if_neg c1_, if_neg c4_, if_neg c7_, if_neg c10_, if_neg c13_, if_neg c16_, if_neg c19_]), rfl⟩
set_option maxHeartbeats 4000000 in
set_option maxRecDepth 10000 in
theorem sf_X10_divisor_124_x_x (M : pvM) (hok : pvOk M) (n1 : Int32) (n2 : Int32) (hn1 : 0 ≤ Int32.toInt n1 ∧ Int32.toInt n1 ≤ 90000000) (hn2 : 1 ≤ Int32.toInt n2 ∧ Int32.toInt n2 ≤ 10) (d : Nat) : PW 17 d (0, [some (pvR 124), some (pvI n1), some (pvI n2), none, none, none], [], M) (fun r X => (∃ x : Int32, r = some (pvI x) ∧ 1 ≤ Int32.toInt x ∧ Int32.toInt x ≤ 90000000) ∧ X = M) := by
  have hT : pvdom 17 = pvD_17 := rfl
  refine pw_blk hT 4 (S' := (5, [some (pvR 124), some (pvI n1), some (pvI n2), some (pvI n1), some (pvI n2), none], [], M)) rfl ⟨trivial, trivial, trivial, trivial, trivial⟩ ?_
  have hlz14_ : ∀ (nz14_ : Nat) (i3z14_ : Int32) (i4z14_ : Int32) (v5z14_ : Option pvV), (0 ≤ Int32.toInt i3z14_ ∧ Int32.toInt i3z14_ ≤ 90000000) → (0 ≤ Int32.toInt i4z14_ ∧ Int32.toInt i4z14_ ≤ 10) → (1 ≤ Int32.toInt i3z14_ ∨ 1 ≤ Int32.toInt i4z14_) → (zhide ((Int32.toInt i4z14_).toNat < nz14_)) → PW 17 d (5, [some (pvR 124), some (pvI n1), some (pvI n2), some (pvI i3z14_), some (pvI i4z14_), v5z14_], [], M) (fun r X => (∃ x : Int32, r = some (pvI x) ∧ 1 ≤ Int32.toInt x ∧ Int32.toInt x ≤ 90000000) ∧ X = M) := by
    intro nz14_
    induction nz14_ with
    | zero => intro i3z14_ i4z14_ v5z14_ h3z14_ h4z14_ j0z14_ hmz14_; exact absurd (zshow hmz14_) (Nat.not_lt_zero _)
    | succ nz14_ ihz14_ =>
      intro i3z14_ i4z14_ v5z14_ h3z14_ h4z14_ j0z14_ hmz14_
      refine pw_blk hT 1 (S' := (7, [some (pvR 124), some (pvI n1), some (pvI n2), some (pvI i3z14_), some (pvI i4z14_), v5z14_], [pvI i4z14_], M)) rfl ⟨trivial, trivial⟩ ?_
      refine pw_if hT (c := i4z14_ = 0) rfl rfl (fun c15_ => ?_) (fun c15_ => ?_)
      · have b16_ : 0 ≤ Int32.toInt i4z14_ ∧ Int32.toInt i4z14_ ≤ 0 := (by have u0 := h4z14_; have u1 := (zi_eq _ _).mp c15_; have u2 := (show 0 ≤ Int32.toInt 0 ∧ Int32.toInt 0 ≤ 0 from (by decide)); omega)
        refine pw_blk hT 1 (S' := (27, [some (pvR 124), some (pvI n1), some (pvI n2), some (pvI i3z14_), some (pvI i4z14_), v5z14_], [pvI i3z14_], M)) rfl ⟨trivial, trivial⟩ ?_
        exact pw_ret hT rfl (r := some (pvI i3z14_)) (M' := M) ⟨rfl, rfl⟩ ⟨⟨_, rfl, (by have u0 := h3z14_; omega)⟩, rfl⟩
      · have b17_ : 1 ≤ Int32.toInt i4z14_ ∧ Int32.toInt i4z14_ ≤ 10 := (by have u0 := h4z14_; have u1 := (not_congr (zi_eq _ _)).mp c15_; have u2 := (show 0 ≤ Int32.toInt 0 ∧ Int32.toInt 0 ≤ 0 from (by decide)); omega)
        have q18_ : 0 ≤ Int32.toInt (i3z14_ - i3z14_ / i4z14_ * i4z14_) ∧ Int32.toInt (i3z14_ - i3z14_ / i4z14_ * i4z14_) < Int32.toInt i4z14_ := pvrem i3z14_ i4z14_ (by have u0 := h3z14_; omega) (by have u0 := b17_; omega)
        have b19_ : 0 ≤ Int32.toInt (i3z14_ - i3z14_ / i4z14_ * i4z14_) ∧ Int32.toInt (i3z14_ - i3z14_ / i4z14_ * i4z14_) ≤ 9 := (by have u0 := q18_; have u1 := b17_; omega)
        refine pw_blk hT 9 (S' := (5, [some (pvR 124), some (pvI n1), some (pvI n2), some (pvI i4z14_), some (pvI (i3z14_ - i3z14_ / i4z14_ * i4z14_)), some (pvI (i3z14_ - i3z14_ / i4z14_ * i4z14_))], [], M)) rfl ⟨trivial, trivial, c15_, trivial, trivial, trivial, trivial, trivial, trivial, trivial⟩ ?_
        have j20_ : 1 ≤ Int32.toInt i4z14_ ∨ 1 ≤ Int32.toInt (i3z14_ - i3z14_ / i4z14_ * i4z14_) := by omega
        exact ihz14_ i4z14_ (i3z14_ - i3z14_ / i4z14_ * i4z14_) (some (pvI (i3z14_ - i3z14_ / i4z14_ * i4z14_))) (zr_wide b17_ (by decide) (by decide)) (zr_wide b19_ (by decide) (by decide)) j20_ (zhid (by have hm0 := zshow hmz14_; omega))
  have j21_ : 1 ≤ Int32.toInt n1 ∨ 1 ≤ Int32.toInt n2 := by omega
  exact hlz14_ _ n1 n2 none hn1 (zr_wide hn2 (by decide) (by decide)) j21_ (zhid (Nat.lt_succ_self _))
def fpL_X10_emits_124_x : List (Nat × Nat × Nat) := [(0, 124, 28), (0, 138, 0)]
def fp_X10_emits_124_x (q k : Nat) : Bool := pvfp fpL_X10_emits_124_x q k
set_option maxHeartbeats 4000000 in
set_option maxRecDepth 10000 in
theorem sf_X10_emits_124_x (M : pvM) (hok : pvOk M) (n1 : Int32) (hn1 : (-128) ≤ Int32.toInt n1 ∧ Int32.toInt n1 ≤ 5999) (hs : Int32.toInt (M.1 124 27) ≤ 599 ∧ 0 ≤ Int32.toInt (M.1 124 27)) (d : Nat) : PW 18 d (0, [some (pvR 124), some (pvI n1)], [], M) (fun r X => r = none ∧ pvOk X ∧ pvFr fp_X10_emits_124_x M X ∧ X = zpe M n1) := by
  have hT : pvdom 18 = pvD_18 := rfl
  have b1_ : 0 ≤ Int32.toInt (M.1 124 27) ∧ Int32.toInt (M.1 124 27) ≤ 600 := pvok_r hok 124 27 rfl
  refine pw_blkw hT 6 (pc := 10) (lo := [some (pvR 124), some (pvI n1)]) (st := []) (M := pvu M 138 (Int32.toNatClampNeg (M.1 124 27)) n1) rfl ⟨trivial, rfl, trivial, rfl, trivial, ⟨rfl, (vp_in_iff.mpr (show 0 ≤ Int32.toInt (M.1 124 27) ∧ Int32.toInt (M.1 124 27) < ((600 : Nat) : Int) from (by have u0 := b1_; omega)))⟩, trivial⟩ (fun M2_ e3_ => ?_)
  have o4_ : pvOk M2_ := pvok_u2 e3_ hok rfl hn1
  have f5_ : pvFr fp_X10_emits_124_x M M2_ := pvfr_u e3_ pvfr_0 rfl
  have e6_ : (M2_.1 124 27) = (M.1 124 27) := (pvu_n e3_ 124 27 (Or.inl (by decide)))
  have b7_ : 0 ≤ Int32.toInt (M2_.1 124 27) ∧ Int32.toInt (M2_.1 124 27) ≤ 600 := pvok_r o4_ 124 27 rfl
  have d8_ : Int32.toInt (M2_.1 124 27) = Int32.toInt (M.1 124 27) := congrArg Int32.toInt e6_
  obtain ⟨q10_, b9_⟩ : (Int32.toInt ((M2_.1 124 27) + 1) = Int32.toInt (M2_.1 124 27) + 1) ∧ (1 ≤ Int32.toInt ((M2_.1 124 27) + 1) ∧ Int32.toInt ((M2_.1 124 27) + 1) ≤ 601) := zadd_k (M2_.1 124 27) 1 1 1 601 b7_ (by decide) (by decide) (by decide) (by decide) (by decide)
  refine pw_blkw hT 6 (pc := 20) (lo := [some (pvR 124), some (pvI n1)]) (st := []) (M := pvu M2_ 124 27 ((M2_.1 124 27) + 1)) rfl ⟨trivial, trivial, rfl, trivial, trivial, rfl, trivial⟩ (fun M11_ e12_ => ?_)
  have o13_ : pvOk M11_ := pvok_u2 e12_ o4_ rfl (by have u0 := b9_; omega)
  have f14_ : pvFr fp_X10_emits_124_x M M11_ := pvfr_u e12_ f5_ rfl
  have e15_ : (M11_.1 124 27) = ((M2_.1 124 27) + 1) := (pvu_s e12_)
  have b16_ : 1 ≤ Int32.toInt (M11_.1 124 27) ∧ Int32.toInt (M11_.1 124 27) ≤ 600 := (by rw [e15_]; exact (by have u0 := b9_; omega))
  have d17_ : Int32.toInt (M11_.1 124 27) = Int32.toInt ((M2_.1 124 27) + 1) := congrArg Int32.toInt e15_
  exact pw_ret hT rfl (r := none) (M' := M11_) ⟨rfl, rfl⟩ ⟨rfl, o13_, f14_, (by have z : M2_.1 124 27 = M.1 124 27 := pvu_n e3_ 124 27 (Or.inl (by decide)); rw [e12_, z, e3_, zpe])⟩
def fpL_X10_feed_124_x : List (Nat × Nat × Nat) := [(0, 124, 17), (0, 132, 0)]
def fp_X10_feed_124_x (q k : Nat) : Bool := pvfp fpL_X10_feed_124_x q k
set_option maxHeartbeats 4000000 in
set_option maxRecDepth 10000 in
theorem sf_X10_feed_124_x (M : pvM) (hok : pvOk M) (n1 : Int32) (d : Nat) : PW 20 d (0, [some (pvR 124), some (pvI n1)], [], M) (fun r X => (∃ x : Int32, r = some (pvI x) ∧ (-4) ≤ Int32.toInt x ∧ Int32.toInt x ≤ 100) ∧ pvOk X ∧ pvFr fp_X10_feed_124_x M X) := by
  have hT : pvdom 20 = pvD_20 := rfl
  refine pw_blk hT 4 (S' := (5, [some (pvR 124), some (pvI n1)], [pvI 127, pvI 0, pvI n1, pvR 124], M)) rfl ⟨trivial, trivial, trivial, trivial, trivial⟩ ?_
  refine pw_callT hT (as := [pvR 124, pvI n1, pvI 0, pvI 127]) (lo1 := [some (pvR 124), some (pvI n1), some (pvI 0), some (pvI 127)]) (d1 := d) (rest := []) rfl rfl rfl rfl rfl (fun _ => rfl) (Nat.zero_le _) rfl rfl rfl (sf_X10_in_124_x_x_x M hok n1 0 127 d) ?_
  by_cases c6_ : n1 < 0
  · refine pw_eqI (if_pos c6_) ?_
    have b7_ : (-2147483648) ≤ Int32.toInt n1 ∧ Int32.toInt n1 ≤ (-1) := zr_lt_l (-1) c6_ (zbnd n1) (show 0 ≤ Int32.toInt 0 ∧ Int32.toInt 0 ≤ 0 from (by decide)) (by decide)
    show PW 20 d (8, [some (pvR 124), some (pvI n1)], [pvI 0], M) _
    refine pw_ifn hT (c := 0 = 0) rfl rfl (fun c8_ => absurd (by decide) c8_) (fun c8_ => ?_)
    refine pw_blk hT 1 (S' := (13, [some (pvR 124), some (pvI n1)], [pvI (-2)], M)) rfl ⟨trivial, trivial⟩ ?_
    exact pw_ret hT rfl (r := some (pvI (-2))) (M' := M) ⟨rfl, rfl⟩ ⟨⟨_, rfl, (zr_wide (show (-2) ≤ Int32.toInt (-2) ∧ Int32.toInt (-2) ≤ (-2) from (by decide)) (by decide) (by decide))⟩, hok, pvfr_0⟩
  · refine pw_eqI (if_neg c6_) ?_
    have b9_ : 0 ≤ Int32.toInt n1 ∧ Int32.toInt n1 ≤ 2147483647 := zr_nlt_l 0 c6_ (zbnd n1) (show 0 ≤ Int32.toInt 0 ∧ Int32.toInt 0 ≤ 0 from (by decide)) (by decide)
    by_cases c10_ : 127 < n1
    · refine pw_eqI (if_pos c10_) ?_
      have b11_ : 128 ≤ Int32.toInt n1 ∧ Int32.toInt n1 ≤ 2147483647 := zr_lt_r 128 c10_ b9_ (show 127 ≤ Int32.toInt 127 ∧ Int32.toInt 127 ≤ 127 from (by decide)) (by decide)
      show PW 20 d (8, [some (pvR 124), some (pvI n1)], [pvI 0], M) _
      refine pw_ifn hT (c := 0 = 0) rfl rfl (fun c12_ => absurd (by decide) c12_) (fun c12_ => ?_)
      refine pw_blk hT 1 (S' := (13, [some (pvR 124), some (pvI n1)], [pvI (-2)], M)) rfl ⟨trivial, trivial⟩ ?_
      exact pw_ret hT rfl (r := some (pvI (-2))) (M' := M) ⟨rfl, rfl⟩ ⟨⟨_, rfl, (zr_wide (show (-2) ≤ Int32.toInt (-2) ∧ Int32.toInt (-2) ≤ (-2) from (by decide)) (by decide) (by decide))⟩, hok, pvfr_0⟩
    · refine pw_eqI (if_neg c10_) ?_
      have b13_ : 0 ≤ Int32.toInt n1 ∧ Int32.toInt n1 ≤ 127 := zr_nlt_r 127 c10_ b9_ (show 127 ≤ Int32.toInt 127 ∧ Int32.toInt 127 ≤ 127 from (by decide)) (by decide)
      show PW 20 d (8, [some (pvR 124), some (pvI n1)], [pvI 1], M) _
      refine pw_ifn hT (c := 1 = 0) rfl rfl (fun c14_ => ?_) (fun c14_ => absurd c14_ (by decide))
      have b15_ : 0 ≤ Int32.toInt (M.1 124 16) ∧ Int32.toInt (M.1 124 16) ≤ 100 := pvok_r hok 124 16 rfl
      refine pw_blk hT 3 (S' := (20, [some (pvR 124), some (pvI n1)], [pvI 100, pvI (M.1 124 16)], M)) rfl ⟨trivial, rfl, trivial, trivial⟩ ?_
      refine pw_icn hT (c := (M.1 124 16) = 100) rfl rfl (fun c16_ => ?_) (fun c16_ => ?_)
      · have b17_ : 0 ≤ Int32.toInt (M.1 124 16) ∧ Int32.toInt (M.1 124 16) ≤ 99 := (by have u0 := b15_; have u1 := (not_congr (zi_eq _ _)).mp c16_; have u2 := (show 100 ≤ Int32.toInt 100 ∧ Int32.toInt 100 ≤ 100 from (by decide)); omega)
        refine pw_blkw hT 6 (pc := 36) (lo := [some (pvR 124), some (pvI n1)]) (st := []) (M := pvu M 132 (Int32.toNatClampNeg (M.1 124 16)) n1) rfl ⟨trivial, rfl, trivial, rfl, trivial, ⟨rfl, (zr_in (n := 100) b17_ (by decide) (by decide))⟩, trivial⟩ (fun M18_ e19_ => ?_)
        have o20_ : pvOk M18_ := pvok_u2 e19_ hok rfl b13_
        have f21_ : pvFr fp_X10_feed_124_x M M18_ := pvfr_u e19_ pvfr_0 rfl
        have e22_ : (M18_.1 124 16) = (M.1 124 16) := (pvu_n e19_ 124 16 (Or.inl (by decide)))
        have b23_ : 0 ≤ Int32.toInt (M18_.1 124 16) ∧ Int32.toInt (M18_.1 124 16) ≤ 99 := (by rw [e22_]; exact b17_)
        obtain ⟨q25_, b24_⟩ : (Int32.toInt ((M18_.1 124 16) + 1) = Int32.toInt (M18_.1 124 16) + 1) ∧ (1 ≤ Int32.toInt ((M18_.1 124 16) + 1) ∧ Int32.toInt ((M18_.1 124 16) + 1) ≤ 100) := zadd_k (M18_.1 124 16) 1 1 1 100 b23_ (by decide) (by decide) (by decide) (by decide) (by decide)
        refine pw_blkw hT 6 (pc := 46) (lo := [some (pvR 124), some (pvI n1)]) (st := []) (M := pvu M18_ 124 16 ((M18_.1 124 16) + 1)) rfl ⟨trivial, trivial, rfl, trivial, trivial, rfl, trivial⟩ (fun M26_ e27_ => ?_)
        have o28_ : pvOk M26_ := pvok_u2 e27_ o20_ rfl (zr_wide b24_ (by decide) (by decide))
        have f29_ : pvFr fp_X10_feed_124_x M M26_ := pvfr_u e27_ f21_ rfl
        have e30_ : (M26_.1 124 16) = ((M18_.1 124 16) + 1) := (pvu_s e27_)
        have b31_ : 1 ≤ Int32.toInt (M26_.1 124 16) ∧ Int32.toInt (M26_.1 124 16) ≤ 100 := (by rw [e30_]; exact b24_)
        refine pw_blk hT 2 (S' := (50, [some (pvR 124), some (pvI n1)], [pvI (M26_.1 124 16)], M26_)) rfl ⟨trivial, rfl, trivial⟩ ?_
        exact pw_ret hT rfl (r := some (pvI (M26_.1 124 16))) (M' := M26_) ⟨rfl, rfl⟩ ⟨⟨_, rfl, (zr_wide b31_ (by decide) (by decide))⟩, o28_, f29_⟩
      · have b32_ : 100 ≤ Int32.toInt (M.1 124 16) ∧ Int32.toInt (M.1 124 16) ≤ 100 := (by have u0 := b15_; have u1 := (zi_eq _ _).mp c16_; have u2 := (show 100 ≤ Int32.toInt 100 ∧ Int32.toInt 100 ≤ 100 from (by decide)); omega)
        refine pw_blk hT 1 (S' := (25, [some (pvR 124), some (pvI n1)], [pvI (-4)], M)) rfl ⟨trivial, trivial⟩ ?_
        exact pw_ret hT rfl (r := some (pvI (-4))) (M' := M) ⟨rfl, rfl⟩ ⟨⟨_, rfl, (zr_wide (show (-4) ≤ Int32.toInt (-4) ∧ Int32.toInt (-4) ≤ (-4) from (by decide)) (by decide) (by decide))⟩, hok, pvfr_0⟩
set_option maxHeartbeats 4000000 in
set_option maxRecDepth 10000 in
theorem sf_X10_harmOf_124_x (M : pvM) (hok : pvOk M) (n1 : Int32) (hn1 : 0 ≤ Int32.toInt n1 ∧ Int32.toInt n1 ≤ 6) (d : Nat) : PW 29 d (0, [some (pvR 124), some (pvI n1), none, none], [], M) (fun r X => (∃ x : Int32, r = some (pvI x) ∧ 0 ≤ Int32.toInt x ∧ Int32.toInt x ≤ 9000000) ∧ X = M) := by
  have hT : pvdom 29 = pvD_29 := rfl
  have b1_ : 0 ≤ Int32.toInt (M.1 124 1) ∧ Int32.toInt (M.1 124 1) ≤ 9999 := pvok_r hok 124 1 rfl
  have b2_ : 0 ≤ Int32.toInt (M.1 124 3) ∧ Int32.toInt (M.1 124 3) ≤ 108 := pvok_r hok 124 3 rfl
  refine pw_blk hT 6 (S' := (10, [some (pvR 124), some (pvI n1), some (pvI 0), none], [pvI (M.1 124 3), pvI (M.1 124 1)], M)) rfl ⟨trivial, trivial, trivial, rfl, trivial, rfl, trivial⟩ ?_
  refine pw_ic hT (c := (M.1 124 3) ≤ (M.1 124 1)) rfl rfl (fun c3_ => ?_) (fun c3_ => ?_)
  · have d4_ : Int32.toInt (M.1 124 3) ≤ Int32.toInt (M.1 124 1) := (zi_le _ _).mp c3_
    refine pw_blk hT 3 (S' := (25, [some (pvR 124), some (pvI n1), some (pvI 0), some (pvI (M.1 124 1))], [], M)) rfl ⟨trivial, rfl, trivial, trivial⟩ ?_
    have hlz69_ : ∀ (nz69_ : Nat) (i2z69_ : Int32) (i3z69_ : Int32), (0 ≤ Int32.toInt i2z69_ ∧ Int32.toInt i2z69_ ≤ 9000000) → (0 ≤ Int32.toInt i3z69_ ∧ Int32.toInt i3z69_ ≤ 9999) → (Int32.toInt i2z69_ ≤ 90000 * (Int32.toInt i3z69_ - Int32.toInt (M.1 124 3))) → (0 ≤ Int32.toInt i2z69_) → (Int32.toInt (M.1 124 3) ≤ Int32.toInt i3z69_) → (Int32.toInt i3z69_ ≤ Int32.toInt (M.1 124 3) + 99 ∨ Int32.toInt i2z69_ = 0) → (zhide ((10000 - Int32.toInt i3z69_).toNat < nz69_)) → PW 29 d (25, [some (pvR 124), some (pvI n1), some (pvI i2z69_), some (pvI i3z69_)], [], M) (fun r X => (∃ x : Int32, r = some (pvI x) ∧ 0 ≤ Int32.toInt x ∧ Int32.toInt x ≤ 9000000) ∧ X = M) := by
      intro nz69_
      induction nz69_ with
      | zero => intro i2z69_ i3z69_ h2z69_ h3z69_ j0z69_ j1z69_ j2z69_ j3z69_ hmz69_; exact absurd (zshow hmz69_) (Nat.not_lt_zero _)
      | succ nz69_ ihz69_ =>
        intro i2z69_ i3z69_ h2z69_ h3z69_ j0z69_ j1z69_ j2z69_ j3z69_ hmz69_
        refine pw_blk hT 4 (S' := (31, [some (pvR 124), some (pvI n1), some (pvI i2z69_), some (pvI i3z69_)], [pvR 124, pvI (M.1 124 3), pvI i3z69_], M)) rfl ⟨trivial, trivial, rfl, trivial, trivial⟩ ?_
        refine pw_callGp hT (as := [pvR 124]) (lo1 := [some (pvR 124)]) (d1 := d) (rest := [pvI (M.1 124 3), pvI i3z69_]) rfl rfl rfl rfl rfl (fun _ => rfl) (Nat.zero_le _) rfl rfl rfl (sf_X10_lastNow_124 M hok d) (fun x70_ b72_ => ?_)
        obtain ⟨q76_, b75_⟩ : (Int32.toInt ((M.1 124 3) + x70_) = Int32.toInt (M.1 124 3) + Int32.toInt x70_) ∧ (0 ≤ Int32.toInt ((M.1 124 3) + x70_) ∧ Int32.toInt ((M.1 124 3) + x70_) ≤ 207) := zadd_r (M.1 124 3) x70_ 0 207 b2_ b72_ (by decide) (by decide) (by decide) (by decide)
        refine pw_blk hT 1 (S' := (35, [some (pvR 124), some (pvI n1), some (pvI i2z69_), some (pvI i3z69_)], [pvI ((M.1 124 3) + x70_), pvI i3z69_], M)) rfl ⟨trivial, trivial⟩ ?_
        refine pw_ic hT (c := ((M.1 124 3) + x70_) ≤ i3z69_) rfl rfl (fun c77_ => ?_) (fun c77_ => ?_)
        · have d78_ : Int32.toInt ((M.1 124 3) + x70_) ≤ Int32.toInt i3z69_ := (zi_le _ _).mp c77_
          refine pw_blk hT 1 (S' := (54, [some (pvR 124), some (pvI n1), some (pvI i2z69_), some (pvI i3z69_)], [pvI i2z69_], M)) rfl ⟨trivial, trivial⟩ ?_
          exact pw_ret hT rfl (r := some (pvI i2z69_)) (M' := M) ⟨rfl, rfl⟩ ⟨⟨_, rfl, h2z69_⟩, rfl⟩
        · have b79_ : 1 ≤ Int32.toInt ((M.1 124 3) + x70_) ∧ Int32.toInt ((M.1 124 3) + x70_) ≤ 207 := zr_nle_l 1 c77_ b75_ h3z69_ (by decide)
          have b80_ : 0 ≤ Int32.toInt i3z69_ ∧ Int32.toInt i3z69_ ≤ 206 := zr_nle_r 206 c77_ h3z69_ b79_ (by decide)
          have d81_ : Int32.toInt ((M.1 124 3) + x70_) > Int32.toInt i3z69_ := Int.not_le.mp ((not_congr (zi_le _ _)).mp c77_)
          refine pw_blk hT 4 (S' := (42, [some (pvR 124), some (pvI n1), some (pvI i2z69_), some (pvI i3z69_)], [pvI i3z69_, pvI n1, pvR 124, pvI i2z69_], M)) rfl ⟨trivial, trivial, trivial, trivial, trivial⟩ ?_
          refine pw_callGp hT (as := [pvR 124, pvI n1, pvI i3z69_]) (lo1 := [some (pvR 124), some (pvI n1), some (pvI i3z69_), none, none]) (d1 := d) (rest := [pvI i2z69_]) rfl rfl rfl rfl rfl (fun _ => rfl) (Nat.zero_le _) rfl rfl rfl (sf_X10_harm_124_x_x M hok n1 i3z69_ hn1 (zr_wide b80_ (by decide) (by decide)) d) (fun x82_ b84_ => ?_)
          obtain ⟨q88_, b87_⟩ : (Int32.toInt (i2z69_ + x82_) = Int32.toInt i2z69_ + Int32.toInt x82_) ∧ (0 ≤ Int32.toInt (i2z69_ + x82_) ∧ Int32.toInt (i2z69_ + x82_) ≤ 9012009) := zadd_r i2z69_ x82_ 0 9012009 h2z69_ b84_ (by decide) (by decide) (by decide) (by decide)
          obtain ⟨q90_, b89_⟩ : (Int32.toInt (i3z69_ + 1) = Int32.toInt i3z69_ + 1) ∧ (1 ≤ Int32.toInt (i3z69_ + 1) ∧ Int32.toInt (i3z69_ + 1) ≤ 207) := zadd_k i3z69_ 1 1 1 207 b80_ (by decide) (by decide) (by decide) (by decide) (by decide)
          refine pw_blk hT 4 (S' := (25, [some (pvR 124), some (pvI n1), some (pvI (i2z69_ + x82_)), some (pvI (i3z69_ + 1))], [], M)) rfl ⟨trivial, trivial, trivial, trivial, trivial⟩ ?_
          have j91_ : Int32.toInt (i2z69_ + x82_) ≤ 90000 * (Int32.toInt (i3z69_ + 1) - Int32.toInt (M.1 124 3)) := by omega
          have j92_ : 0 ≤ Int32.toInt (i2z69_ + x82_) := by omega
          have j93_ : Int32.toInt (M.1 124 3) ≤ Int32.toInt (i3z69_ + 1) := by omega
          have j94_ : Int32.toInt (i3z69_ + 1) ≤ Int32.toInt (M.1 124 3) + 99 ∨ Int32.toInt (i2z69_ + x82_) = 0 := by omega
          exact ihz69_ (i2z69_ + x82_) (i3z69_ + 1) (by have u0 := b87_; omega) (zr_wide b89_ (by decide) (by decide)) j91_ j92_ j93_ j94_ (zhid (pvms_up (zshow hmz69_) h3z69_ q90_ (by decide) (by decide)))
    have u95_ : Int32.toInt 0 = 0 := by decide
    have j96_ : Int32.toInt 0 ≤ 90000 * (Int32.toInt (M.1 124 1) - Int32.toInt (M.1 124 3)) := by omega
    have j97_ : 0 ≤ Int32.toInt 0 := by omega
    have j98_ : Int32.toInt (M.1 124 3) ≤ Int32.toInt (M.1 124 1) := by omega
    have j99_ : Int32.toInt (M.1 124 1) ≤ Int32.toInt (M.1 124 3) + 99 ∨ Int32.toInt 0 = 0 := by omega
    exact hlz69_ _ 0 (M.1 124 1) (zr_wide (show 0 ≤ Int32.toInt 0 ∧ Int32.toInt 0 ≤ 0 from (by decide)) (by decide) (by decide)) b1_ j96_ j97_ j98_ j99_ (zhid (Nat.lt_succ_self _))
  · have b100_ : 1 ≤ Int32.toInt (M.1 124 3) ∧ Int32.toInt (M.1 124 3) ≤ 108 := zr_nle_l 1 c3_ b2_ b1_ (by decide)
    have b101_ : 0 ≤ Int32.toInt (M.1 124 1) ∧ Int32.toInt (M.1 124 1) ≤ 107 := zr_nle_r 107 c3_ b1_ b100_ (by decide)
    have d102_ : Int32.toInt (M.1 124 3) > Int32.toInt (M.1 124 1) := Int.not_le.mp ((not_congr (zi_le _ _)).mp c3_)
    refine pw_blk hT 4 (S' := (25, [some (pvR 124), some (pvI n1), some (pvI 0), some (pvI (M.1 124 3))], [], M)) rfl ⟨trivial, rfl, trivial, trivial, trivial⟩ ?_
    have hlz167_ : ∀ (nz167_ : Nat) (i2z167_ : Int32) (i3z167_ : Int32), (0 ≤ Int32.toInt i2z167_ ∧ Int32.toInt i2z167_ ≤ 9000000) → (1 ≤ Int32.toInt i3z167_ ∧ Int32.toInt i3z167_ ≤ 207) → (Int32.toInt i2z167_ ≤ 90000 * (Int32.toInt i3z167_ - Int32.toInt (M.1 124 3))) → (0 ≤ Int32.toInt i2z167_) → (Int32.toInt (M.1 124 3) ≤ Int32.toInt i3z167_) → (Int32.toInt i3z167_ ≤ Int32.toInt (M.1 124 3) + 99 ∨ Int32.toInt i2z167_ = 0) → (zhide ((208 - Int32.toInt i3z167_).toNat < nz167_)) → PW 29 d (25, [some (pvR 124), some (pvI n1), some (pvI i2z167_), some (pvI i3z167_)], [], M) (fun r X => (∃ x : Int32, r = some (pvI x) ∧ 0 ≤ Int32.toInt x ∧ Int32.toInt x ≤ 9000000) ∧ X = M) := by
      intro nz167_
      induction nz167_ with
      | zero => intro i2z167_ i3z167_ h2z167_ h3z167_ j0z167_ j1z167_ j2z167_ j3z167_ hmz167_; exact absurd (zshow hmz167_) (Nat.not_lt_zero _)
      | succ nz167_ ihz167_ =>
        intro i2z167_ i3z167_ h2z167_ h3z167_ j0z167_ j1z167_ j2z167_ j3z167_ hmz167_
        refine pw_blk hT 4 (S' := (31, [some (pvR 124), some (pvI n1), some (pvI i2z167_), some (pvI i3z167_)], [pvR 124, pvI (M.1 124 3), pvI i3z167_], M)) rfl ⟨trivial, trivial, rfl, trivial, trivial⟩ ?_
        refine pw_callGp hT (as := [pvR 124]) (lo1 := [some (pvR 124)]) (d1 := d) (rest := [pvI (M.1 124 3), pvI i3z167_]) rfl rfl rfl rfl rfl (fun _ => rfl) (Nat.zero_le _) rfl rfl rfl (sf_X10_lastNow_124 M hok d) (fun x168_ b170_ => ?_)
        obtain ⟨q174_, b173_⟩ : (Int32.toInt ((M.1 124 3) + x168_) = Int32.toInt (M.1 124 3) + Int32.toInt x168_) ∧ (1 ≤ Int32.toInt ((M.1 124 3) + x168_) ∧ Int32.toInt ((M.1 124 3) + x168_) ≤ 207) := zadd_r (M.1 124 3) x168_ 1 207 b100_ b170_ (by decide) (by decide) (by decide) (by decide)
        refine pw_blk hT 1 (S' := (35, [some (pvR 124), some (pvI n1), some (pvI i2z167_), some (pvI i3z167_)], [pvI ((M.1 124 3) + x168_), pvI i3z167_], M)) rfl ⟨trivial, trivial⟩ ?_
        refine pw_ic hT (c := ((M.1 124 3) + x168_) ≤ i3z167_) rfl rfl (fun c175_ => ?_) (fun c175_ => ?_)
        · have d176_ : Int32.toInt ((M.1 124 3) + x168_) ≤ Int32.toInt i3z167_ := (zi_le _ _).mp c175_
          refine pw_blk hT 1 (S' := (54, [some (pvR 124), some (pvI n1), some (pvI i2z167_), some (pvI i3z167_)], [pvI i2z167_], M)) rfl ⟨trivial, trivial⟩ ?_
          exact pw_ret hT rfl (r := some (pvI i2z167_)) (M' := M) ⟨rfl, rfl⟩ ⟨⟨_, rfl, h2z167_⟩, rfl⟩
        · have b177_ : 2 ≤ Int32.toInt ((M.1 124 3) + x168_) ∧ Int32.toInt ((M.1 124 3) + x168_) ≤ 207 := zr_nle_l 2 c175_ b173_ h3z167_ (by decide)
          have b178_ : 1 ≤ Int32.toInt i3z167_ ∧ Int32.toInt i3z167_ ≤ 206 := zr_nle_r 206 c175_ h3z167_ b177_ (by decide)
          have d179_ : Int32.toInt ((M.1 124 3) + x168_) > Int32.toInt i3z167_ := Int.not_le.mp ((not_congr (zi_le _ _)).mp c175_)
          refine pw_blk hT 4 (S' := (42, [some (pvR 124), some (pvI n1), some (pvI i2z167_), some (pvI i3z167_)], [pvI i3z167_, pvI n1, pvR 124, pvI i2z167_], M)) rfl ⟨trivial, trivial, trivial, trivial, trivial⟩ ?_
          refine pw_callGp hT (as := [pvR 124, pvI n1, pvI i3z167_]) (lo1 := [some (pvR 124), some (pvI n1), some (pvI i3z167_), none, none]) (d1 := d) (rest := [pvI i2z167_]) rfl rfl rfl rfl rfl (fun _ => rfl) (Nat.zero_le _) rfl rfl rfl (sf_X10_harm_124_x_x M hok n1 i3z167_ hn1 (zr_wide b178_ (by decide) (by decide)) d) (fun x180_ b182_ => ?_)
          obtain ⟨q186_, b185_⟩ : (Int32.toInt (i2z167_ + x180_) = Int32.toInt i2z167_ + Int32.toInt x180_) ∧ (0 ≤ Int32.toInt (i2z167_ + x180_) ∧ Int32.toInt (i2z167_ + x180_) ≤ 9012009) := zadd_r i2z167_ x180_ 0 9012009 h2z167_ b182_ (by decide) (by decide) (by decide) (by decide)
          obtain ⟨q188_, b187_⟩ : (Int32.toInt (i3z167_ + 1) = Int32.toInt i3z167_ + 1) ∧ (2 ≤ Int32.toInt (i3z167_ + 1) ∧ Int32.toInt (i3z167_ + 1) ≤ 207) := zadd_k i3z167_ 1 1 2 207 b178_ (by decide) (by decide) (by decide) (by decide) (by decide)
          refine pw_blk hT 4 (S' := (25, [some (pvR 124), some (pvI n1), some (pvI (i2z167_ + x180_)), some (pvI (i3z167_ + 1))], [], M)) rfl ⟨trivial, trivial, trivial, trivial, trivial⟩ ?_
          have j189_ : Int32.toInt (i2z167_ + x180_) ≤ 90000 * (Int32.toInt (i3z167_ + 1) - Int32.toInt (M.1 124 3)) := by omega
          have j190_ : 0 ≤ Int32.toInt (i2z167_ + x180_) := by omega
          have j191_ : Int32.toInt (M.1 124 3) ≤ Int32.toInt (i3z167_ + 1) := by omega
          have j192_ : Int32.toInt (i3z167_ + 1) ≤ Int32.toInt (M.1 124 3) + 99 ∨ Int32.toInt (i2z167_ + x180_) = 0 := by omega
          exact ihz167_ (i2z167_ + x180_) (i3z167_ + 1) (by have u0 := b185_; omega) (zr_wide b187_ (by decide) (by decide)) j189_ j190_ j191_ j192_ (zhid (pvms_up (zshow hmz167_) h3z167_ q188_ (by decide) (by decide)))
    have u193_ : Int32.toInt 0 = 0 := by decide
    have j194_ : Int32.toInt 0 ≤ 90000 * (Int32.toInt (M.1 124 3) - Int32.toInt (M.1 124 3)) := by omega
    have j195_ : 0 ≤ Int32.toInt 0 := by omega
    have j196_ : Int32.toInt (M.1 124 3) ≤ Int32.toInt (M.1 124 3) := by omega
    have j197_ : Int32.toInt (M.1 124 3) ≤ Int32.toInt (M.1 124 3) + 99 ∨ Int32.toInt 0 = 0 := by omega
    exact hlz167_ _ 0 (M.1 124 3) (zr_wide (show 0 ≤ Int32.toInt 0 ∧ Int32.toInt 0 ≤ 0 from (by decide)) (by decide) (by decide)) (zr_wide b100_ (by decide) (by decide)) j194_ j195_ j196_ j197_ (zhid (Nat.lt_succ_self _))
def fpL_X10_from_124 : List (Nat × Nat × Nat) := [(0, 124, 33), (0, 124, 5), (0, 141, 0), (0, 142, 0), (0, 143, 0)]
def fp_X10_from_124 (q k : Nat) : Bool := pvfp fpL_X10_from_124 q k
theorem fp_X10_from_124_fp_X10_layOpen_124 (a b : Nat) (h : fp_X10_layOpen_124 a b = true) : fp_X10_from_124 a b = true := pvfp_sub (l1 := fpL_X10_layOpen_124) (l2 := fpL_X10_from_124) (by decide) a b h
theorem fp_X10_from_124_fp_X10_layRain_124 (a b : Nat) (h : fp_X10_layRain_124 a b = true) : fp_X10_from_124 a b = true := pvfp_sub (l1 := fpL_X10_layRain_124) (l2 := fpL_X10_from_124) (by decide) a b h
set_option maxHeartbeats 4000000 in
set_option maxRecDepth 10000 in
theorem sf_X10_from_124 (M : pvM) (hok : pvOk M) (hz : pvWF M) (d : Nat) : PW 22 d (0, [some (pvR 124), none, none, none, none], [], M) (fun r X => (∃ x : Int32, r = some (pvI x) ∧ True) ∧ pvOk X ∧ pvFr fp_X10_from_124 M X) := by
  have hT : pvdom 22 = pvD_22 := rfl
  have b1_ : 0 ≤ Int32.toInt (M.1 124 4) ∧ Int32.toInt (M.1 124 4) ≤ 4 := pvok_r hok 124 4 rfl
  refine pw_blk hT 6 (S' := (8, [some (pvR 124), some (pvI (M.1 124 4)), some (pvI 0), none, none], [pvR 124], M)) rfl ⟨trivial, rfl, trivial, trivial, trivial, trivial, trivial⟩ ?_
  refine pw_callV hT (as := [pvR 124]) (lo1 := [some (pvR 124), none]) (d1 := d) (rest := []) rfl rfl rfl rfl rfl (fun _ => rfl) (Nat.zero_le _) rfl rfl rfl (sf_X10_layOpen_124 M hok d) (fun M3_ o5_ g6_ => ?_)
  have f7_ : pvFr fp_X10_from_124 M M3_ := pvfr_t g6_ pvfr_0 fp_X10_from_124_fp_X10_layOpen_124
  refine pw_blkw hT 3 (pc := 16) (lo := [some (pvR 124), some (pvI (M.1 124 4)), some (pvI 0), none, none]) (st := []) (M := pvu M3_ 124 4 0) rfl ⟨trivial, trivial, rfl, trivial⟩ (fun M8_ e9_ => ?_)
  have o10_ : pvOk M8_ := pvok_u2 e9_ o5_ rfl (zr_wide (show 0 ≤ Int32.toInt 0 ∧ Int32.toInt 0 ≤ 0 from (by decide)) (by decide) (by decide))
  have f11_ : pvFr fp_X10_from_124 M M8_ := pvfr_u e9_ f7_ rfl
  have hlz553_ : ∀ (nz553_ : Nat) (i2z553_ : Int32) (v3z553_ : Option pvV) (v4z553_ : Option pvV) (Mz553_ : pvM), (pvOk Mz553_) → (pvFr fp_X10_from_124 M Mz553_) → (zhide ((5 - Int32.toInt (Mz553_.1 124 4)).toNat < nz553_)) → PW 22 d (16, [some (pvR 124), some (pvI (M.1 124 4)), some (pvI i2z553_), v3z553_, v4z553_], [], Mz553_) (fun r X => (∃ x : Int32, r = some (pvI x) ∧ True) ∧ pvOk X ∧ pvFr fp_X10_from_124 M X) := by
    intro nz553_
    induction nz553_ with
    | zero => intro i2z553_ v3z553_ v4z553_ Mz553_ oz553_ fz553_ hmz553_; exact absurd (zshow hmz553_) (Nat.not_lt_zero _)
    | succ nz553_ ihz553_ =>
      intro i2z553_ v3z553_ v4z553_ Mz553_ oz553_ fz553_ hmz553_
      have b554_ : 0 ≤ Int32.toInt (Mz553_.1 124 4) ∧ Int32.toInt (Mz553_.1 124 4) ≤ 4 := pvok_r oz553_ 124 4 rfl
      refine pw_blk hT 3 (S' := (21, [some (pvR 124), some (pvI (M.1 124 4)), some (pvI i2z553_), v3z553_, v4z553_], [pvI 4, pvI (Mz553_.1 124 4)], Mz553_)) rfl ⟨trivial, rfl, trivial, trivial⟩ ?_
      refine pw_ic hT (c := 4 ≤ (Mz553_.1 124 4)) rfl rfl (fun c555_ => ?_) (fun c555_ => ?_)
      · have b556_ : 4 ≤ Int32.toInt (Mz553_.1 124 4) ∧ Int32.toInt (Mz553_.1 124 4) ≤ 4 := zr_le_r 4 c555_ b554_ (show 4 ≤ Int32.toInt 4 ∧ Int32.toInt 4 ≤ 4 from (by decide)) (by decide)
        refine pw_blkw hT 3 (pc := 114) (lo := [some (pvR 124), some (pvI (M.1 124 4)), some (pvI i2z553_), v3z553_, v4z553_]) (st := []) (M := pvu Mz553_ 124 4 (M.1 124 4)) rfl ⟨trivial, trivial, rfl, trivial⟩ (fun M557_ e558_ => ?_)
        have o559_ : pvOk M557_ := pvok_u2 e558_ oz553_ rfl b1_
        have f560_ : pvFr fp_X10_from_124 M M557_ := pvfr_u e558_ fz553_ rfl
        refine pw_blk hT 1 (S' := (115, [some (pvR 124), some (pvI (M.1 124 4)), some (pvI i2z553_), v3z553_, v4z553_], [pvI i2z553_], M557_)) rfl ⟨trivial, trivial⟩ ?_
        exact pw_ret hT rfl (r := some (pvI i2z553_)) (M' := M557_) ⟨rfl, rfl⟩ ⟨⟨_, rfl, trivial⟩, o559_, f560_⟩
      · have b561_ : 0 ≤ Int32.toInt (Mz553_.1 124 4) ∧ Int32.toInt (Mz553_.1 124 4) ≤ 3 := zr_nle_r 3 c555_ b554_ (show 4 ≤ Int32.toInt 4 ∧ Int32.toInt 4 ≤ 4 from (by decide)) (by decide)
        refine pw_blk hT 1 (S' := (25, [some (pvR 124), some (pvI (M.1 124 4)), some (pvI i2z553_), v3z553_, v4z553_], [pvR 124], Mz553_)) rfl ⟨trivial, trivial⟩ ?_
        refine pw_callV hT (as := [pvR 124]) (lo1 := [some (pvR 124), none, none]) (d1 := d) (rest := []) rfl rfl rfl rfl rfl (fun _ => rfl) (Nat.zero_le _) rfl rfl rfl (sf_X10_layRain_124 Mz553_ oz553_ (pvWF_fr (L := fpL_X10_from_124) rfl fz553_ hz) d) (fun M563_ o565_ g566_ => ?_)
        have f567_ : pvFr fp_X10_from_124 M M563_ := pvfr_t g566_ fz553_ fp_X10_from_124_fp_X10_layRain_124
        refine pw_blk hT 4 (S' := (33, [some (pvR 124), some (pvI (M.1 124 4)), some (pvI i2z553_), some (pvI 1), some (pvI 0)], [], M563_)) rfl ⟨trivial, trivial, trivial, trivial, trivial⟩ ?_
        have e568_ : (M563_.1 124 4) = (Mz553_.1 124 4) := (g566_ 124 4 rfl)
        have b569_ : 0 ≤ Int32.toInt (M563_.1 124 4) ∧ Int32.toInt (M563_.1 124 4) ≤ 3 := (by rw [e568_]; exact b561_)
        have hlz689_ : ∀ (nz689_ : Nat) (i3z689_ : Int32) (i4z689_ : Int32), (0 ≤ Int32.toInt i3z689_ ∧ Int32.toInt i3z689_ ≤ 1) → (0 ≤ Int32.toInt i4z689_ ∧ Int32.toInt i4z689_ ≤ 6) → (zhide ((7 - Int32.toInt i4z689_).toNat < nz689_)) → PW 22 d (33, [some (pvR 124), some (pvI (M.1 124 4)), some (pvI i2z553_), some (pvI i3z689_), some (pvI i4z689_)], [], M563_) (fun r X => (∃ x : Int32, r = some (pvI x) ∧ True) ∧ pvOk X ∧ pvFr fp_X10_from_124 M X) := by
          intro nz689_
          induction nz689_ with
          | zero => intro i3z689_ i4z689_ h3z689_ h4z689_ hmz689_; exact absurd (zshow hmz689_) (Nat.not_lt_zero _)
          | succ nz689_ ihz689_ =>
            intro i3z689_ i4z689_ h3z689_ h4z689_ hmz689_
            have b690_ : 0 ≤ Int32.toInt (M563_.1 124 40) ∧ Int32.toInt (M563_.1 124 40) ≤ 6 := pvok_r o565_ 124 40 rfl
            refine pw_blk hT 3 (S' := (39, [some (pvR 124), some (pvI (M.1 124 4)), some (pvI i2z553_), some (pvI i3z689_), some (pvI i4z689_)], [pvI (M563_.1 124 40), pvI i4z689_], M563_)) rfl ⟨trivial, trivial, rfl, trivial⟩ ?_
            refine pw_ic hT (c := (M563_.1 124 40) ≤ i4z689_) rfl rfl (fun c691_ => ?_) (fun c691_ => ?_)
            · have d692_ : Int32.toInt (M563_.1 124 40) ≤ Int32.toInt i4z689_ := (zi_le _ _).mp c691_
              refine pw_blk hT 2 (S' := (81, [some (pvR 124), some (pvI (M.1 124 4)), some (pvI i2z553_), some (pvI i3z689_), some (pvI i4z689_)], [pvI i3z689_, pvI i2z553_], M563_)) rfl ⟨trivial, trivial, trivial⟩ ?_
              refine pw_if hT (c := i3z689_ = 0) rfl rfl (fun c693_ => ?_) (fun c693_ => ?_)
              · have b694_ : 0 ≤ Int32.toInt i3z689_ ∧ Int32.toInt i3z689_ ≤ 0 := (by have u0 := h3z689_; have u1 := (zi_eq _ _).mp c693_; have u2 := (show 0 ≤ Int32.toInt 0 ∧ Int32.toInt 0 ≤ 0 from (by decide)); omega)
                obtain ⟨q696_, b695_⟩ : (Int32.toInt ((M563_.1 124 4) + 1) = Int32.toInt (M563_.1 124 4) + 1) ∧ (1 ≤ Int32.toInt ((M563_.1 124 4) + 1) ∧ Int32.toInt ((M563_.1 124 4) + 1) ≤ 4) := zadd_k (M563_.1 124 4) 1 1 1 4 b569_ (by decide) (by decide) (by decide) (by decide) (by decide)
                refine pw_blkw hT 9 (pc := 106) (lo := [some (pvR 124), some (pvI (M.1 124 4)), some (pvI (i2z553_ ||| 0)), some (pvI i3z689_), some (pvI i4z689_)]) (st := []) (M := pvu M563_ 124 4 ((M563_.1 124 4) + 1)) rfl ⟨trivial, trivial, trivial, trivial, trivial, rfl, trivial, trivial, rfl, trivial⟩ (fun M697_ e698_ => ?_)
                have o699_ : pvOk M697_ := pvok_u2 e698_ o565_ rfl (zr_wide b695_ (by decide) (by decide))
                have f700_ : pvFr fp_X10_from_124 M M697_ := pvfr_u e698_ f567_ rfl
                refine pw_blk hT 1 (S' := (16, [some (pvR 124), some (pvI (M.1 124 4)), some (pvI (i2z553_ ||| 0)), some (pvI i3z689_), some (pvI i4z689_)], [], M697_)) rfl ⟨trivial, trivial⟩ ?_
                exact ihz553_ (i2z553_ ||| 0) (some (pvI i3z689_)) (some (pvI i4z689_)) M697_ o699_ f700_ (zhid (by have hm0 := zshow hmz553_; have z1 : Int32.toInt (M697_.1 124 4) = Int32.toInt ((M563_.1 124 4) + 1) := congrArg Int32.toInt (pvu_s e698_); have z2 : Int32.toInt (M563_.1 124 4) = Int32.toInt (Mz553_.1 124 4) := congrArg Int32.toInt (g566_ 124 4 rfl); omega))
              · have b701_ : 1 ≤ Int32.toInt i3z689_ ∧ Int32.toInt i3z689_ ≤ 1 := (by have u0 := h3z689_; have u1 := (not_congr (zi_eq _ _)).mp c693_; have u2 := (show 0 ≤ Int32.toInt 0 ∧ Int32.toInt 0 ≤ 0 from (by decide)); omega)
                obtain ⟨q703_, b702_⟩ : (Int32.toInt ((M563_.1 124 4) + 1) = Int32.toInt (M563_.1 124 4) + 1) ∧ (1 ≤ Int32.toInt ((M563_.1 124 4) + 1) ∧ Int32.toInt ((M563_.1 124 4) + 1) ≤ 4) := zadd_k (M563_.1 124 4) 1 1 1 4 b569_ (by decide) (by decide) (by decide) (by decide) (by decide)
                refine pw_blkw hT 13 (pc := 106) (lo := [some (pvR 124), some (pvI (M.1 124 4)), some (pvI (i2z553_ ||| (1 <<< ((M563_.1 124 4) &&& 31)))), some (pvI i3z689_), some (pvI i4z689_)]) (st := []) (M := pvu M563_ 124 4 ((M563_.1 124 4) + 1)) rfl ⟨trivial, trivial, rfl, trivial, trivial, trivial, trivial, trivial, trivial, rfl, trivial, trivial, rfl, trivial⟩ (fun M704_ e705_ => ?_)
                have o706_ : pvOk M704_ := pvok_u2 e705_ o565_ rfl (zr_wide b702_ (by decide) (by decide))
                have f707_ : pvFr fp_X10_from_124 M M704_ := pvfr_u e705_ f567_ rfl
                refine pw_blk hT 1 (S' := (16, [some (pvR 124), some (pvI (M.1 124 4)), some (pvI (i2z553_ ||| (1 <<< ((M563_.1 124 4) &&& 31)))), some (pvI i3z689_), some (pvI i4z689_)], [], M704_)) rfl ⟨trivial, trivial⟩ ?_
                exact ihz553_ (i2z553_ ||| (1 <<< ((M563_.1 124 4) &&& 31))) (some (pvI i3z689_)) (some (pvI i4z689_)) M704_ o706_ f707_ (zhid (by have hm0 := zshow hmz553_; have z1 : Int32.toInt (M704_.1 124 4) = Int32.toInt ((M563_.1 124 4) + 1) := congrArg Int32.toInt (pvu_s e705_); have z2 : Int32.toInt (M563_.1 124 4) = Int32.toInt (Mz553_.1 124 4) := congrArg Int32.toInt (g566_ 124 4 rfl); omega))
            · have b708_ : 1 ≤ Int32.toInt (M563_.1 124 40) ∧ Int32.toInt (M563_.1 124 40) ≤ 6 := zr_nle_l 1 c691_ b690_ h4z689_ (by decide)
              have b709_ : 0 ≤ Int32.toInt i4z689_ ∧ Int32.toInt i4z689_ ≤ 5 := zr_nle_r 5 c691_ h4z689_ b708_ (by decide)
              have d710_ : Int32.toInt (M563_.1 124 40) > Int32.toInt i4z689_ := Int.not_le.mp ((not_congr (zi_le _ _)).mp c691_)
              refine pw_blk hT 1 (S' := (43, [some (pvR 124), some (pvI (M.1 124 4)), some (pvI i2z553_), some (pvI i3z689_), some (pvI i4z689_)], [pvI i3z689_], M563_)) rfl ⟨trivial, trivial⟩ ?_
              refine pw_if hT (c := i3z689_ = 0) rfl rfl (fun c711_ => ?_) (fun c711_ => ?_)
              · have b712_ : 0 ≤ Int32.toInt i3z689_ ∧ Int32.toInt i3z689_ ≤ 0 := (by have u0 := h3z689_; have u1 := (zi_eq _ _).mp c711_; have u2 := (show 0 ≤ Int32.toInt 0 ∧ Int32.toInt 0 ≤ 0 from (by decide)); omega)
                refine pw_blk hT 2 (S' := (81, [some (pvR 124), some (pvI (M.1 124 4)), some (pvI i2z553_), some (pvI i3z689_), some (pvI i4z689_)], [pvI i3z689_, pvI i2z553_], M563_)) rfl ⟨trivial, trivial, trivial⟩ ?_
                refine pw_if hT (c := i3z689_ = 0) rfl rfl (fun c713_ => ?_) (fun c713_ => absurd c711_ c713_)
                obtain ⟨q715_, b714_⟩ : (Int32.toInt ((M563_.1 124 4) + 1) = Int32.toInt (M563_.1 124 4) + 1) ∧ (1 ≤ Int32.toInt ((M563_.1 124 4) + 1) ∧ Int32.toInt ((M563_.1 124 4) + 1) ≤ 4) := zadd_k (M563_.1 124 4) 1 1 1 4 b569_ (by decide) (by decide) (by decide) (by decide) (by decide)
                refine pw_blkw hT 9 (pc := 106) (lo := [some (pvR 124), some (pvI (M.1 124 4)), some (pvI (i2z553_ ||| 0)), some (pvI i3z689_), some (pvI i4z689_)]) (st := []) (M := pvu M563_ 124 4 ((M563_.1 124 4) + 1)) rfl ⟨trivial, trivial, trivial, trivial, trivial, rfl, trivial, trivial, rfl, trivial⟩ (fun M716_ e717_ => ?_)
                have o718_ : pvOk M716_ := pvok_u2 e717_ o565_ rfl (zr_wide b714_ (by decide) (by decide))
                have f719_ : pvFr fp_X10_from_124 M M716_ := pvfr_u e717_ f567_ rfl
                refine pw_blk hT 1 (S' := (16, [some (pvR 124), some (pvI (M.1 124 4)), some (pvI (i2z553_ ||| 0)), some (pvI i3z689_), some (pvI i4z689_)], [], M716_)) rfl ⟨trivial, trivial⟩ ?_
                exact ihz553_ (i2z553_ ||| 0) (some (pvI i3z689_)) (some (pvI i4z689_)) M716_ o718_ f719_ (zhid (by have hm0 := zshow hmz553_; have z1 : Int32.toInt (M716_.1 124 4) = Int32.toInt ((M563_.1 124 4) + 1) := congrArg Int32.toInt (pvu_s e717_); have z2 : Int32.toInt (M563_.1 124 4) = Int32.toInt (Mz553_.1 124 4) := congrArg Int32.toInt (g566_ 124 4 rfl); omega))
              · have b720_ : 1 ≤ Int32.toInt i3z689_ ∧ Int32.toInt i3z689_ ≤ 1 := (by have u0 := h3z689_; have u1 := (not_congr (zi_eq _ _)).mp c711_; have u2 := (show 0 ≤ Int32.toInt 0 ∧ Int32.toInt 0 ≤ 0 from (by decide)); omega)
                have b721_ : 0 ≤ Int32.toInt (M563_.1 147 (Int32.toNatClampNeg i4z689_)) ∧ Int32.toInt (M563_.1 147 (Int32.toNatClampNeg i4z689_)) ≤ 6 := pvok_r o565_ 147 (Int32.toNatClampNeg i4z689_) rfl
                refine pw_blk hT 5 (S' := (54, [some (pvR 124), some (pvI (M.1 124 4)), some (pvI i2z553_), some (pvI i3z689_), some (pvI i4z689_)], [pvI (M563_.1 147 (Int32.toNatClampNeg i4z689_)), pvR 124], M563_)) rfl ⟨trivial, trivial, rfl, trivial, ⟨rfl, (zr_in (n := 6) b709_ (by decide) (by decide))⟩, trivial⟩ ?_
                refine pw_callGp hT (as := [pvR 124, pvI (M563_.1 147 (Int32.toNatClampNeg i4z689_))]) (lo1 := [some (pvR 124), some (pvI (M563_.1 147 (Int32.toNatClampNeg i4z689_))), none, none]) (d1 := d) (rest := []) rfl rfl rfl rfl rfl (fun _ => rfl) (Nat.zero_le _) rfl rfl rfl (sf_X10_harmOf_124_x M563_ o565_ (M563_.1 147 (Int32.toNatClampNeg i4z689_)) b721_ d) (fun x722_ b724_ => ?_)
                have b727_ : 0 ≤ Int32.toInt (M563_.1 148 (Int32.toNatClampNeg i4z689_)) ∧ Int32.toInt (M563_.1 148 (Int32.toNatClampNeg i4z689_)) ≤ 9999 := pvok_r o565_ 148 (Int32.toNatClampNeg i4z689_) rfl
                refine pw_blk hT 4 (S' := (64, [some (pvR 124), some (pvI (M.1 124 4)), some (pvI i2z553_), some (pvI i3z689_), some (pvI i4z689_)], [pvI (M563_.1 148 (Int32.toNatClampNeg i4z689_)), pvI x722_], M563_)) rfl ⟨trivial, rfl, trivial, ⟨rfl, (zr_in (n := 6) b709_ (by decide) (by decide))⟩, trivial⟩ ?_
                refine pw_icn hT (c := x722_ = (M563_.1 148 (Int32.toNatClampNeg i4z689_))) rfl rfl (fun c728_ => ?_) (fun c728_ => ?_)
                · obtain ⟨q730_, b729_⟩ : (Int32.toInt (i4z689_ + 1) = Int32.toInt i4z689_ + 1) ∧ (1 ≤ Int32.toInt (i4z689_ + 1) ∧ Int32.toInt (i4z689_ + 1) ≤ 6) := zadd_k i4z689_ 1 1 1 6 b709_ (by decide) (by decide) (by decide) (by decide) (by decide)
                  refine pw_blk hT 4 (S' := (33, [some (pvR 124), some (pvI (M.1 124 4)), some (pvI i2z553_), some (pvI 0), some (pvI (i4z689_ + 1))], [], M563_)) rfl ⟨trivial, trivial, trivial, trivial, trivial⟩ ?_
                  exact ihz689_ 0 (i4z689_ + 1) (zr_wide (show 0 ≤ Int32.toInt 0 ∧ Int32.toInt 0 ≤ 0 from (by decide)) (by decide) (by decide)) (zr_wide b729_ (by decide) (by decide)) (zhid (pvms_up (zshow hmz689_) h4z689_ q730_ (by decide) (by decide)))
                · have b731_ : 0 ≤ Int32.toInt x722_ ∧ Int32.toInt x722_ ≤ 9999 := (by have u0 := b724_; have u1 := (zi_eq _ _).mp c728_; have u2 := b727_; omega)
                  have d732_ : Int32.toInt x722_ = Int32.toInt (M563_.1 148 (Int32.toNatClampNeg i4z689_)) := (zi_eq _ _).mp c728_
                  obtain ⟨q734_, b733_⟩ : (Int32.toInt (i4z689_ + 1) = Int32.toInt i4z689_ + 1) ∧ (1 ≤ Int32.toInt (i4z689_ + 1) ∧ Int32.toInt (i4z689_ + 1) ≤ 6) := zadd_k i4z689_ 1 1 1 6 b709_ (by decide) (by decide) (by decide) (by decide) (by decide)
                  refine pw_blk hT 5 (S' := (33, [some (pvR 124), some (pvI (M.1 124 4)), some (pvI i2z553_), some (pvI 1), some (pvI (i4z689_ + 1))], [], M563_)) rfl ⟨trivial, trivial, trivial, trivial, trivial, trivial⟩ ?_
                  exact ihz689_ 1 (i4z689_ + 1) (zr_wide (show 1 ≤ Int32.toInt 1 ∧ Int32.toInt 1 ≤ 1 from (by decide)) (by decide) (by decide)) (zr_wide b733_ (by decide) (by decide)) (zhid (pvms_up (zshow hmz689_) h4z689_ q734_ (by decide) (by decide)))
        exact hlz689_ _ 1 0 (zr_wide (show 1 ≤ Int32.toInt 1 ∧ Int32.toInt 1 ≤ 1 from (by decide)) (by decide) (by decide)) (zr_wide (show 0 ≤ Int32.toInt 0 ∧ Int32.toInt 0 ≤ 0 from (by decide)) (by decide) (by decide)) (zhid (Nat.lt_succ_self _))
  exact hlz553_ _ 0 none none M8_ o10_ f11_ (zhid (Nat.lt_succ_self _))
def fpL_X10_goMinutes_124_x : List (Nat × Nat × Nat) := [(0, 124, 2), (0, 124, 3), (0, 124, 33), (0, 141, 0), (0, 142, 0), (0, 143, 0)]
def fp_X10_goMinutes_124_x (q k : Nat) : Bool := pvfp fpL_X10_goMinutes_124_x q k
theorem fp_X10_goMinutes_124_x_fp_X10_layOpen_124 (a b : Nat) (h : fp_X10_layOpen_124 a b = true) : fp_X10_goMinutes_124_x a b = true := pvfp_sub (l1 := fpL_X10_layOpen_124) (l2 := fpL_X10_goMinutes_124_x) (by decide) a b h
theorem fp_X10_goMinutes_124_x_fp_X10_layRain_124 (a b : Nat) (h : fp_X10_layRain_124 a b = true) : fp_X10_goMinutes_124_x a b = true := pvfp_sub (l1 := fpL_X10_layRain_124) (l2 := fpL_X10_goMinutes_124_x) (by decide) a b h
set_option maxHeartbeats 4000000 in
set_option maxRecDepth 10000 in
theorem sf_X10_goMinutes_124_x (M : pvM) (hok : pvOk M) (n1 : Int32) (hn1 : 0 ≤ Int32.toInt n1 ∧ Int32.toInt n1 ≤ 9999) (hz : pvWF M) (hx0 : Int32.toInt (M.1 124 1) + Int32.toInt n1 ≤ 9999) (d : Nat) : PW 23 d (0, [some (pvR 124), some (pvI n1), none], [], M) (fun r X => (∃ x : Int32, r = some (pvI x) ∧ 0 ≤ Int32.toInt x ∧ Int32.toInt x ≤ 9000000) ∧ pvOk X ∧ pvFr fp_X10_goMinutes_124_x M X) := by
  have hT : pvdom 23 = pvD_23 := rfl
  have b1_ : 0 ≤ Int32.toInt (M.1 124 1) ∧ Int32.toInt (M.1 124 1) ≤ 9999 := pvok_r hok 124 1 rfl
  refine pw_blk hT 1 (S' := (1, [some (pvR 124), some (pvI n1), none], [pvR 124], M)) rfl ⟨trivial, trivial⟩ ?_
  refine pw_callV hT (as := [pvR 124]) (lo1 := [some (pvR 124), none, none]) (d1 := d) (rest := []) rfl rfl rfl rfl rfl (fun _ => rfl) (Nat.zero_le _) rfl rfl rfl (sf_X10_layRain_124 M hok hz d) (fun M3_ o5_ g6_ => ?_)
  have f7_ : pvFr fp_X10_goMinutes_124_x M M3_ := pvfr_t g6_ pvfr_0 fp_X10_goMinutes_124_x_fp_X10_layRain_124
  refine pw_blk hT 1 (S' := (5, [some (pvR 124), some (pvI n1), none], [pvR 124], M3_)) rfl ⟨trivial, trivial⟩ ?_
  refine pw_callV hT (as := [pvR 124]) (lo1 := [some (pvR 124), none]) (d1 := d) (rest := []) rfl rfl rfl rfl rfl (fun _ => rfl) (Nat.zero_le _) rfl rfl rfl (sf_X10_layOpen_124 M3_ o5_ d) (fun M9_ o11_ g12_ => ?_)
  have f13_ : pvFr fp_X10_goMinutes_124_x M M9_ := pvfr_t g12_ f7_ fp_X10_goMinutes_124_x_fp_X10_layOpen_124
  have e14_ : (M9_.1 124 1) = (M.1 124 1) := ((g12_ 124 1 rfl).trans (g6_ 124 1 rfl))
  have b15_ : 0 ≤ Int32.toInt (M9_.1 124 1) ∧ Int32.toInt (M9_.1 124 1) ≤ 9999 := pvok_r o11_ 124 1 rfl
  have d16_ : Int32.toInt (M9_.1 124 1) = Int32.toInt (M.1 124 1) := congrArg Int32.toInt e14_
  obtain ⟨q18_, b17_⟩ : (Int32.toInt ((M9_.1 124 1) + n1) = Int32.toInt (M9_.1 124 1) + Int32.toInt n1) ∧ (0 ≤ Int32.toInt ((M9_.1 124 1) + n1) ∧ Int32.toInt ((M9_.1 124 1) + n1) ≤ 19998) := zadd_r (M9_.1 124 1) n1 0 19998 b15_ hn1 (by decide) (by decide) (by decide) (by decide)
  refine pw_blk hT 7 (S' := (19, [some (pvR 124), some (pvI n1), none], [pvI ((M9_.1 124 1) + n1), pvI (M9_.1 124 1), pvR 124], M9_)) rfl ⟨trivial, trivial, rfl, trivial, rfl, trivial, trivial, trivial⟩ ?_
  refine pw_callGp hT (as := [pvR 124, pvI (M9_.1 124 1), pvI ((M9_.1 124 1) + n1)]) (lo1 := [some (pvR 124), some (pvI (M9_.1 124 1)), some (pvI ((M9_.1 124 1) + n1)), none, none]) (d1 := d) (rest := []) rfl rfl rfl rfl rfl (fun _ => rfl) (Nat.zero_le _) rfl rfl rfl (sf_X10_harmFrom_124_x_x M9_ o11_ (M9_.1 124 1) ((M9_.1 124 1) + n1) (zr_wide b15_ (by decide) (by decide)) (zr_wide b17_ (by decide) (by decide)) d) (fun x19_ b21_ => ?_)
  have b24_ : 0 ≤ Int32.toInt (M9_.1 124 2) ∧ Int32.toInt (M9_.1 124 2) ≤ 999999 := pvok_r o11_ 124 2 rfl
  obtain ⟨q26_, b25_⟩ : (Int32.toInt ((M9_.1 124 2) + x19_) = Int32.toInt (M9_.1 124 2) + Int32.toInt x19_) ∧ (0 ≤ Int32.toInt ((M9_.1 124 2) + x19_) ∧ Int32.toInt ((M9_.1 124 2) + x19_) ≤ 9999999) := zadd_r (M9_.1 124 2) x19_ 0 9999999 b24_ b21_ (by decide) (by decide) (by decide) (by decide)
  refine pw_blk hT 7 (S' := (33, [some (pvR 124), some (pvI n1), some (pvI x19_)], [pvI 999999, pvI ((M9_.1 124 2) + x19_), pvR 124], M9_)) rfl ⟨trivial, trivial, trivial, rfl, trivial, trivial, trivial, trivial⟩ ?_
  refine pw_ic hT (c := ((M9_.1 124 2) + x19_) ≤ 999999) rfl rfl (fun c27_ => ?_) (fun c27_ => ?_)
  · have b28_ : 0 ≤ Int32.toInt ((M9_.1 124 2) + x19_) ∧ Int32.toInt ((M9_.1 124 2) + x19_) ≤ 999999 := zr_le_l 999999 c27_ b25_ (show 999999 ≤ Int32.toInt 999999 ∧ Int32.toInt 999999 ≤ 999999 from (by decide)) (by decide)
    refine pw_blkw hT 5 (pc := 51) (lo := [some (pvR 124), some (pvI n1), some (pvI x19_)]) (st := []) (M := pvu M9_ 124 2 ((M9_.1 124 2) + x19_)) rfl ⟨trivial, rfl, trivial, trivial, rfl, trivial⟩ (fun M29_ e30_ => ?_)
    have o31_ : pvOk M29_ := pvok_u2 e30_ o11_ rfl b28_
    have f32_ : pvFr fp_X10_goMinutes_124_x M M29_ := pvfr_u e30_ f13_ rfl
    have e33_ : (M29_.1 124 1) = (M9_.1 124 1) := (pvu_n e30_ 124 1 (Or.inr (by decide)))
    have b34_ : 0 ≤ Int32.toInt (M29_.1 124 1) ∧ Int32.toInt (M29_.1 124 1) ≤ 9999 := pvok_r o31_ 124 1 rfl
    have d35_ : Int32.toInt (M29_.1 124 1) = Int32.toInt (M9_.1 124 1) := congrArg Int32.toInt e33_
    obtain ⟨q37_, b36_⟩ : (Int32.toInt ((M29_.1 124 1) + n1) = Int32.toInt (M29_.1 124 1) + Int32.toInt n1) ∧ (0 ≤ Int32.toInt ((M29_.1 124 1) + n1) ∧ Int32.toInt ((M29_.1 124 1) + n1) ≤ 19998) := zadd_r (M29_.1 124 1) n1 0 19998 b34_ hn1 (by decide) (by decide) (by decide) (by decide)
    refine pw_blkw hT 6 (pc := 61) (lo := [some (pvR 124), some (pvI n1), some (pvI x19_)]) (st := []) (M := pvu M29_ 124 1 ((M29_.1 124 1) + n1)) rfl ⟨trivial, trivial, rfl, trivial, trivial, rfl, trivial⟩ (fun M38_ e39_ => ?_)
    have o40_ : pvOk M38_ := pvok_u2 e39_ o31_ rfl (by have u0 := b36_; omega)
    have f41_ : pvFr fp_X10_goMinutes_124_x M M38_ := pvfr_u e39_ f32_ rfl
    refine pw_blk hT 1 (S' := (62, [some (pvR 124), some (pvI n1), some (pvI x19_)], [pvI x19_], M38_)) rfl ⟨trivial, trivial⟩ ?_
    exact pw_ret hT rfl (r := some (pvI x19_)) (M' := M38_) ⟨rfl, rfl⟩ ⟨⟨_, rfl, b21_⟩, o40_, f41_⟩
  · have b42_ : 1000000 ≤ Int32.toInt ((M9_.1 124 2) + x19_) ∧ Int32.toInt ((M9_.1 124 2) + x19_) ≤ 9999999 := zr_nle_l 1000000 c27_ b25_ (show 999999 ≤ Int32.toInt 999999 ∧ Int32.toInt 999999 ≤ 999999 from (by decide)) (by decide)
    refine pw_blkw hT 3 (pc := 51) (lo := [some (pvR 124), some (pvI n1), some (pvI x19_)]) (st := []) (M := pvu M9_ 124 2 999999) rfl ⟨trivial, trivial, rfl, trivial⟩ (fun M43_ e44_ => ?_)
    have o45_ : pvOk M43_ := pvok_u2 e44_ o11_ rfl (zr_wide (show 999999 ≤ Int32.toInt 999999 ∧ Int32.toInt 999999 ≤ 999999 from (by decide)) (by decide) (by decide))
    have f46_ : pvFr fp_X10_goMinutes_124_x M M43_ := pvfr_u e44_ f13_ rfl
    have e47_ : (M43_.1 124 1) = (M9_.1 124 1) := (pvu_n e44_ 124 1 (Or.inr (by decide)))
    have b48_ : 0 ≤ Int32.toInt (M43_.1 124 1) ∧ Int32.toInt (M43_.1 124 1) ≤ 9999 := pvok_r o45_ 124 1 rfl
    have d49_ : Int32.toInt (M43_.1 124 1) = Int32.toInt (M9_.1 124 1) := congrArg Int32.toInt e47_
    obtain ⟨q51_, b50_⟩ : (Int32.toInt ((M43_.1 124 1) + n1) = Int32.toInt (M43_.1 124 1) + Int32.toInt n1) ∧ (0 ≤ Int32.toInt ((M43_.1 124 1) + n1) ∧ Int32.toInt ((M43_.1 124 1) + n1) ≤ 19998) := zadd_r (M43_.1 124 1) n1 0 19998 b48_ hn1 (by decide) (by decide) (by decide) (by decide)
    refine pw_blkw hT 6 (pc := 61) (lo := [some (pvR 124), some (pvI n1), some (pvI x19_)]) (st := []) (M := pvu M43_ 124 1 ((M43_.1 124 1) + n1)) rfl ⟨trivial, trivial, rfl, trivial, trivial, rfl, trivial⟩ (fun M52_ e53_ => ?_)
    have o54_ : pvOk M52_ := pvok_u2 e53_ o45_ rfl (by have u0 := b50_; omega)
    have f55_ : pvFr fp_X10_goMinutes_124_x M M52_ := pvfr_u e53_ f46_ rfl
    refine pw_blk hT 1 (S' := (62, [some (pvR 124), some (pvI n1), some (pvI x19_)], [pvI x19_], M52_)) rfl ⟨trivial, trivial⟩ ?_
    exact pw_ret hT rfl (r := some (pvI x19_)) (M' := M52_) ⟨rfl, rfl⟩ ⟨⟨_, rfl, b21_⟩, o54_, f55_⟩
set_option maxHeartbeats 4000000 in
set_option maxRecDepth 10000 in
theorem sf_X10_peek_124 (M : pvM) (hok : pvOk M) (d : Nat) : PW 64 d (0, [some (pvR 124)], [], M) (fun r X => r = some (pvI ((if (M.1 124 16) ≤ (M.1 124 17) then (-1) else (M.1 132 (Int32.toNatClampNeg (M.1 124 17)))))) ∧ X = M) := by
  have hT : pvdom 64 = pvD_64 := rfl
  have b1_ : 0 ≤ Int32.toInt (M.1 124 17) ∧ Int32.toInt (M.1 124 17) ≤ 100 := pvok_r hok 124 17 rfl
  have b2_ : 0 ≤ Int32.toInt (M.1 124 16) ∧ Int32.toInt (M.1 124 16) ≤ 100 := pvok_r hok 124 16 rfl
  refine pw_blk hT 4 (S' := (8, [some (pvR 124)], [pvI (M.1 124 16), pvI (M.1 124 17)], M)) rfl ⟨trivial, rfl, trivial, rfl, trivial⟩ ?_
  refine pw_ic hT (c := (M.1 124 16) ≤ (M.1 124 17)) rfl rfl (fun c3_ => ?_) (fun c3_ => ?_)
  · have d4_ : Int32.toInt (M.1 124 16) ≤ Int32.toInt (M.1 124 17) := (zi_le _ _).mp c3_
    refine pw_blk hT 1 (S' := (24, [some (pvR 124)], [pvI (-1)], M)) rfl ⟨trivial, trivial⟩ ?_
    exact pw_ret hT rfl (r := some (pvI (-1))) (M' := M) ⟨rfl, rfl⟩ ⟨(by rw [if_pos c3_]), rfl⟩
  · have b5_ : 1 ≤ Int32.toInt (M.1 124 16) ∧ Int32.toInt (M.1 124 16) ≤ 100 := zr_nle_l 1 c3_ b2_ b1_ (by decide)
    have b6_ : 0 ≤ Int32.toInt (M.1 124 17) ∧ Int32.toInt (M.1 124 17) ≤ 99 := zr_nle_r 99 c3_ b1_ b5_ (by decide)
    have d7_ : Int32.toInt (M.1 124 16) > Int32.toInt (M.1 124 17) := Int.not_le.mp ((not_congr (zi_le _ _)).mp c3_)
    have b8_ : 0 ≤ Int32.toInt (M.1 132 (Int32.toNatClampNeg (M.1 124 17))) ∧ Int32.toInt (M.1 132 (Int32.toNatClampNeg (M.1 124 17))) ≤ 127 := pvok_r hok 132 (Int32.toNatClampNeg (M.1 124 17)) rfl
    refine pw_blk hT 6 (S' := (24, [some (pvR 124)], [pvI (M.1 132 (Int32.toNatClampNeg (M.1 124 17)))], M)) rfl ⟨trivial, rfl, trivial, rfl, ⟨rfl, (zr_in (n := 100) b6_ (by decide) (by decide))⟩, trivial, trivial⟩ ?_
    exact pw_ret hT rfl (r := some (pvI (M.1 132 (Int32.toNatClampNeg (M.1 124 17))))) (M' := M) ⟨rfl, rfl⟩ ⟨(by rw [if_neg c3_]), rfl⟩
def fpL_X10_takes_124_x : List (Nat × Nat × Nat) := [(0, 124, 18)]
def fp_X10_takes_124_x (q k : Nat) : Bool := pvfp fpL_X10_takes_124_x q k
set_option maxHeartbeats 4000000 in
set_option maxRecDepth 10000 in
theorem sf_X10_takes_124_x (M : pvM) (hok : pvOk M) (n1 : Int32) (hn1 : 0 ≤ Int32.toInt n1 ∧ Int32.toInt n1 ≤ 127) (d : Nat) : PW 82 d (0, [some (pvR 124), some (pvI n1)], [], M) (fun r X => (∃ x : Int32, r = some (pvI x) ∧ 0 ≤ Int32.toInt x ∧ Int32.toInt x ≤ 1) ∧ pvOk X ∧ pvFr fp_X10_takes_124_x M X ∧ Int32.toInt (M.1 124 17) ≤ Int32.toInt (X.1 124 17)) := by
  have hT : pvdom 82 = pvD_82 := rfl
  refine pw_blk hT 1 (S' := (1, [some (pvR 124), some (pvI n1)], [pvR 124], M)) rfl ⟨trivial, trivial⟩ ?_
  refine pw_callT hT (as := [pvR 124]) (lo1 := [some (pvR 124)]) (d1 := d) (rest := []) rfl rfl rfl rfl rfl (fun _ => rfl) (Nat.zero_le _) rfl rfl rfl (sf_X10_peek_124 M hok d) ?_
  have b6_ : 0 ≤ Int32.toInt (M.1 124 16) ∧ Int32.toInt (M.1 124 16) ≤ 100 := pvok_r hok 124 16 rfl
  have b7_ : 0 ≤ Int32.toInt (M.1 124 17) ∧ Int32.toInt (M.1 124 17) ≤ 100 := pvok_r hok 124 17 rfl
  by_cases c8_ : (M.1 124 16) ≤ (M.1 124 17)
  · refine pw_eqI (if_pos c8_) ?_
    have d9_ : Int32.toInt (M.1 124 16) ≤ Int32.toInt (M.1 124 17) := (zi_le _ _).mp c8_
    show PW 82 d (4, [some (pvR 124), some (pvI n1)], [pvI (-1)], M) _
    refine pw_blk hT 1 (S' := (5, [some (pvR 124), some (pvI n1)], [pvI n1, pvI (-1)], M)) rfl ⟨trivial, trivial⟩ ?_
    refine pw_ic hT (c := (-1) = n1) rfl rfl (fun c10_ => absurd c10_ (by have z0 := (show (-1) ≤ Int32.toInt (-1) ∧ Int32.toInt (-1) ≤ (-1) from (by decide)); have z1 := hn1; rw [zi_eq]; omega)) (fun c10_ => ?_)
    refine pw_blk hT 1 (S' := (9, [some (pvR 124), some (pvI n1)], [pvI 0], M)) rfl ⟨trivial, trivial⟩ ?_
    exact pw_ret hT rfl (r := some (pvI 0)) (M' := M) ⟨Or.inl rfl, rfl, rfl⟩ ⟨⟨_, rfl, (zr_wide (show 0 ≤ Int32.toInt 0 ∧ Int32.toInt 0 ≤ 0 from (by decide)) (by decide) (by decide))⟩, hok, pvfr_0, (by omega)⟩
  · refine pw_eqI (if_neg c8_) ?_
    have b11_ : 1 ≤ Int32.toInt (M.1 124 16) ∧ Int32.toInt (M.1 124 16) ≤ 100 := zr_nle_l 1 c8_ b6_ b7_ (by decide)
    have b12_ : 0 ≤ Int32.toInt (M.1 124 17) ∧ Int32.toInt (M.1 124 17) ≤ 99 := zr_nle_r 99 c8_ b7_ b11_ (by decide)
    have d13_ : Int32.toInt (M.1 124 16) > Int32.toInt (M.1 124 17) := Int.not_le.mp ((not_congr (zi_le _ _)).mp c8_)
    have b14_ : 0 ≤ Int32.toInt (M.1 132 (Int32.toNatClampNeg (M.1 124 17))) ∧ Int32.toInt (M.1 132 (Int32.toNatClampNeg (M.1 124 17))) ≤ 127 := pvok_r hok 132 (Int32.toNatClampNeg (M.1 124 17)) rfl
    show PW 82 d (4, [some (pvR 124), some (pvI n1)], [pvI (M.1 132 (Int32.toNatClampNeg (M.1 124 17)))], M) _
    refine pw_blk hT 1 (S' := (5, [some (pvR 124), some (pvI n1)], [pvI n1, pvI (M.1 132 (Int32.toNatClampNeg (M.1 124 17)))], M)) rfl ⟨trivial, trivial⟩ ?_
    refine pw_ic hT (c := (M.1 132 (Int32.toNatClampNeg (M.1 124 17))) = n1) rfl rfl (fun c15_ => ?_) (fun c15_ => ?_)
    · have d16_ : Int32.toInt (M.1 132 (Int32.toNatClampNeg (M.1 124 17))) = Int32.toInt n1 := (zi_eq _ _).mp c15_
      obtain ⟨q18_, b17_⟩ : (Int32.toInt ((M.1 124 17) + 1) = Int32.toInt (M.1 124 17) + 1) ∧ (1 ≤ Int32.toInt ((M.1 124 17) + 1) ∧ Int32.toInt ((M.1 124 17) + 1) ≤ 100) := zadd_k (M.1 124 17) 1 1 1 100 b12_ (by decide) (by decide) (by decide) (by decide) (by decide)
      refine pw_blkw hT 6 (pc := 20) (lo := [some (pvR 124), some (pvI n1)]) (st := []) (M := pvu M 124 17 ((M.1 124 17) + 1)) rfl ⟨trivial, trivial, rfl, trivial, trivial, rfl, trivial⟩ (fun M19_ e20_ => ?_)
      have o21_ : pvOk M19_ := pvok_u2 e20_ hok rfl (zr_wide b17_ (by decide) (by decide))
      have f22_ : pvFr fp_X10_takes_124_x M M19_ := pvfr_u e20_ pvfr_0 rfl
      refine pw_blk hT 1 (S' := (21, [some (pvR 124), some (pvI n1)], [pvI 1], M19_)) rfl ⟨trivial, trivial⟩ ?_
      exact pw_ret hT rfl (r := some (pvI 1)) (M' := M19_) ⟨Or.inr rfl, rfl, rfl⟩ ⟨⟨_, rfl, (zr_wide (show 1 ≤ Int32.toInt 1 ∧ Int32.toInt 1 ≤ 1 from (by decide)) (by decide) (by decide))⟩, o21_, f22_, (by have w0 : Int32.toInt (M19_.1 124 17) = Int32.toInt ((M.1 124 17) + 1) := congrArg Int32.toInt (pvu_s e20_); omega)⟩
    · refine pw_blk hT 1 (S' := (9, [some (pvR 124), some (pvI n1)], [pvI 0], M)) rfl ⟨trivial, trivial⟩ ?_
      exact pw_ret hT rfl (r := some (pvI 0)) (M' := M) ⟨Or.inl rfl, rfl, rfl⟩ ⟨⟨_, rfl, (zr_wide (show 0 ≤ Int32.toInt 0 ∧ Int32.toInt 0 ≤ 0 from (by decide)) (by decide) (by decide))⟩, hok, pvfr_0, (by omega)⟩
def fpL_X10_takesWord_124_x_x : List (Nat × Nat × Nat) := [(0, 124, 18)]
def fp_X10_takesWord_124_x_x (q k : Nat) : Bool := pvfp fpL_X10_takesWord_124_x_x q k
theorem fp_X10_takesWord_124_x_x_fp_X10_takes_124_x (a b : Nat) (h : fp_X10_takes_124_x a b = true) : fp_X10_takesWord_124_x_x a b = true := pvfp_sub (l1 := fpL_X10_takes_124_x) (l2 := fpL_X10_takesWord_124_x_x) (by decide) a b h
set_option maxHeartbeats 4000000 in
set_option maxRecDepth 10000 in
theorem sf_X10_takesWord_124_x_x (M : pvM) (hok : pvOk M) (n1 : Int32) (n2 : Int32) (hn1 : 0 ≤ Int32.toInt n1 ∧ Int32.toInt n1 ≤ 11) (hn2 : 0 ≤ Int32.toInt n2 ∧ Int32.toInt n2 ≤ 5) (hx0 : Int32.toInt n1 + Int32.toInt n2 ≤ 15) (d : Nat) : PW 88 d (0, [some (pvR 124), some (pvI n1), some (pvI n2), none], [], M) (fun r X => (∃ x : Int32, r = some (pvI x) ∧ 0 ≤ Int32.toInt x ∧ Int32.toInt x ≤ 1) ∧ pvOk X ∧ pvFr fp_X10_takesWord_124_x_x M X ∧ Int32.toInt (M.1 124 17) ≤ Int32.toInt (X.1 124 17)) := by
  have hT : pvdom 88 = pvD_88 := rfl
  refine pw_blk hT 2 (S' := (2, [some (pvR 124), some (pvI n1), some (pvI n2), some (pvI 0)], [], M)) rfl ⟨trivial, trivial, trivial⟩ ?_
  have hlz113_ : ∀ (nz113_ : Nat) (i3z113_ : Int32) (Mz113_ : pvM), (pvOk Mz113_) → (pvFr fp_X10_takesWord_124_x_x M Mz113_) → (0 ≤ Int32.toInt i3z113_ ∧ Int32.toInt i3z113_ ≤ 5) → (Int32.toInt (M.1 124 17) ≤ Int32.toInt (Mz113_.1 124 17)) → (zhide ((6 - Int32.toInt i3z113_).toNat < nz113_)) → PW 88 d (2, [some (pvR 124), some (pvI n1), some (pvI n2), some (pvI i3z113_)], [], Mz113_) (fun r X => (∃ x : Int32, r = some (pvI x) ∧ 0 ≤ Int32.toInt x ∧ Int32.toInt x ≤ 1) ∧ pvOk X ∧ pvFr fp_X10_takesWord_124_x_x M X ∧ Int32.toInt (M.1 124 17) ≤ Int32.toInt (X.1 124 17)) := by
    intro nz113_
    induction nz113_ with
    | zero => intro i3z113_ Mz113_ oz113_ fz113_ h3z113_ j0z113_ hmz113_; exact absurd (zshow hmz113_) (Nat.not_lt_zero _)
    | succ nz113_ ihz113_ =>
      intro i3z113_ Mz113_ oz113_ fz113_ h3z113_ j0z113_ hmz113_
      refine pw_blk hT 2 (S' := (4, [some (pvR 124), some (pvI n1), some (pvI n2), some (pvI i3z113_)], [pvI n2, pvI i3z113_], Mz113_)) rfl ⟨trivial, trivial, trivial⟩ ?_
      refine pw_ic hT (c := n2 ≤ i3z113_) rfl rfl (fun c114_ => ?_) (fun c114_ => ?_)
      · have d115_ : Int32.toInt n2 ≤ Int32.toInt i3z113_ := (zi_le _ _).mp c114_
        refine pw_blk hT 2 (S' := (33, [some (pvR 124), some (pvI n1), some (pvI n2), some (pvI i3z113_)], [pvI 32, pvR 124], Mz113_)) rfl ⟨trivial, trivial, trivial⟩ ?_
        refine pw_callGd hT (as := [pvR 124, pvI 32]) (lo1 := [some (pvR 124), some (pvI 32)]) (d1 := d) (rest := []) rfl rfl rfl rfl rfl (fun _ => rfl) (Nat.zero_le _) rfl rfl rfl (sf_X10_takes_124_x Mz113_ oz113_ 32 (zr_wide (show 32 ≤ Int32.toInt 32 ∧ Int32.toInt 32 ≤ 32 from (by decide)) (by decide) (by decide)) d) (fun x117_ M118_ b119_ o120_ g121_ d116_ => ?_)
        have f122_ : pvFr fp_X10_takesWord_124_x_x M M118_ := pvfr_t g121_ fz113_ fp_X10_takesWord_124_x_x_fp_X10_takes_124_x
        exact pw_ret hT rfl (r := some (pvI x117_)) (M' := M118_) ⟨pv01 b119_, rfl, rfl⟩ ⟨⟨_, rfl, b119_⟩, o120_, f122_, (by have j9 := j0z113_; omega)⟩
      · have b123_ : 1 ≤ Int32.toInt n2 ∧ Int32.toInt n2 ≤ 5 := zr_nle_l 1 c114_ hn2 h3z113_ (by decide)
        have b124_ : 0 ≤ Int32.toInt i3z113_ ∧ Int32.toInt i3z113_ ≤ 4 := zr_nle_r 4 c114_ h3z113_ b123_ (by decide)
        have d125_ : Int32.toInt n2 > Int32.toInt i3z113_ := Int.not_le.mp ((not_congr (zi_le _ _)).mp c114_)
        obtain ⟨q127_, b126_⟩ : (Int32.toInt (n1 + i3z113_) = Int32.toInt n1 + Int32.toInt i3z113_) ∧ (0 ≤ Int32.toInt (n1 + i3z113_) ∧ Int32.toInt (n1 + i3z113_) ≤ 15) := zadd_r n1 i3z113_ 0 15 hn1 b124_ (by decide) (by decide) (by decide) (by decide)
        have b128_ : 0 ≤ Int32.toInt (Mz113_.1 140 (Int32.toNatClampNeg (n1 + i3z113_))) ∧ Int32.toInt (Mz113_.1 140 (Int32.toNatClampNeg (n1 + i3z113_))) ≤ 127 := pvok_r oz113_ 140 (Int32.toNatClampNeg (n1 + i3z113_)) rfl
        refine pw_blk hT 7 (S' := (16, [some (pvR 124), some (pvI n1), some (pvI n2), some (pvI i3z113_)], [pvI (Mz113_.1 140 (Int32.toNatClampNeg (n1 + i3z113_))), pvR 124], Mz113_)) rfl ⟨trivial, trivial, rfl, trivial, trivial, trivial, ⟨rfl, (vp_in_iff.mpr (show 0 ≤ Int32.toInt (n1 + i3z113_) ∧ Int32.toInt (n1 + i3z113_) < ((15 : Nat) : Int) from (by have u0 := b126_; omega)))⟩, trivial⟩ ?_
        refine pw_callGd hT (as := [pvR 124, pvI (Mz113_.1 140 (Int32.toNatClampNeg (n1 + i3z113_)))]) (lo1 := [some (pvR 124), some (pvI (Mz113_.1 140 (Int32.toNatClampNeg (n1 + i3z113_))))]) (d1 := d) (rest := []) rfl rfl rfl rfl rfl (fun _ => rfl) (Nat.zero_le _) rfl rfl rfl (sf_X10_takes_124_x Mz113_ oz113_ (Mz113_.1 140 (Int32.toNatClampNeg (n1 + i3z113_))) b128_ d) (fun x130_ M131_ b132_ o133_ g134_ d129_ => ?_)
        have f135_ : pvFr fp_X10_takesWord_124_x_x M M131_ := pvfr_t g134_ fz113_ fp_X10_takesWord_124_x_x_fp_X10_takes_124_x
        refine pw_ifn hT (c := x130_ = 0) rfl rfl (fun c136_ => ?_) (fun c136_ => ?_)
        · have b137_ : 1 ≤ Int32.toInt x130_ ∧ Int32.toInt x130_ ≤ 1 := (by have u0 := b132_; have u1 := (not_congr (zi_eq _ _)).mp c136_; have u2 := (show 0 ≤ Int32.toInt 0 ∧ Int32.toInt 0 ≤ 0 from (by decide)); omega)
          obtain ⟨q139_, b138_⟩ : (Int32.toInt (i3z113_ + 1) = Int32.toInt i3z113_ + 1) ∧ (1 ≤ Int32.toInt (i3z113_ + 1) ∧ Int32.toInt (i3z113_ + 1) ≤ 5) := zadd_k i3z113_ 1 1 1 5 b124_ (by decide) (by decide) (by decide) (by decide) (by decide)
          refine pw_blk hT 2 (S' := (2, [some (pvR 124), some (pvI n1), some (pvI n2), some (pvI (i3z113_ + 1))], [], M131_)) rfl ⟨trivial, trivial, trivial⟩ ?_
          have j140_ : Int32.toInt (M.1 124 17) ≤ Int32.toInt (M131_.1 124 17) := (by have j9 := j0z113_; omega)
          exact ihz113_ (i3z113_ + 1) M131_ o133_ f135_ (zr_wide b138_ (by decide) (by decide)) j140_ (zhid (pvms_up (zshow hmz113_) h3z113_ q139_ (by decide) (by decide)))
        · have b141_ : 0 ≤ Int32.toInt x130_ ∧ Int32.toInt x130_ ≤ 0 := (by have u0 := b132_; have u1 := (zi_eq _ _).mp c136_; have u2 := (show 0 ≤ Int32.toInt 0 ∧ Int32.toInt 0 ≤ 0 from (by decide)); omega)
          refine pw_blk hT 1 (S' := (23, [some (pvR 124), some (pvI n1), some (pvI n2), some (pvI i3z113_)], [pvI 0], M131_)) rfl ⟨trivial, trivial⟩ ?_
          exact pw_ret hT rfl (r := some (pvI 0)) (M' := M131_) ⟨Or.inl rfl, rfl, rfl⟩ ⟨⟨_, rfl, (zr_wide (show 0 ≤ Int32.toInt 0 ∧ Int32.toInt 0 ≤ 0 from (by decide)) (by decide) (by decide))⟩, o133_, f135_, (by have j9 := j0z113_; omega)⟩
  have u142_ : Int32.toInt 0 = 0 := by decide
  have j143_ : Int32.toInt (M.1 124 17) ≤ Int32.toInt (M.1 124 17) := (Int.le_refl _)
  exact hlz113_ _ 0 M hok pvfr_0 (zr_wide (show 0 ≤ Int32.toInt 0 ∧ Int32.toInt 0 ≤ 0 from (by decide)) (by decide) (by decide)) j143_ (zhid (Nat.lt_succ_self _))
def fpL_X10_takesHead_124_x : List (Nat × Nat × Nat) := [(0, 124, 18), (0, 134, 0)]
def fp_X10_takesHead_124_x (q k : Nat) : Bool := pvfp fpL_X10_takesHead_124_x q k
theorem fp_X10_takesHead_124_x_fp_X10_takesWord_124_x_x (a b : Nat) (h : fp_X10_takesWord_124_x_x a b = true) : fp_X10_takesHead_124_x a b = true := pvfp_sub (l1 := fpL_X10_takesWord_124_x_x) (l2 := fpL_X10_takesHead_124_x) (by decide) a b h
set_option maxHeartbeats 4000000 in
set_option maxRecDepth 10000 in
theorem sf_X10_takesHead_124_x (M : pvM) (hok : pvOk M) (n1 : Int32) (hn1 : 0 ≤ Int32.toInt n1 ∧ Int32.toInt n1 ≤ 59) (d : Nat) : PW 85 d (0, [some (pvR 124), some (pvI n1)], [], M) (fun r X => (∃ x : Int32, r = some (pvI x) ∧ 0 ≤ Int32.toInt x ∧ Int32.toInt x ≤ 1) ∧ pvOk X ∧ pvFr fp_X10_takesHead_124_x M X ∧ (∀ k, k ≠ (Int32.toNatClampNeg n1) → X.1 134 k = M.1 134 k) ∧ Int32.toInt (M.1 124 17) ≤ Int32.toInt (X.1 124 17)) := by
  have hT : pvdom 85 = pvD_85 := rfl
  refine pw_blk hT 1 (S' := (1, [some (pvR 124), some (pvI n1)], [pvR 124], M)) rfl ⟨trivial, trivial⟩ ?_
  refine pw_callT hT (as := [pvR 124]) (lo1 := [some (pvR 124)]) (d1 := d) (rest := []) rfl rfl rfl rfl rfl (fun _ => rfl) (Nat.zero_le _) rfl rfl rfl (sf_X10_peek_124 M hok d) ?_
  have b6_ : 0 ≤ Int32.toInt (M.1 124 16) ∧ Int32.toInt (M.1 124 16) ≤ 100 := pvok_r hok 124 16 rfl
  have b7_ : 0 ≤ Int32.toInt (M.1 124 17) ∧ Int32.toInt (M.1 124 17) ≤ 100 := pvok_r hok 124 17 rfl
  by_cases c8_ : (M.1 124 16) ≤ (M.1 124 17)
  · refine pw_eqI (if_pos c8_) ?_
    have d9_ : Int32.toInt (M.1 124 16) ≤ Int32.toInt (M.1 124 17) := (zi_le _ _).mp c8_
    show PW 85 d (4, [some (pvR 124), some (pvI n1)], [pvI (-1)], M) _
    refine pw_sw hT rfl rfl ?_
    refine And.intro (fun c10_ => absurd c10_ (by decide)) (fun c10_ => ?_)
    refine And.intro (fun c11_ => absurd c11_ (by decide)) (fun c11_ => ?_)
    refine And.intro (fun c12_ => absurd c12_ (by decide)) (fun c12_ => ?_)
    show PW 85 d (83, [some (pvR 124), some (pvI n1)], [], M) _
    refine pw_blkw hT 5 (pc := 90) (lo := [some (pvR 124), some (pvI n1)]) (st := []) (M := pvu M 134 (Int32.toNatClampNeg n1) 3) rfl ⟨trivial, rfl, trivial, trivial, ⟨rfl, (zr_in (n := 60) hn1 (by decide) (by decide))⟩, trivial⟩ (fun M13_ e14_ => ?_)
    have o15_ : pvOk M13_ := pvok_u2 e14_ hok rfl (zr_wide (show 3 ≤ Int32.toInt 3 ∧ Int32.toInt 3 ≤ 3 from (by decide)) (by decide) (by decide))
    have f16_ : pvFr fp_X10_takesHead_124_x M M13_ := pvfr_u e14_ pvfr_0 rfl
    refine pw_blk hT 3 (S' := (94, [some (pvR 124), some (pvI n1)], [pvI 4, pvI 11, pvR 124], M13_)) rfl ⟨trivial, trivial, trivial, trivial⟩ ?_
    have u17_ : Int32.toInt 11 = 11 := by decide
    have u18_ : Int32.toInt 4 = 4 := by decide
    refine pw_callGd hT (as := [pvR 124, pvI 11, pvI 4]) (lo1 := [some (pvR 124), some (pvI 11), some (pvI 4), none]) (d1 := d) (rest := []) rfl rfl rfl rfl rfl (fun _ => rfl) (Nat.zero_le _) rfl rfl rfl (sf_X10_takesWord_124_x_x M13_ o15_ 11 4 (zr_wide (show 11 ≤ Int32.toInt 11 ∧ Int32.toInt 11 ≤ 11 from (by decide)) (by decide) (by decide)) (zr_wide (show 4 ≤ Int32.toInt 4 ∧ Int32.toInt 4 ≤ 4 from (by decide)) (by decide) (by decide)) (show Int32.toInt 11 + Int32.toInt 4 ≤ 15 from (by omega)) d) (fun x20_ M21_ b22_ o23_ g24_ d19_ => ?_)
    have f25_ : pvFr fp_X10_takesHead_124_x M M21_ := pvfr_t g24_ f16_ fp_X10_takesHead_124_x_fp_X10_takesWord_124_x_x
    exact pw_ret hT rfl (r := some (pvI x20_)) (M' := M21_) ⟨pv01 b22_, rfl, rfl⟩ ⟨⟨_, rfl, b22_⟩, o23_, f25_, ⟨fun k hk => (congrFun ((pvfr_row (L := fpL_X10_takesWord_124_x_x) g24_ rfl)) k).trans ((pvu_n e14_ 134 k (Or.inr hk)).trans (congrFun (rfl) k)), by have w1 : Int32.toInt (M13_.1 124 17) = Int32.toInt (M.1 124 17) := congrArg Int32.toInt (pvu_n e14_ 124 17 (Or.inl (by decide))); omega⟩⟩
  · refine pw_eqI (if_neg c8_) ?_
    have b26_ : 1 ≤ Int32.toInt (M.1 124 16) ∧ Int32.toInt (M.1 124 16) ≤ 100 := zr_nle_l 1 c8_ b6_ b7_ (by decide)
    have b27_ : 0 ≤ Int32.toInt (M.1 124 17) ∧ Int32.toInt (M.1 124 17) ≤ 99 := zr_nle_r 99 c8_ b7_ b26_ (by decide)
    have d28_ : Int32.toInt (M.1 124 16) > Int32.toInt (M.1 124 17) := Int.not_le.mp ((not_congr (zi_le _ _)).mp c8_)
    have b29_ : 0 ≤ Int32.toInt (M.1 132 (Int32.toNatClampNeg (M.1 124 17))) ∧ Int32.toInt (M.1 132 (Int32.toNatClampNeg (M.1 124 17))) ≤ 127 := pvok_r hok 132 (Int32.toNatClampNeg (M.1 124 17)) rfl
    show PW 85 d (4, [some (pvR 124), some (pvI n1)], [pvI (M.1 132 (Int32.toNatClampNeg (M.1 124 17)))], M) _
    refine pw_sw hT rfl rfl ?_
    refine And.intro (fun c30_ => ?_) (fun c30_ => ?_)
    · show PW 85 d (54, [some (pvR 124), some (pvI n1)], [], M) _
      have b31_ : 100 ≤ Int32.toInt (M.1 132 (Int32.toNatClampNeg (M.1 124 17))) ∧ Int32.toInt (M.1 132 (Int32.toNatClampNeg (M.1 124 17))) ≤ 100 := (by have u0 := b29_; have u1 := (zi_eq _ _).mp c30_; have u2 := (show 100 ≤ Int32.toInt 100 ∧ Int32.toInt 100 ≤ 100 from (by decide)); omega)
      refine pw_blkw hT 5 (pc := 61) (lo := [some (pvR 124), some (pvI n1)]) (st := []) (M := pvu M 134 (Int32.toNatClampNeg n1) 1) rfl ⟨trivial, rfl, trivial, trivial, ⟨rfl, (zr_in (n := 60) hn1 (by decide) (by decide))⟩, trivial⟩ (fun M32_ e33_ => ?_)
      have o34_ : pvOk M32_ := pvok_u2 e33_ hok rfl (zr_wide (show 1 ≤ Int32.toInt 1 ∧ Int32.toInt 1 ≤ 1 from (by decide)) (by decide) (by decide))
      have f35_ : pvFr fp_X10_takesHead_124_x M M32_ := pvfr_u e33_ pvfr_0 rfl
      refine pw_blk hT 3 (S' := (64, [some (pvR 124), some (pvI n1)], [pvI 3, pvI 3, pvR 124], M32_)) rfl ⟨trivial, trivial, trivial, trivial⟩ ?_
      have u36_ : Int32.toInt 3 = 3 := by decide
      refine pw_callGd hT (as := [pvR 124, pvI 3, pvI 3]) (lo1 := [some (pvR 124), some (pvI 3), some (pvI 3), none]) (d1 := d) (rest := []) rfl rfl rfl rfl rfl (fun _ => rfl) (Nat.zero_le _) rfl rfl rfl (sf_X10_takesWord_124_x_x M32_ o34_ 3 3 (zr_wide (show 3 ≤ Int32.toInt 3 ∧ Int32.toInt 3 ≤ 3 from (by decide)) (by decide) (by decide)) (zr_wide (show 3 ≤ Int32.toInt 3 ∧ Int32.toInt 3 ≤ 3 from (by decide)) (by decide) (by decide)) (show Int32.toInt 3 + Int32.toInt 3 ≤ 15 from (by omega)) d) (fun x38_ M39_ b40_ o41_ g42_ d37_ => ?_)
      have f43_ : pvFr fp_X10_takesHead_124_x M M39_ := pvfr_t g42_ f35_ fp_X10_takesHead_124_x_fp_X10_takesWord_124_x_x
      exact pw_ret hT rfl (r := some (pvI x38_)) (M' := M39_) ⟨pv01 b40_, rfl, rfl⟩ ⟨⟨_, rfl, b40_⟩, o41_, f43_, ⟨fun k hk => (congrFun ((pvfr_row (L := fpL_X10_takesWord_124_x_x) g42_ rfl)) k).trans ((pvu_n e33_ 134 k (Or.inr hk)).trans (congrFun (rfl) k)), by have w1 : Int32.toInt (M32_.1 124 17) = Int32.toInt (M.1 124 17) := congrArg Int32.toInt (pvu_n e33_ 124 17 (Or.inl (by decide))); omega⟩⟩
    · refine And.intro (fun c44_ => ?_) (fun c44_ => ?_)
      · show PW 85 d (68, [some (pvR 124), some (pvI n1)], [], M) _
        have b45_ : 115 ≤ Int32.toInt (M.1 132 (Int32.toNatClampNeg (M.1 124 17))) ∧ Int32.toInt (M.1 132 (Int32.toNatClampNeg (M.1 124 17))) ≤ 115 := (by have u0 := b29_; have u1 := (zi_eq _ _).mp c44_; have u2 := (show 115 ≤ Int32.toInt 115 ∧ Int32.toInt 115 ≤ 115 from (by decide)); omega)
        refine pw_blkw hT 5 (pc := 75) (lo := [some (pvR 124), some (pvI n1)]) (st := []) (M := pvu M 134 (Int32.toNatClampNeg n1) 2) rfl ⟨trivial, rfl, trivial, trivial, ⟨rfl, (zr_in (n := 60) hn1 (by decide) (by decide))⟩, trivial⟩ (fun M46_ e47_ => ?_)
        have o48_ : pvOk M46_ := pvok_u2 e47_ hok rfl (zr_wide (show 2 ≤ Int32.toInt 2 ∧ Int32.toInt 2 ≤ 2 from (by decide)) (by decide) (by decide))
        have f49_ : pvFr fp_X10_takesHead_124_x M M46_ := pvfr_u e47_ pvfr_0 rfl
        refine pw_blk hT 3 (S' := (79, [some (pvR 124), some (pvI n1)], [pvI 5, pvI 6, pvR 124], M46_)) rfl ⟨trivial, trivial, trivial, trivial⟩ ?_
        have u50_ : Int32.toInt 6 = 6 := by decide
        have u51_ : Int32.toInt 5 = 5 := by decide
        refine pw_callGd hT (as := [pvR 124, pvI 6, pvI 5]) (lo1 := [some (pvR 124), some (pvI 6), some (pvI 5), none]) (d1 := d) (rest := []) rfl rfl rfl rfl rfl (fun _ => rfl) (Nat.zero_le _) rfl rfl rfl (sf_X10_takesWord_124_x_x M46_ o48_ 6 5 (zr_wide (show 6 ≤ Int32.toInt 6 ∧ Int32.toInt 6 ≤ 6 from (by decide)) (by decide) (by decide)) (zr_wide (show 5 ≤ Int32.toInt 5 ∧ Int32.toInt 5 ≤ 5 from (by decide)) (by decide) (by decide)) (show Int32.toInt 6 + Int32.toInt 5 ≤ 15 from (by omega)) d) (fun x53_ M54_ b55_ o56_ g57_ d52_ => ?_)
        have f58_ : pvFr fp_X10_takesHead_124_x M M54_ := pvfr_t g57_ f49_ fp_X10_takesHead_124_x_fp_X10_takesWord_124_x_x
        exact pw_ret hT rfl (r := some (pvI x53_)) (M' := M54_) ⟨pv01 b55_, rfl, rfl⟩ ⟨⟨_, rfl, b55_⟩, o56_, f58_, ⟨fun k hk => (congrFun ((pvfr_row (L := fpL_X10_takesWord_124_x_x) g57_ rfl)) k).trans ((pvu_n e47_ 134 k (Or.inr hk)).trans (congrFun (rfl) k)), by have w1 : Int32.toInt (M46_.1 124 17) = Int32.toInt (M.1 124 17) := congrArg Int32.toInt (pvu_n e47_ 124 17 (Or.inl (by decide))); omega⟩⟩
      · refine And.intro (fun c59_ => ?_) (fun c59_ => ?_)
        · show PW 85 d (40, [some (pvR 124), some (pvI n1)], [], M) _
          have b60_ : 119 ≤ Int32.toInt (M.1 132 (Int32.toNatClampNeg (M.1 124 17))) ∧ Int32.toInt (M.1 132 (Int32.toNatClampNeg (M.1 124 17))) ≤ 119 := (by have u0 := b29_; have u1 := (zi_eq _ _).mp c59_; have u2 := (show 119 ≤ Int32.toInt 119 ∧ Int32.toInt 119 ≤ 119 from (by decide)); omega)
          refine pw_blkw hT 5 (pc := 47) (lo := [some (pvR 124), some (pvI n1)]) (st := []) (M := pvu M 134 (Int32.toNatClampNeg n1) 0) rfl ⟨trivial, rfl, trivial, trivial, ⟨rfl, (zr_in (n := 60) hn1 (by decide) (by decide))⟩, trivial⟩ (fun M61_ e62_ => ?_)
          have o63_ : pvOk M61_ := pvok_u2 e62_ hok rfl (zr_wide (show 0 ≤ Int32.toInt 0 ∧ Int32.toInt 0 ≤ 0 from (by decide)) (by decide) (by decide))
          have f64_ : pvFr fp_X10_takesHead_124_x M M61_ := pvfr_u e62_ pvfr_0 rfl
          refine pw_blk hT 3 (S' := (50, [some (pvR 124), some (pvI n1)], [pvI 3, pvI 0, pvR 124], M61_)) rfl ⟨trivial, trivial, trivial, trivial⟩ ?_
          have u65_ : Int32.toInt 0 = 0 := by decide
          have u66_ : Int32.toInt 3 = 3 := by decide
          refine pw_callGd hT (as := [pvR 124, pvI 0, pvI 3]) (lo1 := [some (pvR 124), some (pvI 0), some (pvI 3), none]) (d1 := d) (rest := []) rfl rfl rfl rfl rfl (fun _ => rfl) (Nat.zero_le _) rfl rfl rfl (sf_X10_takesWord_124_x_x M61_ o63_ 0 3 (zr_wide (show 0 ≤ Int32.toInt 0 ∧ Int32.toInt 0 ≤ 0 from (by decide)) (by decide) (by decide)) (zr_wide (show 3 ≤ Int32.toInt 3 ∧ Int32.toInt 3 ≤ 3 from (by decide)) (by decide) (by decide)) (show Int32.toInt 0 + Int32.toInt 3 ≤ 15 from (by omega)) d) (fun x68_ M69_ b70_ o71_ g72_ d67_ => ?_)
          have f73_ : pvFr fp_X10_takesHead_124_x M M69_ := pvfr_t g72_ f64_ fp_X10_takesHead_124_x_fp_X10_takesWord_124_x_x
          exact pw_ret hT rfl (r := some (pvI x68_)) (M' := M69_) ⟨pv01 b70_, rfl, rfl⟩ ⟨⟨_, rfl, b70_⟩, o71_, f73_, ⟨fun k hk => (congrFun ((pvfr_row (L := fpL_X10_takesWord_124_x_x) g72_ rfl)) k).trans ((pvu_n e62_ 134 k (Or.inr hk)).trans (congrFun (rfl) k)), by have w1 : Int32.toInt (M61_.1 124 17) = Int32.toInt (M.1 124 17) := congrArg Int32.toInt (pvu_n e62_ 124 17 (Or.inl (by decide))); omega⟩⟩
        · show PW 85 d (83, [some (pvR 124), some (pvI n1)], [], M) _
          refine pw_blkw hT 5 (pc := 90) (lo := [some (pvR 124), some (pvI n1)]) (st := []) (M := pvu M 134 (Int32.toNatClampNeg n1) 3) rfl ⟨trivial, rfl, trivial, trivial, ⟨rfl, (zr_in (n := 60) hn1 (by decide) (by decide))⟩, trivial⟩ (fun M74_ e75_ => ?_)
          have o76_ : pvOk M74_ := pvok_u2 e75_ hok rfl (zr_wide (show 3 ≤ Int32.toInt 3 ∧ Int32.toInt 3 ≤ 3 from (by decide)) (by decide) (by decide))
          have f77_ : pvFr fp_X10_takesHead_124_x M M74_ := pvfr_u e75_ pvfr_0 rfl
          refine pw_blk hT 3 (S' := (94, [some (pvR 124), some (pvI n1)], [pvI 4, pvI 11, pvR 124], M74_)) rfl ⟨trivial, trivial, trivial, trivial⟩ ?_
          have u78_ : Int32.toInt 11 = 11 := by decide
          have u79_ : Int32.toInt 4 = 4 := by decide
          refine pw_callGd hT (as := [pvR 124, pvI 11, pvI 4]) (lo1 := [some (pvR 124), some (pvI 11), some (pvI 4), none]) (d1 := d) (rest := []) rfl rfl rfl rfl rfl (fun _ => rfl) (Nat.zero_le _) rfl rfl rfl (sf_X10_takesWord_124_x_x M74_ o76_ 11 4 (zr_wide (show 11 ≤ Int32.toInt 11 ∧ Int32.toInt 11 ≤ 11 from (by decide)) (by decide) (by decide)) (zr_wide (show 4 ≤ Int32.toInt 4 ∧ Int32.toInt 4 ≤ 4 from (by decide)) (by decide) (by decide)) (show Int32.toInt 11 + Int32.toInt 4 ≤ 15 from (by omega)) d) (fun x81_ M82_ b83_ o84_ g85_ d80_ => ?_)
          have f86_ : pvFr fp_X10_takesHead_124_x M M82_ := pvfr_t g85_ f77_ fp_X10_takesHead_124_x_fp_X10_takesWord_124_x_x
          exact pw_ret hT rfl (r := some (pvI x81_)) (M' := M82_) ⟨pv01 b83_, rfl, rfl⟩ ⟨⟨_, rfl, b83_⟩, o84_, f86_, ⟨fun k hk => (congrFun ((pvfr_row (L := fpL_X10_takesWord_124_x_x) g85_ rfl)) k).trans ((pvu_n e75_ 134 k (Or.inr hk)).trans (congrFun (rfl) k)), by have w1 : Int32.toInt (M74_.1 124 17) = Int32.toInt (M.1 124 17) := congrArg Int32.toInt (pvu_n e75_ 124 17 (Or.inl (by decide))); omega⟩⟩
