set_option maxHeartbeats 4000000 in
set_option maxRecDepth 10000 in
theorem sf_X10_told_124_x (M : pvM) (hok : pvOk M) (n1 : Int32) (d : Nat) : PW 91 d (0, [some (pvR 124), some (pvI n1)], [], M) (fun r X => (∃ x : Int32, r = some (pvI x) ∧ (-1) ≤ Int32.toInt x ∧ Int32.toInt x ≤ 999999) ∧ X = M) := by
  have hT : pvdom 91 = pvD_91 := rfl
  refine pw_blk hT 1 (S' := (1, [some (pvR 124), some (pvI n1)], [pvI n1], M)) rfl ⟨trivial, trivial⟩ ?_
  refine pw_sw hT rfl rfl ?_
  refine And.intro (fun c1_ => ?_) (fun c1_ => ?_)
  · show PW 91 d (52, [some (pvR 124), some (pvI n1)], [], M) _
    have b2_ : 0 ≤ Int32.toInt n1 ∧ Int32.toInt n1 ≤ 0 := (by have u0 := (zbnd n1); have u1 := (zi_eq _ _).mp c1_; have u2 := (show 0 ≤ Int32.toInt 0 ∧ Int32.toInt 0 ≤ 0 from (by decide)); omega)
    have b3_ : 0 ≤ Int32.toInt (M.1 124 1) ∧ Int32.toInt (M.1 124 1) ≤ 9999 := pvok_r hok 124 1 rfl
    refine pw_blk hT 2 (S' := (56, [some (pvR 124), some (pvI n1)], [pvI (M.1 124 1)], M)) rfl ⟨trivial, rfl, trivial⟩ ?_
    exact pw_ret hT rfl (r := some (pvI (M.1 124 1))) (M' := M) ⟨rfl, rfl⟩ ⟨⟨_, rfl, (zr_wide b3_ (by decide) (by decide))⟩, rfl⟩
  · refine And.intro (fun c4_ => ?_) (fun c4_ => ?_)
    · show PW 91 d (57, [some (pvR 124), some (pvI n1)], [], M) _
      have b5_ : 1 ≤ Int32.toInt n1 ∧ Int32.toInt n1 ≤ 1 := (by have u0 := (zbnd n1); have u1 := (zi_eq _ _).mp c4_; have u2 := (show 1 ≤ Int32.toInt 1 ∧ Int32.toInt 1 ≤ 1 from (by decide)); omega)
      have b6_ : 0 ≤ Int32.toInt (M.1 124 2) ∧ Int32.toInt (M.1 124 2) ≤ 999999 := pvok_r hok 124 2 rfl
      refine pw_blk hT 2 (S' := (61, [some (pvR 124), some (pvI n1)], [pvI (M.1 124 2)], M)) rfl ⟨trivial, rfl, trivial⟩ ?_
      exact pw_ret hT rfl (r := some (pvI (M.1 124 2))) (M' := M) ⟨rfl, rfl⟩ ⟨⟨_, rfl, (zr_wide b6_ (by decide) (by decide))⟩, rfl⟩
    · refine And.intro (fun c7_ => ?_) (fun c7_ => ?_)
      · show PW 91 d (62, [some (pvR 124), some (pvI n1)], [], M) _
        have b8_ : 2 ≤ Int32.toInt n1 ∧ Int32.toInt n1 ≤ 2 := (by have u0 := (zbnd n1); have u1 := (zi_eq _ _).mp c7_; have u2 := (show 2 ≤ Int32.toInt 2 ∧ Int32.toInt 2 ≤ 2 from (by decide)); omega)
        have b9_ : 0 ≤ Int32.toInt (M.1 124 3) ∧ Int32.toInt (M.1 124 3) ≤ 108 := pvok_r hok 124 3 rfl
        refine pw_blk hT 2 (S' := (66, [some (pvR 124), some (pvI n1)], [pvI (M.1 124 3)], M)) rfl ⟨trivial, rfl, trivial⟩ ?_
        exact pw_ret hT rfl (r := some (pvI (M.1 124 3))) (M' := M) ⟨rfl, rfl⟩ ⟨⟨_, rfl, (zr_wide b9_ (by decide) (by decide))⟩, rfl⟩
      · refine And.intro (fun c10_ => ?_) (fun c10_ => ?_)
        · show PW 91 d (67, [some (pvR 124), some (pvI n1)], [], M) _
          have b11_ : 3 ≤ Int32.toInt n1 ∧ Int32.toInt n1 ≤ 3 := (by have u0 := (zbnd n1); have u1 := (zi_eq _ _).mp c10_; have u2 := (show 3 ≤ Int32.toInt 3 ∧ Int32.toInt 3 ≤ 3 from (by decide)); omega)
          have b12_ : 0 ≤ Int32.toInt (M.1 124 4) ∧ Int32.toInt (M.1 124 4) ≤ 4 := pvok_r hok 124 4 rfl
          refine pw_blk hT 2 (S' := (71, [some (pvR 124), some (pvI n1)], [pvI (M.1 124 4)], M)) rfl ⟨trivial, rfl, trivial⟩ ?_
          exact pw_ret hT rfl (r := some (pvI (M.1 124 4))) (M' := M) ⟨rfl, rfl⟩ ⟨⟨_, rfl, (zr_wide b12_ (by decide) (by decide))⟩, rfl⟩
        · refine And.intro (fun c13_ => ?_) (fun c13_ => ?_)
          · show PW 91 d (72, [some (pvR 124), some (pvI n1)], [], M) _
            have b14_ : 4 ≤ Int32.toInt n1 ∧ Int32.toInt n1 ≤ 4 := (by have u0 := (zbnd n1); have u1 := (zi_eq _ _).mp c13_; have u2 := (show 4 ≤ Int32.toInt 4 ∧ Int32.toInt 4 ≤ 4 from (by decide)); omega)
            refine pw_blk hT 3 (S' := (75, [some (pvR 124), some (pvI n1)], [pvI 2, pvI 2, pvR 124], M)) rfl ⟨trivial, trivial, trivial, trivial⟩ ?_
            refine pw_callGp hT (as := [pvR 124, pvI 2, pvI 2]) (lo1 := [some (pvR 124), some (pvI 2), some (pvI 2), none, none]) (d1 := d) (rest := []) rfl rfl rfl rfl rfl (fun _ => rfl) (Nat.zero_le _) rfl rfl rfl (sf_X10_lastOf_124_x_x M hok 2 2 (zr_wide (show 2 ≤ Int32.toInt 2 ∧ Int32.toInt 2 ≤ 2 from (by decide)) (by decide) (by decide)) (zr_wide (show 2 ≤ Int32.toInt 2 ∧ Int32.toInt 2 ≤ 2 from (by decide)) (by decide) (by decide)) d) (fun x15_ b17_ => ?_)
            exact pw_ret hT rfl (r := some (pvI x15_)) (M' := M) ⟨rfl, rfl⟩ ⟨⟨_, rfl, (zr_wide b17_ (by decide) (by decide))⟩, rfl⟩
          · refine And.intro (fun c20_ => ?_) (fun c20_ => ?_)
            · show PW 91 d (79, [some (pvR 124), some (pvI n1)], [], M) _
              have b21_ : 5 ≤ Int32.toInt n1 ∧ Int32.toInt n1 ≤ 5 := (by have u0 := (zbnd n1); have u1 := (zi_eq _ _).mp c20_; have u2 := (show 5 ≤ Int32.toInt 5 ∧ Int32.toInt 5 ≤ 5 from (by decide)); omega)
              refine pw_blk hT 1 (S' := (80, [some (pvR 124), some (pvI n1)], [pvR 124], M)) rfl ⟨trivial, trivial⟩ ?_
              refine pw_callGp hT (as := [pvR 124]) (lo1 := [some (pvR 124)]) (d1 := d) (rest := []) rfl rfl rfl rfl rfl (fun _ => rfl) (Nat.zero_le _) rfl rfl rfl (sf_X10_lastNow_124 M hok d) (fun x22_ b24_ => ?_)
              exact pw_ret hT rfl (r := some (pvI x22_)) (M' := M) ⟨rfl, rfl⟩ ⟨⟨_, rfl, (zr_wide b24_ (by decide) (by decide))⟩, rfl⟩
            · refine And.intro (fun c27_ => ?_) (fun c27_ => ?_)
              · show PW 91 d (84, [some (pvR 124), some (pvI n1)], [], M) _
                have b28_ : 6 ≤ Int32.toInt n1 ∧ Int32.toInt n1 ≤ 6 := (by have u0 := (zbnd n1); have u1 := (zi_eq _ _).mp c27_; have u2 := (show 6 ≤ Int32.toInt 6 ∧ Int32.toInt 6 ≤ 6 from (by decide)); omega)
                have b29_ : 0 ≤ Int32.toInt (M.1 124 5) ∧ Int32.toInt (M.1 124 5) ≤ 3 := pvok_r hok 124 5 rfl
                refine pw_blk hT 2 (S' := (88, [some (pvR 124), some (pvI n1)], [pvI (M.1 124 5)], M)) rfl ⟨trivial, rfl, trivial⟩ ?_
                exact pw_ret hT rfl (r := some (pvI (M.1 124 5))) (M' := M) ⟨rfl, rfl⟩ ⟨⟨_, rfl, (zr_wide b29_ (by decide) (by decide))⟩, rfl⟩
              · refine And.intro (fun c30_ => ?_) (fun c30_ => ?_)
                · show PW 91 d (89, [some (pvR 124), some (pvI n1)], [], M) _
                  have b31_ : 7 ≤ Int32.toInt n1 ∧ Int32.toInt n1 ≤ 7 := (by have u0 := (zbnd n1); have u1 := (zi_eq _ _).mp c30_; have u2 := (show 7 ≤ Int32.toInt 7 ∧ Int32.toInt 7 ≤ 7 from (by decide)); omega)
                  have b32_ : 0 ≤ Int32.toInt (M.1 124 6) ∧ Int32.toInt (M.1 124 6) ≤ 4 := pvok_r hok 124 6 rfl
                  refine pw_blk hT 2 (S' := (93, [some (pvR 124), some (pvI n1)], [pvI (M.1 124 6)], M)) rfl ⟨trivial, rfl, trivial⟩ ?_
                  exact pw_ret hT rfl (r := some (pvI (M.1 124 6))) (M' := M) ⟨rfl, rfl⟩ ⟨⟨_, rfl, (zr_wide b32_ (by decide) (by decide))⟩, rfl⟩
                · refine And.intro (fun c33_ => ?_) (fun c33_ => ?_)
                  · show PW 91 d (94, [some (pvR 124), some (pvI n1)], [], M) _
                    have b34_ : 8 ≤ Int32.toInt n1 ∧ Int32.toInt n1 ≤ 8 := (by have u0 := (zbnd n1); have u1 := (zi_eq _ _).mp c33_; have u2 := (show 8 ≤ Int32.toInt 8 ∧ Int32.toInt 8 ≤ 8 from (by decide)); omega)
                    refine pw_blk hT 1 (S' := (95, [some (pvR 124), some (pvI n1)], [pvR 124], M)) rfl ⟨trivial, trivial⟩ ?_
                    refine pw_callGp hT (as := [pvR 124]) (lo1 := [some (pvR 124), none, none]) (d1 := d) (rest := []) rfl rfl rfl rfl rfl (fun _ => rfl) (Nat.zero_le _) rfl rfl rfl (sf_X10_openSet_124 M hok d) (fun x35_ b37_ => ?_)
                    exact pw_ret hT rfl (r := some (pvI x35_)) (M' := M) ⟨rfl, rfl⟩ ⟨⟨_, rfl, (zr_wide b37_ (by decide) (by decide))⟩, rfl⟩
                  · show PW 91 d (99, [some (pvR 124), some (pvI n1)], [], M) _
                    refine pw_blk hT 1 (S' := (100, [some (pvR 124), some (pvI n1)], [pvI (-1)], M)) rfl ⟨trivial, trivial⟩ ?_
                    exact pw_ret hT rfl (r := some (pvI (-1))) (M' := M) ⟨rfl, rfl⟩ ⟨⟨_, rfl, (zr_wide (show (-1) ≤ Int32.toInt (-1) ∧ Int32.toInt (-1) ≤ (-1) from (by decide)) (by decide) (by decide))⟩, rfl⟩
def fpL_X10_two_124_x : List (Nat × Nat × Nat) := [(0, 124, 33), (0, 124, 36), (0, 141, 0), (0, 142, 0), (0, 143, 0), (0, 144, 0)]
def fp_X10_two_124_x (q k : Nat) : Bool := pvfp fpL_X10_two_124_x q k
theorem fp_X10_two_124_x_fp_X10_goes_124_x_x_x (a b : Nat) (h : fp_X10_goes_124_x_x_x a b = true) : fp_X10_two_124_x a b = true := pvfp_sub (l1 := fpL_X10_goes_124_x_x_x) (l2 := fpL_X10_two_124_x) (by decide) a b h
theorem fp_X10_two_124_x_fp_X10_layOpen_124 (a b : Nat) (h : fp_X10_layOpen_124 a b = true) : fp_X10_two_124_x a b = true := pvfp_sub (l1 := fpL_X10_layOpen_124) (l2 := fpL_X10_two_124_x) (by decide) a b h
theorem fp_X10_two_124_x_fp_X10_layRain_124 (a b : Nat) (h : fp_X10_layRain_124 a b = true) : fp_X10_two_124_x a b = true := pvfp_sub (l1 := fpL_X10_layRain_124) (l2 := fpL_X10_two_124_x) (by decide) a b h
theorem fp_X10_two_124_x_fp_X10_layRound_124 (a b : Nat) (h : fp_X10_layRound_124 a b = true) : fp_X10_two_124_x a b = true := pvfp_sub (l1 := fpL_X10_layRound_124) (l2 := fpL_X10_two_124_x) (by decide) a b h
set_option maxHeartbeats 4000000 in
set_option maxRecDepth 10000 in
theorem sf_X10_two_124_x (M : pvM) (hok : pvOk M) (n1 : Int32) (hz : pvWF M) (d : Nat) : PW 93 d (0, [some (pvR 124), some (pvI n1), none, none, none], [], M) (fun r X => (∃ x : Int32, r = some (pvI x) ∧ (-1) ≤ Int32.toInt x ∧ Int32.toInt x ≤ 9000000) ∧ pvOk X ∧ pvFr fp_X10_two_124_x M X) := by
  have hT : pvdom 93 = pvD_93 := rfl
  refine pw_blk hT 4 (S' := (4, [some (pvR 124), some (pvI n1), none, none, none], [pvI 1, pvI 0, pvI n1, pvR 124], M)) rfl ⟨trivial, trivial, trivial, trivial, trivial⟩ ?_
  refine pw_callT hT (as := [pvR 124, pvI n1, pvI 0, pvI 1]) (lo1 := [some (pvR 124), some (pvI n1), some (pvI 0), some (pvI 1)]) (d1 := d) (rest := []) rfl rfl rfl rfl rfl (fun _ => rfl) (Nat.zero_le _) rfl rfl rfl (sf_X10_in_124_x_x_x M hok n1 0 1 d) ?_
  by_cases c6_ : n1 < 0
  · refine pw_eqI (if_pos c6_) ?_
    have b7_ : (-2147483648) ≤ Int32.toInt n1 ∧ Int32.toInt n1 ≤ (-1) := zr_lt_l (-1) c6_ (zbnd n1) (show 0 ≤ Int32.toInt 0 ∧ Int32.toInt 0 ≤ 0 from (by decide)) (by decide)
    show PW 93 d (7, [some (pvR 124), some (pvI n1), none, none, none], [pvI 0], M) _
    refine pw_ifn hT (c := 0 = 0) rfl rfl (fun c8_ => absurd (by decide) c8_) (fun c8_ => ?_)
    refine pw_blk hT 1 (S' := (11, [some (pvR 124), some (pvI n1), none, none, none], [pvI (-1)], M)) rfl ⟨trivial, trivial⟩ ?_
    exact pw_ret hT rfl (r := some (pvI (-1))) (M' := M) ⟨rfl, rfl⟩ ⟨⟨_, rfl, (zr_wide (show (-1) ≤ Int32.toInt (-1) ∧ Int32.toInt (-1) ≤ (-1) from (by decide)) (by decide) (by decide))⟩, hok, pvfr_0⟩
  · refine pw_eqI (if_neg c6_) ?_
    have b9_ : 0 ≤ Int32.toInt n1 ∧ Int32.toInt n1 ≤ 2147483647 := zr_nlt_l 0 c6_ (zbnd n1) (show 0 ≤ Int32.toInt 0 ∧ Int32.toInt 0 ≤ 0 from (by decide)) (by decide)
    by_cases c10_ : 1 < n1
    · refine pw_eqI (if_pos c10_) ?_
      have b11_ : 2 ≤ Int32.toInt n1 ∧ Int32.toInt n1 ≤ 2147483647 := zr_lt_r 2 c10_ b9_ (show 1 ≤ Int32.toInt 1 ∧ Int32.toInt 1 ≤ 1 from (by decide)) (by decide)
      show PW 93 d (7, [some (pvR 124), some (pvI n1), none, none, none], [pvI 0], M) _
      refine pw_ifn hT (c := 0 = 0) rfl rfl (fun c12_ => absurd (by decide) c12_) (fun c12_ => ?_)
      refine pw_blk hT 1 (S' := (11, [some (pvR 124), some (pvI n1), none, none, none], [pvI (-1)], M)) rfl ⟨trivial, trivial⟩ ?_
      exact pw_ret hT rfl (r := some (pvI (-1))) (M' := M) ⟨rfl, rfl⟩ ⟨⟨_, rfl, (zr_wide (show (-1) ≤ Int32.toInt (-1) ∧ Int32.toInt (-1) ≤ (-1) from (by decide)) (by decide) (by decide))⟩, hok, pvfr_0⟩
    · refine pw_eqI (if_neg c10_) ?_
      have b13_ : 0 ≤ Int32.toInt n1 ∧ Int32.toInt n1 ≤ 1 := zr_nlt_r 1 c10_ b9_ (show 1 ≤ Int32.toInt 1 ∧ Int32.toInt 1 ≤ 1 from (by decide)) (by decide)
      show PW 93 d (7, [some (pvR 124), some (pvI n1), none, none, none], [pvI 1], M) _
      refine pw_ifn hT (c := 1 = 0) rfl rfl (fun c14_ => ?_) (fun c14_ => absurd c14_ (by decide))
      refine pw_blk hT 1 (S' := (13, [some (pvR 124), some (pvI n1), none, none, none], [pvR 124], M)) rfl ⟨trivial, trivial⟩ ?_
      refine pw_callV hT (as := [pvR 124]) (lo1 := [some (pvR 124), none, none]) (d1 := d) (rest := []) rfl rfl rfl rfl rfl (fun _ => rfl) (Nat.zero_le _) rfl rfl rfl (sf_X10_layRain_124 M hok hz d) (fun M16_ o18_ g19_ => ?_)
      have f20_ : pvFr fp_X10_two_124_x M M16_ := pvfr_t g19_ pvfr_0 fp_X10_two_124_x_fp_X10_layRain_124
      refine pw_blk hT 1 (S' := (17, [some (pvR 124), some (pvI n1), none, none, none], [pvR 124], M16_)) rfl ⟨trivial, trivial⟩ ?_
      refine pw_callV hT (as := [pvR 124]) (lo1 := [some (pvR 124), none]) (d1 := d) (rest := []) rfl rfl rfl rfl rfl (fun _ => rfl) (Nat.zero_le _) rfl rfl rfl (sf_X10_layRound_124 M16_ o18_ d) (fun M22_ o24_ g25_ => ?_)
      have f26_ : pvFr fp_X10_two_124_x M M22_ := pvfr_t g25_ f20_ fp_X10_two_124_x_fp_X10_layRound_124
      refine pw_blk hT 1 (S' := (21, [some (pvR 124), some (pvI n1), none, none, none], [pvR 124], M22_)) rfl ⟨trivial, trivial⟩ ?_
      refine pw_callV hT (as := [pvR 124]) (lo1 := [some (pvR 124), none]) (d1 := d) (rest := []) rfl rfl rfl rfl rfl (fun _ => rfl) (Nat.zero_le _) rfl rfl rfl (sf_X10_layOpen_124 M22_ o24_ d) (fun M28_ o30_ g31_ => ?_)
      have f32_ : pvFr fp_X10_two_124_x M M28_ := pvfr_t g31_ f26_ fp_X10_two_124_x_fp_X10_layOpen_124
      have b33_ : 0 ≤ Int32.toInt (M28_.1 124 37) ∧ Int32.toInt (M28_.1 124 37) ≤ 7 := pvok_r o30_ 124 37 rfl
      have q34_ : Int32.toInt ((M28_.1 124 37) / 2) = Int32.toInt (M28_.1 124 37) / 2 := by have u0 := b33_; have u := zdiv_p (M28_.1 124 37) 2 (by omega) (by decide) (by decide); have e0 : nI 2 = (2 : Int32) := rfl; rw [e0] at u; omega
      have b35_ : 0 ≤ Int32.toInt ((M28_.1 124 37) / 2) ∧ Int32.toInt ((M28_.1 124 37) / 2) ≤ 3 := (by have u0 := b33_; omega)
      obtain ⟨q37_, b36_⟩ : (Int32.toInt ((M28_.1 124 37) - ((M28_.1 124 37) / 2)) = Int32.toInt (M28_.1 124 37) - Int32.toInt ((M28_.1 124 37) / 2)) ∧ ((-3) ≤ Int32.toInt ((M28_.1 124 37) - ((M28_.1 124 37) / 2)) ∧ Int32.toInt ((M28_.1 124 37) - ((M28_.1 124 37) / 2)) ≤ 7) := zsub_r (M28_.1 124 37) ((M28_.1 124 37) / 2) (-3) 7 b33_ b35_ (by decide) (by decide) (by decide) (by decide)
      have b38_ : 0 ≤ Int32.toInt (M28_.1 124 1) ∧ Int32.toInt (M28_.1 124 1) ≤ 9999 := pvok_r o30_ 124 1 rfl
      refine pw_blk hT 13 (S' := (43, [some (pvR 124), some (pvI n1), some (pvI ((M28_.1 124 37) - ((M28_.1 124 37) / 2))), none, none], [pvI (M28_.1 124 1), pvI ((M28_.1 124 37) - ((M28_.1 124 37) / 2)), pvI 0, pvR 124], M28_)) rfl ⟨trivial, rfl, trivial, rfl, trivial, (by decide), trivial, trivial, trivial, trivial, trivial, trivial, rfl, trivial⟩ ?_
      refine pw_callG hT (as := [pvR 124, pvI 0, pvI ((M28_.1 124 37) - ((M28_.1 124 37) / 2)), pvI (M28_.1 124 1)]) (lo1 := [some (pvR 124), some (pvI 0), some (pvI ((M28_.1 124 37) - ((M28_.1 124 37) / 2))), some (pvI (M28_.1 124 1)), none, none, none, none, none]) (d1 := d) (rest := []) rfl rfl rfl rfl rfl (fun _ => rfl) (Nat.zero_le _) rfl rfl rfl (sf_X10_goes_124_x_x_x M28_ o30_ 0 ((M28_.1 124 37) - ((M28_.1 124 37) / 2)) (M28_.1 124 1) (zr_wide (show 0 ≤ Int32.toInt 0 ∧ Int32.toInt 0 ≤ 0 from (by decide)) (by decide) (by decide)) (by have u0 := b36_; omega) (zr_wide b38_ (by decide) (by decide)) d) (fun x39_ M40_ b41_ o42_ g43_ => ?_)
      have f44_ : pvFr fp_X10_two_124_x M M40_ := pvfr_t g43_ f32_ fp_X10_two_124_x_fp_X10_goes_124_x_x_x
      have b45_ : 0 ≤ Int32.toInt (M40_.1 124 37) ∧ Int32.toInt (M40_.1 124 37) ≤ 7 := pvok_r o42_ 124 37 rfl
      have b46_ : 0 ≤ Int32.toInt (M40_.1 124 1) ∧ Int32.toInt (M40_.1 124 1) ≤ 9999 := pvok_r o42_ 124 1 rfl
      refine pw_blk hT 7 (S' := (57, [some (pvR 124), some (pvI n1), some (pvI ((M28_.1 124 37) - ((M28_.1 124 37) / 2))), some (pvI x39_), none], [pvI (M40_.1 124 1), pvI (M40_.1 124 37), pvI ((M28_.1 124 37) - ((M28_.1 124 37) / 2)), pvR 124], M40_)) rfl ⟨trivial, trivial, trivial, trivial, rfl, trivial, rfl, trivial⟩ ?_
      refine pw_callG hT (as := [pvR 124, pvI ((M28_.1 124 37) - ((M28_.1 124 37) / 2)), pvI (M40_.1 124 37), pvI (M40_.1 124 1)]) (lo1 := [some (pvR 124), some (pvI ((M28_.1 124 37) - ((M28_.1 124 37) / 2))), some (pvI (M40_.1 124 37)), some (pvI (M40_.1 124 1)), none, none, none, none, none]) (d1 := d) (rest := []) rfl rfl rfl rfl rfl (fun _ => rfl) (Nat.zero_le _) rfl rfl rfl (sf_X10_goes_124_x_x_x M40_ o42_ ((M28_.1 124 37) - ((M28_.1 124 37) / 2)) (M40_.1 124 37) (M40_.1 124 1) (by have u0 := b36_; omega) b45_ (zr_wide b46_ (by decide) (by decide)) d) (fun x47_ M48_ b49_ o50_ g51_ => ?_)
      have f52_ : pvFr fp_X10_two_124_x M M48_ := pvfr_t g51_ f44_ fp_X10_two_124_x_fp_X10_goes_124_x_x_x
      refine pw_blk hT 2 (S' := (63, [some (pvR 124), some (pvI n1), some (pvI ((M28_.1 124 37) - ((M28_.1 124 37) / 2))), some (pvI x39_), some (pvI x47_)], [pvI n1], M48_)) rfl ⟨trivial, trivial, trivial⟩ ?_
      refine pw_ifn hT (c := n1 = 0) rfl rfl (fun c53_ => ?_) (fun c53_ => ?_)
      · have b54_ : 1 ≤ Int32.toInt n1 ∧ Int32.toInt n1 ≤ 1 := (by have u0 := b13_; have u1 := (not_congr (zi_eq _ _)).mp c53_; have u2 := (show 0 ≤ Int32.toInt 0 ∧ Int32.toInt 0 ≤ 0 from (by decide)); omega)
        refine pw_blk hT 2 (S' := (76, [some (pvR 124), some (pvI n1), some (pvI ((M28_.1 124 37) - ((M28_.1 124 37) / 2))), some (pvI x39_), some (pvI x47_)], [pvI x47_, pvI x39_], M48_)) rfl ⟨trivial, trivial, trivial⟩ ?_
        refine pw_ic hT (c := x39_ ≤ x47_) rfl rfl (fun c55_ => ?_) (fun c55_ => ?_)
        · have d56_ : Int32.toInt x39_ ≤ Int32.toInt x47_ := (zi_le _ _).mp c55_
          refine pw_blk hT 1 (S' := (85, [some (pvR 124), some (pvI n1), some (pvI ((M28_.1 124 37) - ((M28_.1 124 37) / 2))), some (pvI x39_), some (pvI x47_)], [pvI x47_], M48_)) rfl ⟨trivial, trivial⟩ ?_
          exact pw_ret hT rfl (r := some (pvI x47_)) (M' := M48_) ⟨rfl, rfl⟩ ⟨⟨_, rfl, (zr_wide b49_ (by decide) (by decide))⟩, o50_, f52_⟩
        · have b57_ : 1 ≤ Int32.toInt x39_ ∧ Int32.toInt x39_ ≤ 64000 := zr_nle_l 1 c55_ b41_ b49_ (by decide)
          have b58_ : 0 ≤ Int32.toInt x47_ ∧ Int32.toInt x47_ ≤ 63999 := zr_nle_r 63999 c55_ b49_ b57_ (by decide)
          have d59_ : Int32.toInt x39_ > Int32.toInt x47_ := Int.not_le.mp ((not_congr (zi_le _ _)).mp c55_)
          refine pw_blk hT 2 (S' := (85, [some (pvR 124), some (pvI n1), some (pvI ((M28_.1 124 37) - ((M28_.1 124 37) / 2))), some (pvI x39_), some (pvI x47_)], [pvI x39_], M48_)) rfl ⟨trivial, trivial, trivial⟩ ?_
          exact pw_ret hT rfl (r := some (pvI x39_)) (M' := M48_) ⟨rfl, rfl⟩ ⟨⟨_, rfl, (zr_wide b57_ (by decide) (by decide))⟩, o50_, f52_⟩
      · have b60_ : 0 ≤ Int32.toInt n1 ∧ Int32.toInt n1 ≤ 0 := (by have u0 := b13_; have u1 := (zi_eq _ _).mp c53_; have u2 := (show 0 ≤ Int32.toInt 0 ∧ Int32.toInt 0 ≤ 0 from (by decide)); omega)
        refine pw_blk hT 1 (S' := (67, [some (pvR 124), some (pvI n1), some (pvI ((M28_.1 124 37) - ((M28_.1 124 37) / 2))), some (pvI x39_), some (pvI x47_)], [pvR 124], M48_)) rfl ⟨trivial, trivial⟩ ?_
        refine pw_callGp hT (as := [pvR 124]) (lo1 := [some (pvR 124)]) (d1 := d) (rest := []) rfl rfl rfl rfl rfl (fun _ => rfl) (Nat.zero_le _) rfl rfl rfl (sf_X10_harmTillEnd_124 M48_ o50_ d) (fun x61_ b63_ => ?_)
        refine pw_blk hT 1 (S' := (85, [some (pvR 124), some (pvI n1), some (pvI ((M28_.1 124 37) - ((M28_.1 124 37) / 2))), some (pvI x39_), some (pvI x47_)], [pvI x61_], M48_)) rfl ⟨trivial, trivial⟩ ?_
        exact pw_ret hT rfl (r := some (pvI x61_)) (M' := M48_) ⟨rfl, rfl⟩ ⟨⟨_, rfl, (zr_wide b63_ (by decide) (by decide))⟩, o50_, f52_⟩
set_option maxHeartbeats 4000000 in
set_option maxRecDepth 10000 in
theorem sf_X7_has_8_x (M : pvM) (hok : pvOk M) (n1 : Int32) (d : Nat) : PW 159 d (0, [some (pvR 8), some (pvI n1)], [], M) (fun r X => r = some (pvI ((if n1 < 0 then 0 else (if (M.1 8 1) ≤ n1 then 0 else 1)))) ∧ X = M) := by
  have hT : pvdom 159 = pvD_159 := rfl
  refine pw_blk hT 1 (S' := (1, [some (pvR 8), some (pvI n1)], [pvI n1], M)) rfl ⟨trivial, trivial⟩ ?_
  refine pw_if hT (c := n1 < 0) rfl rfl (fun c1_ => ?_) (fun c1_ => ?_)
  · have b2_ : (-2147483648) ≤ Int32.toInt n1 ∧ Int32.toInt n1 ≤ (-1) := zr_lt_l (-1) c1_ (zbnd n1) (show 0 ≤ Int32.toInt 0 ∧ Int32.toInt 0 ≤ 0 from (by decide)) (by decide)
    refine pw_blk hT 1 (S' := (17, [some (pvR 8), some (pvI n1)], [pvI 0], M)) rfl ⟨trivial, trivial⟩ ?_
    exact pw_ret hT rfl (r := some (pvI 0)) (M' := M) ⟨Or.inl rfl, rfl, rfl⟩ ⟨(by rw [if_pos c1_]), rfl⟩
  · have b3_ : 0 ≤ Int32.toInt n1 ∧ Int32.toInt n1 ≤ 2147483647 := zr_nlt_l 0 c1_ (zbnd n1) (show 0 ≤ Int32.toInt 0 ∧ Int32.toInt 0 ≤ 0 from (by decide)) (by decide)
    have b4_ : 0 ≤ Int32.toInt (M.1 8 1) ∧ Int32.toInt (M.1 8 1) ≤ 7 := pvok_r hok 8 1 rfl
    refine pw_blk hT 3 (S' := (9, [some (pvR 8), some (pvI n1)], [pvI (M.1 8 1), pvI n1], M)) rfl ⟨trivial, trivial, rfl, trivial⟩ ?_
    refine pw_ic hT (c := (M.1 8 1) ≤ n1) rfl rfl (fun c5_ => ?_) (fun c5_ => ?_)
    · have d6_ : Int32.toInt (M.1 8 1) ≤ Int32.toInt n1 := (zi_le _ _).mp c5_
      refine pw_blk hT 1 (S' := (17, [some (pvR 8), some (pvI n1)], [pvI 0], M)) rfl ⟨trivial, trivial⟩ ?_
      exact pw_ret hT rfl (r := some (pvI 0)) (M' := M) ⟨Or.inl rfl, rfl, rfl⟩ ⟨(by rw [if_neg c1_, if_pos c5_]), rfl⟩
    · have b7_ : 1 ≤ Int32.toInt (M.1 8 1) ∧ Int32.toInt (M.1 8 1) ≤ 7 := zr_nle_l 1 c5_ b4_ b3_ (by decide)
      have b8_ : 0 ≤ Int32.toInt n1 ∧ Int32.toInt n1 ≤ 6 := zr_nle_r 6 c5_ b3_ b7_ (by decide)
      have d9_ : Int32.toInt (M.1 8 1) > Int32.toInt n1 := Int.not_le.mp ((not_congr (zi_le _ _)).mp c5_)
      refine pw_blk hT 2 (S' := (17, [some (pvR 8), some (pvI n1)], [pvI 1], M)) rfl ⟨trivial, trivial, trivial⟩ ?_
      exact pw_ret hT rfl (r := some (pvI 1)) (M' := M) ⟨Or.inr rfl, rfl, rfl⟩ ⟨(by rw [if_neg c1_, if_neg c5_]), rfl⟩
set_option maxHeartbeats 4000000 in
set_option maxRecDepth 10000 in
theorem sf_X9_within_x_x_x (M : pvM) (hok : pvOk M) (n0 : Int32) (n1 : Int32) (n2 : Int32) (d : Nat) : PW 211 d (0, [some (pvI n0), some (pvI n1), some (pvI n2)], [], M) (fun r X => r = some (pvI ((if n0 < n1 then 0 else (if n2 < n0 then 0 else 1)))) ∧ X = M) := by
  have hT : pvdom 211 = pvD_211 := rfl
  refine pw_blk hT 2 (S' := (2, [some (pvI n0), some (pvI n1), some (pvI n2)], [pvI n1, pvI n0], M)) rfl ⟨trivial, trivial, trivial⟩ ?_
  refine pw_ic hT (c := n0 < n1) rfl rfl (fun c1_ => ?_) (fun c1_ => ?_)
  · have b2_ : (-2147483648) ≤ Int32.toInt n0 ∧ Int32.toInt n0 ≤ 2147483646 := zr_lt_l 2147483646 c1_ (zbnd n0) (zbnd n1) (by decide)
    have b3_ : (-2147483647) ≤ Int32.toInt n1 ∧ Int32.toInt n1 ≤ 2147483647 := zr_lt_r (-2147483647) c1_ (zbnd n1) b2_ (by decide)
    have d4_ : Int32.toInt n0 < Int32.toInt n1 := (zi_lt _ _).mp c1_
    refine pw_blk hT 1 (S' := (15, [some (pvI n0), some (pvI n1), some (pvI n2)], [pvI 0], M)) rfl ⟨trivial, trivial⟩ ?_
    exact pw_ret hT rfl (r := some (pvI 0)) (M' := M) ⟨Or.inl rfl, rfl, rfl⟩ ⟨(by rw [if_pos c1_]), rfl⟩
  · have d5_ : Int32.toInt n0 ≥ Int32.toInt n1 := Int.not_lt.mp ((not_congr (zi_lt _ _)).mp c1_)
    refine pw_blk hT 2 (S' := (7, [some (pvI n0), some (pvI n1), some (pvI n2)], [pvI n2, pvI n0], M)) rfl ⟨trivial, trivial, trivial⟩ ?_
    refine pw_ic hT (c := n2 < n0) rfl rfl (fun c6_ => ?_) (fun c6_ => ?_)
    · have b7_ : (-2147483648) ≤ Int32.toInt n2 ∧ Int32.toInt n2 ≤ 2147483646 := zr_lt_l 2147483646 c6_ (zbnd n2) (zbnd n0) (by decide)
      have b8_ : (-2147483647) ≤ Int32.toInt n0 ∧ Int32.toInt n0 ≤ 2147483647 := zr_lt_r (-2147483647) c6_ (zbnd n0) b7_ (by decide)
      have d9_ : Int32.toInt n2 < Int32.toInt n0 := (zi_lt _ _).mp c6_
      refine pw_blk hT 1 (S' := (15, [some (pvI n0), some (pvI n1), some (pvI n2)], [pvI 0], M)) rfl ⟨trivial, trivial⟩ ?_
      exact pw_ret hT rfl (r := some (pvI 0)) (M' := M) ⟨Or.inl rfl, rfl, rfl⟩ ⟨(by rw [if_neg c1_, if_pos c6_]), rfl⟩
    · have d10_ : Int32.toInt n2 ≥ Int32.toInt n0 := Int.not_lt.mp ((not_congr (zi_lt _ _)).mp c6_)
      refine pw_blk hT 2 (S' := (15, [some (pvI n0), some (pvI n1), some (pvI n2)], [pvI 1], M)) rfl ⟨trivial, trivial, trivial⟩ ?_
      exact pw_ret hT rfl (r := some (pvI 1)) (M' := M) ⟨Or.inr rfl, rfl, rfl⟩ ⟨(by rw [if_neg c1_, if_neg c6_]), rfl⟩
set_option maxHeartbeats 4000000 in
set_option maxRecDepth 10000 in
theorem sf_X0_bodyFrom_0_0 (M : pvM) (hok : pvOk M) (d : Nat) : PW 1 d (0, [some (pvI 0), some (pvI 0), none, none, none], [], M) (fun r X => r = some (pvI (((pvstab 1041).getD (Int32.toNatClampNeg ((0 * 3) + 0)) 0))) ∧ X = M) := by
  have hT : pvdom 1 = pvD_1 := rfl
  refine pw_blk hT 4 (S' := (4, [some (pvI 0), some (pvI 0), some (pvI 0), some (pvI 0), none], [], M)) rfl ⟨trivial, trivial, trivial, trivial, trivial⟩ ?_
  refine pw_blk hT 3 (S' := (9, [some (pvI 0), some (pvI 0), some (pvI 0), some (pvI 0), none], [pvI (Int32.ofNat (pvstab 1041).length), pvI 0], M)) rfl ⟨trivial, trivial, (by decide), trivial⟩ ?_
  refine pw_ic hT (c := (Int32.ofNat (pvstab 1041).length) ≤ 0) rfl rfl (fun c1_ => absurd c1_ (by decide)) (fun c1_ => ?_)
  refine pw_blk hT 1 (S' := (13, [some (pvI 0), some (pvI 0), some (pvI 0), some (pvI 0), none], [pvI 0], M)) rfl ⟨trivial, trivial⟩ ?_
  refine pw_if hT (c := 0 < 0) rfl rfl (fun c2_ => absurd c2_ (by decide)) (fun c2_ => ?_)
  refine pw_blk hT 7 (S' := (25, [some (pvI 0), some (pvI 0), some (pvI 0), some (pvI 0), some (pvI ((0 * 3) + 0))], [pvI ((0 * 3) + 0)], M)) rfl ⟨trivial, trivial, trivial, trivial, trivial, trivial, trivial, trivial⟩ ?_
  refine pw_if hT (c := ((0 * 3) + 0) < 0) rfl rfl (fun c3_ => absurd c3_ (by decide)) (fun c3_ => ?_)
  refine pw_blk hT 3 (S' := (34, [some (pvI 0), some (pvI 0), some (pvI 0), some (pvI 0), some (pvI ((0 * 3) + 0))], [pvI (Int32.ofNat (pvstab 1041).length), pvI ((0 * 3) + 0)], M)) rfl ⟨trivial, trivial, (by decide), trivial⟩ ?_
  refine pw_ic hT (c := (Int32.ofNat (pvstab 1041).length) ≤ ((0 * 3) + 0)) rfl rfl (fun c4_ => absurd c4_ (by decide)) (fun c4_ => ?_)
  refine pw_blk hT 3 (S' := (43, [some (pvI 0), some (pvI 0), some (pvI 0), some (pvI 0), some (pvI ((0 * 3) + 0))], [pvI ((pvstab 1041).getD (Int32.toNatClampNeg ((0 * 3) + 0)) 0)], M)) rfl ⟨trivial, trivial, ⟨by decide, (zr_in (n := 21) (show 0 ≤ Int32.toInt ((0 * 3) + 0) ∧ Int32.toInt ((0 * 3) + 0) ≤ 0 from (by decide)) (by decide) (by decide))⟩, trivial⟩ ?_
  refine pw_if hT (c := ((pvstab 1041).getD (Int32.toNatClampNeg ((0 * 3) + 0)) 0) = 0) rfl rfl (fun c5_ => absurd c5_ (by decide)) (fun c5_ => ?_)
  refine pw_blk hT 3 (S' := (52, [some (pvI 0), some (pvI 0), some (pvI 0), some (pvI 0), some (pvI ((0 * 3) + 0))], [pvI ((pvstab 1041).getD (Int32.toNatClampNeg ((0 * 3) + 0)) 0)], M)) rfl ⟨trivial, trivial, ⟨by decide, (zr_in (n := 21) (show 0 ≤ Int32.toInt ((0 * 3) + 0) ∧ Int32.toInt ((0 * 3) + 0) ≤ 0 from (by decide)) (by decide) (by decide))⟩, trivial⟩ ?_
  exact pw_ret hT rfl (r := some (pvI ((pvstab 1041).getD (Int32.toNatClampNeg ((0 * 3) + 0)) 0))) (M' := M) ⟨rfl, rfl⟩ ⟨rfl, rfl⟩
set_option maxHeartbeats 4000000 in
set_option maxRecDepth 10000 in
theorem sf_X0_bodyFrom_0_1 (M : pvM) (hok : pvOk M) (d : Nat) : PW 1 d (0, [some (pvI 0), some (pvI 1), none, none, none], [], M) (fun r X => r = some (pvI (((pvstab 1041).getD (Int32.toNatClampNeg ((0 * 3) + 1)) 0))) ∧ X = M) := by
  have hT : pvdom 1 = pvD_1 := rfl
  refine pw_blk hT 4 (S' := (4, [some (pvI 0), some (pvI 1), some (pvI 0), some (pvI 0), none], [], M)) rfl ⟨trivial, trivial, trivial, trivial, trivial⟩ ?_
  refine pw_blk hT 3 (S' := (9, [some (pvI 0), some (pvI 1), some (pvI 0), some (pvI 0), none], [pvI (Int32.ofNat (pvstab 1041).length), pvI 0], M)) rfl ⟨trivial, trivial, (by decide), trivial⟩ ?_
  refine pw_ic hT (c := (Int32.ofNat (pvstab 1041).length) ≤ 0) rfl rfl (fun c1_ => absurd c1_ (by decide)) (fun c1_ => ?_)
  refine pw_blk hT 1 (S' := (13, [some (pvI 0), some (pvI 1), some (pvI 0), some (pvI 0), none], [pvI 0], M)) rfl ⟨trivial, trivial⟩ ?_
  refine pw_if hT (c := 0 < 0) rfl rfl (fun c2_ => absurd c2_ (by decide)) (fun c2_ => ?_)
  refine pw_blk hT 7 (S' := (25, [some (pvI 0), some (pvI 1), some (pvI 0), some (pvI 0), some (pvI ((0 * 3) + 1))], [pvI ((0 * 3) + 1)], M)) rfl ⟨trivial, trivial, trivial, trivial, trivial, trivial, trivial, trivial⟩ ?_
  refine pw_if hT (c := ((0 * 3) + 1) < 0) rfl rfl (fun c3_ => absurd c3_ (by decide)) (fun c3_ => ?_)
  refine pw_blk hT 3 (S' := (34, [some (pvI 0), some (pvI 1), some (pvI 0), some (pvI 0), some (pvI ((0 * 3) + 1))], [pvI (Int32.ofNat (pvstab 1041).length), pvI ((0 * 3) + 1)], M)) rfl ⟨trivial, trivial, (by decide), trivial⟩ ?_
  refine pw_ic hT (c := (Int32.ofNat (pvstab 1041).length) ≤ ((0 * 3) + 1)) rfl rfl (fun c4_ => absurd c4_ (by decide)) (fun c4_ => ?_)
  refine pw_blk hT 3 (S' := (43, [some (pvI 0), some (pvI 1), some (pvI 0), some (pvI 0), some (pvI ((0 * 3) + 1))], [pvI ((pvstab 1041).getD (Int32.toNatClampNeg ((0 * 3) + 1)) 0)], M)) rfl ⟨trivial, trivial, ⟨by decide, (zr_in (n := 21) (show 1 ≤ Int32.toInt ((0 * 3) + 1) ∧ Int32.toInt ((0 * 3) + 1) ≤ 1 from (by decide)) (by decide) (by decide))⟩, trivial⟩ ?_
  refine pw_if hT (c := ((pvstab 1041).getD (Int32.toNatClampNeg ((0 * 3) + 1)) 0) = 0) rfl rfl (fun c5_ => absurd c5_ (by decide)) (fun c5_ => ?_)
  refine pw_blk hT 3 (S' := (52, [some (pvI 0), some (pvI 1), some (pvI 0), some (pvI 0), some (pvI ((0 * 3) + 1))], [pvI ((pvstab 1041).getD (Int32.toNatClampNeg ((0 * 3) + 1)) 0)], M)) rfl ⟨trivial, trivial, ⟨by decide, (zr_in (n := 21) (show 1 ≤ Int32.toInt ((0 * 3) + 1) ∧ Int32.toInt ((0 * 3) + 1) ≤ 1 from (by decide)) (by decide) (by decide))⟩, trivial⟩ ?_
  exact pw_ret hT rfl (r := some (pvI ((pvstab 1041).getD (Int32.toNatClampNeg ((0 * 3) + 1)) 0))) (M' := M) ⟨rfl, rfl⟩ ⟨rfl, rfl⟩
set_option maxHeartbeats 4000000 in
set_option maxRecDepth 10000 in
theorem sf_X0_bodyFrom_0_2 (M : pvM) (hok : pvOk M) (d : Nat) : PW 1 d (0, [some (pvI 0), some (pvI 2), none, none, none], [], M) (fun r X => r = some (pvI (((pvstab 1041).getD (Int32.toNatClampNeg ((0 * 3) + 2)) 0))) ∧ X = M) := by
  have hT : pvdom 1 = pvD_1 := rfl
  refine pw_blk hT 4 (S' := (4, [some (pvI 0), some (pvI 2), some (pvI 0), some (pvI 0), none], [], M)) rfl ⟨trivial, trivial, trivial, trivial, trivial⟩ ?_
  refine pw_blk hT 3 (S' := (9, [some (pvI 0), some (pvI 2), some (pvI 0), some (pvI 0), none], [pvI (Int32.ofNat (pvstab 1041).length), pvI 0], M)) rfl ⟨trivial, trivial, (by decide), trivial⟩ ?_
  refine pw_ic hT (c := (Int32.ofNat (pvstab 1041).length) ≤ 0) rfl rfl (fun c1_ => absurd c1_ (by decide)) (fun c1_ => ?_)
  refine pw_blk hT 1 (S' := (13, [some (pvI 0), some (pvI 2), some (pvI 0), some (pvI 0), none], [pvI 0], M)) rfl ⟨trivial, trivial⟩ ?_
  refine pw_if hT (c := 0 < 0) rfl rfl (fun c2_ => absurd c2_ (by decide)) (fun c2_ => ?_)
  refine pw_blk hT 7 (S' := (25, [some (pvI 0), some (pvI 2), some (pvI 0), some (pvI 0), some (pvI ((0 * 3) + 2))], [pvI ((0 * 3) + 2)], M)) rfl ⟨trivial, trivial, trivial, trivial, trivial, trivial, trivial, trivial⟩ ?_
  refine pw_if hT (c := ((0 * 3) + 2) < 0) rfl rfl (fun c3_ => absurd c3_ (by decide)) (fun c3_ => ?_)
  refine pw_blk hT 3 (S' := (34, [some (pvI 0), some (pvI 2), some (pvI 0), some (pvI 0), some (pvI ((0 * 3) + 2))], [pvI (Int32.ofNat (pvstab 1041).length), pvI ((0 * 3) + 2)], M)) rfl ⟨trivial, trivial, (by decide), trivial⟩ ?_
  refine pw_ic hT (c := (Int32.ofNat (pvstab 1041).length) ≤ ((0 * 3) + 2)) rfl rfl (fun c4_ => absurd c4_ (by decide)) (fun c4_ => ?_)
  refine pw_blk hT 3 (S' := (43, [some (pvI 0), some (pvI 2), some (pvI 0), some (pvI 0), some (pvI ((0 * 3) + 2))], [pvI ((pvstab 1041).getD (Int32.toNatClampNeg ((0 * 3) + 2)) 0)], M)) rfl ⟨trivial, trivial, ⟨by decide, (zr_in (n := 21) (show 2 ≤ Int32.toInt ((0 * 3) + 2) ∧ Int32.toInt ((0 * 3) + 2) ≤ 2 from (by decide)) (by decide) (by decide))⟩, trivial⟩ ?_
  refine pw_if hT (c := ((pvstab 1041).getD (Int32.toNatClampNeg ((0 * 3) + 2)) 0) = 0) rfl rfl (fun c5_ => absurd c5_ (by decide)) (fun c5_ => ?_)
  refine pw_blk hT 3 (S' := (52, [some (pvI 0), some (pvI 2), some (pvI 0), some (pvI 0), some (pvI ((0 * 3) + 2))], [pvI ((pvstab 1041).getD (Int32.toNatClampNeg ((0 * 3) + 2)) 0)], M)) rfl ⟨trivial, trivial, ⟨by decide, (zr_in (n := 21) (show 2 ≤ Int32.toInt ((0 * 3) + 2) ∧ Int32.toInt ((0 * 3) + 2) ≤ 2 from (by decide)) (by decide) (by decide))⟩, trivial⟩ ?_
  exact pw_ret hT rfl (r := some (pvI ((pvstab 1041).getD (Int32.toNatClampNeg ((0 * 3) + 2)) 0))) (M' := M) ⟨rfl, rfl⟩ ⟨rfl, rfl⟩
set_option maxHeartbeats 4000000 in
set_option maxRecDepth 10000 in
theorem sf_X3_above_1 (M : pvM) (hok : pvOk M) (d : Nat) : PW 131 d (0, [some (pvI 1)], [], M) (fun r X => r = some (pvI (((pvstab 1040).getD (Int32.toNatClampNeg 1) 0))) ∧ X = M) := by
  have hT : pvdom 131 = pvD_131 := rfl
  refine pw_blk hT 1 (S' := (1, [some (pvI 1)], [pvI 1], M)) rfl ⟨trivial, trivial⟩ ?_
  refine pw_if hT (c := 1 < 0) rfl rfl (fun c1_ => absurd c1_ (by decide)) (fun c1_ => ?_)
  refine pw_blk hT 3 (S' := (9, [some (pvI 1)], [pvI (Int32.ofNat (pvstab 1040).length), pvI 1], M)) rfl ⟨trivial, trivial, (by decide), trivial⟩ ?_
  refine pw_ic hT (c := 1 < (Int32.ofNat (pvstab 1040).length)) rfl rfl (fun c2_ => ?_) (fun c2_ => absurd (by decide) c2_)
  refine pw_blk hT 3 (S' := (21, [some (pvI 1)], [pvI ((pvstab 1040).getD (Int32.toNatClampNeg 1) 0)], M)) rfl ⟨trivial, trivial, ⟨by decide, (zr_in (n := 7) (show 1 ≤ Int32.toInt 1 ∧ Int32.toInt 1 ≤ 1 from (by decide)) (by decide) (by decide))⟩, trivial⟩ ?_
  exact pw_ret hT rfl (r := some (pvI ((pvstab 1040).getD (Int32.toNatClampNeg 1) 0))) (M' := M) ⟨rfl, rfl⟩ ⟨rfl, rfl⟩
set_option maxHeartbeats 4000000 in
set_option maxRecDepth 10000 in
theorem sf_X0_bodyFrom_1_0 (M : pvM) (hok : pvOk M) (d : Nat) : PW 1 d (0, [some (pvI 1), some (pvI 0), none, none, none], [], M) (fun r X => r = some (pvI (((pvstab 1041).getD (Int32.toNatClampNeg ((0 * 3) + 0)) 0))) ∧ X = M) := by
  have hT : pvdom 1 = pvD_1 := rfl
  refine pw_blk hT 4 (S' := (4, [some (pvI 1), some (pvI 0), some (pvI 1), some (pvI 0), none], [], M)) rfl ⟨trivial, trivial, trivial, trivial, trivial⟩ ?_
  refine pw_blk hT 3 (S' := (9, [some (pvI 1), some (pvI 0), some (pvI 1), some (pvI 0), none], [pvI (Int32.ofNat (pvstab 1041).length), pvI 0], M)) rfl ⟨trivial, trivial, (by decide), trivial⟩ ?_
  refine pw_ic hT (c := (Int32.ofNat (pvstab 1041).length) ≤ 0) rfl rfl (fun c1_ => absurd c1_ (by decide)) (fun c1_ => ?_)
  refine pw_blk hT 1 (S' := (13, [some (pvI 1), some (pvI 0), some (pvI 1), some (pvI 0), none], [pvI 1], M)) rfl ⟨trivial, trivial⟩ ?_
  refine pw_if hT (c := 1 < 0) rfl rfl (fun c2_ => absurd c2_ (by decide)) (fun c2_ => ?_)
  refine pw_blk hT 7 (S' := (25, [some (pvI 1), some (pvI 0), some (pvI 1), some (pvI 0), some (pvI ((1 * 3) + 0))], [pvI ((1 * 3) + 0)], M)) rfl ⟨trivial, trivial, trivial, trivial, trivial, trivial, trivial, trivial⟩ ?_
  refine pw_if hT (c := ((1 * 3) + 0) < 0) rfl rfl (fun c3_ => absurd c3_ (by decide)) (fun c3_ => ?_)
  refine pw_blk hT 3 (S' := (34, [some (pvI 1), some (pvI 0), some (pvI 1), some (pvI 0), some (pvI ((1 * 3) + 0))], [pvI (Int32.ofNat (pvstab 1041).length), pvI ((1 * 3) + 0)], M)) rfl ⟨trivial, trivial, (by decide), trivial⟩ ?_
  refine pw_ic hT (c := (Int32.ofNat (pvstab 1041).length) ≤ ((1 * 3) + 0)) rfl rfl (fun c4_ => absurd c4_ (by decide)) (fun c4_ => ?_)
  refine pw_blk hT 3 (S' := (43, [some (pvI 1), some (pvI 0), some (pvI 1), some (pvI 0), some (pvI ((1 * 3) + 0))], [pvI ((pvstab 1041).getD (Int32.toNatClampNeg ((1 * 3) + 0)) 0)], M)) rfl ⟨trivial, trivial, ⟨by decide, (zr_in (n := 21) (show 3 ≤ Int32.toInt ((1 * 3) + 0) ∧ Int32.toInt ((1 * 3) + 0) ≤ 3 from (by decide)) (by decide) (by decide))⟩, trivial⟩ ?_
  refine pw_if hT (c := ((pvstab 1041).getD (Int32.toNatClampNeg ((1 * 3) + 0)) 0) = 0) rfl rfl (fun c5_ => ?_) (fun c5_ => absurd (by decide) c5_)
  refine pw_blk hT 1 (S' := (54, [some (pvI 1), some (pvI 0), some (pvI 1), some (pvI 0), some (pvI ((1 * 3) + 0))], [pvI 1], M)) rfl ⟨trivial, trivial⟩ ?_
  refine pw_callT hT (as := [pvI 1]) (lo1 := [some (pvI 1)]) (d1 := d) (rest := []) rfl rfl rfl rfl rfl (fun h => absurd h (by decide)) (Nat.zero_le _) rfl rfl rfl (sf_X3_above_1 M hok d) ?_
  refine pw_eqI (show ((pvstab 1040).getD (Int32.toNatClampNeg 1) 0) = 0 from by decide) ?_
  show PW 1 d (57, [some (pvI 1), some (pvI 0), some (pvI 1), some (pvI 0), some (pvI ((1 * 3) + 0))], [pvI 0], M) _
  refine pw_blk hT 3 (S' := (4, [some (pvI 1), some (pvI 0), some (pvI 0), some (pvI (0 + 1)), some (pvI ((1 * 3) + 0))], [], M)) rfl ⟨trivial, trivial, trivial, trivial⟩ ?_
  refine pw_blk hT 3 (S' := (9, [some (pvI 1), some (pvI 0), some (pvI 0), some (pvI (0 + 1)), some (pvI ((1 * 3) + 0))], [pvI (Int32.ofNat (pvstab 1041).length), pvI (0 + 1)], M)) rfl ⟨trivial, trivial, (by decide), trivial⟩ ?_
  refine pw_ic hT (c := (Int32.ofNat (pvstab 1041).length) ≤ (0 + 1)) rfl rfl (fun c11_ => absurd c11_ (by decide)) (fun c11_ => ?_)
  refine pw_blk hT 1 (S' := (13, [some (pvI 1), some (pvI 0), some (pvI 0), some (pvI (0 + 1)), some (pvI ((1 * 3) + 0))], [pvI 0], M)) rfl ⟨trivial, trivial⟩ ?_
  refine pw_if hT (c := 0 < 0) rfl rfl (fun c12_ => absurd c12_ (by decide)) (fun c12_ => ?_)
  refine pw_blk hT 7 (S' := (25, [some (pvI 1), some (pvI 0), some (pvI 0), some (pvI (0 + 1)), some (pvI ((0 * 3) + 0))], [pvI ((0 * 3) + 0)], M)) rfl ⟨trivial, trivial, trivial, trivial, trivial, trivial, trivial, trivial⟩ ?_
  refine pw_if hT (c := ((0 * 3) + 0) < 0) rfl rfl (fun c13_ => absurd c13_ (by decide)) (fun c13_ => ?_)
  refine pw_blk hT 3 (S' := (34, [some (pvI 1), some (pvI 0), some (pvI 0), some (pvI (0 + 1)), some (pvI ((0 * 3) + 0))], [pvI (Int32.ofNat (pvstab 1041).length), pvI ((0 * 3) + 0)], M)) rfl ⟨trivial, trivial, (by decide), trivial⟩ ?_
  refine pw_ic hT (c := (Int32.ofNat (pvstab 1041).length) ≤ ((0 * 3) + 0)) rfl rfl (fun c14_ => absurd c14_ (by decide)) (fun c14_ => ?_)
  refine pw_blk hT 3 (S' := (43, [some (pvI 1), some (pvI 0), some (pvI 0), some (pvI (0 + 1)), some (pvI ((0 * 3) + 0))], [pvI ((pvstab 1041).getD (Int32.toNatClampNeg ((0 * 3) + 0)) 0)], M)) rfl ⟨trivial, trivial, ⟨by decide, (zr_in (n := 21) (show 0 ≤ Int32.toInt ((0 * 3) + 0) ∧ Int32.toInt ((0 * 3) + 0) ≤ 0 from (by decide)) (by decide) (by decide))⟩, trivial⟩ ?_
  refine pw_if hT (c := ((pvstab 1041).getD (Int32.toNatClampNeg ((0 * 3) + 0)) 0) = 0) rfl rfl (fun c15_ => absurd c15_ (by decide)) (fun c15_ => ?_)
  refine pw_blk hT 3 (S' := (52, [some (pvI 1), some (pvI 0), some (pvI 0), some (pvI (0 + 1)), some (pvI ((0 * 3) + 0))], [pvI ((pvstab 1041).getD (Int32.toNatClampNeg ((0 * 3) + 0)) 0)], M)) rfl ⟨trivial, trivial, ⟨by decide, (zr_in (n := 21) (show 0 ≤ Int32.toInt ((0 * 3) + 0) ∧ Int32.toInt ((0 * 3) + 0) ≤ 0 from (by decide)) (by decide) (by decide))⟩, trivial⟩ ?_
  exact pw_ret hT rfl (r := some (pvI ((pvstab 1041).getD (Int32.toNatClampNeg ((0 * 3) + 0)) 0))) (M' := M) ⟨rfl, rfl⟩ ⟨rfl, rfl⟩
set_option maxHeartbeats 4000000 in
set_option maxRecDepth 10000 in
theorem sf_X0_bodyFrom_1_1 (M : pvM) (hok : pvOk M) (d : Nat) : PW 1 d (0, [some (pvI 1), some (pvI 1), none, none, none], [], M) (fun r X => r = some (pvI (((pvstab 1041).getD (Int32.toNatClampNeg ((1 * 3) + 1)) 0))) ∧ X = M) := by
  have hT : pvdom 1 = pvD_1 := rfl
  refine pw_blk hT 4 (S' := (4, [some (pvI 1), some (pvI 1), some (pvI 1), some (pvI 0), none], [], M)) rfl ⟨trivial, trivial, trivial, trivial, trivial⟩ ?_
  refine pw_blk hT 3 (S' := (9, [some (pvI 1), some (pvI 1), some (pvI 1), some (pvI 0), none], [pvI (Int32.ofNat (pvstab 1041).length), pvI 0], M)) rfl ⟨trivial, trivial, (by decide), trivial⟩ ?_
  refine pw_ic hT (c := (Int32.ofNat (pvstab 1041).length) ≤ 0) rfl rfl (fun c1_ => absurd c1_ (by decide)) (fun c1_ => ?_)
  refine pw_blk hT 1 (S' := (13, [some (pvI 1), some (pvI 1), some (pvI 1), some (pvI 0), none], [pvI 1], M)) rfl ⟨trivial, trivial⟩ ?_
  refine pw_if hT (c := 1 < 0) rfl rfl (fun c2_ => absurd c2_ (by decide)) (fun c2_ => ?_)
  refine pw_blk hT 7 (S' := (25, [some (pvI 1), some (pvI 1), some (pvI 1), some (pvI 0), some (pvI ((1 * 3) + 1))], [pvI ((1 * 3) + 1)], M)) rfl ⟨trivial, trivial, trivial, trivial, trivial, trivial, trivial, trivial⟩ ?_
  refine pw_if hT (c := ((1 * 3) + 1) < 0) rfl rfl (fun c3_ => absurd c3_ (by decide)) (fun c3_ => ?_)
  refine pw_blk hT 3 (S' := (34, [some (pvI 1), some (pvI 1), some (pvI 1), some (pvI 0), some (pvI ((1 * 3) + 1))], [pvI (Int32.ofNat (pvstab 1041).length), pvI ((1 * 3) + 1)], M)) rfl ⟨trivial, trivial, (by decide), trivial⟩ ?_
  refine pw_ic hT (c := (Int32.ofNat (pvstab 1041).length) ≤ ((1 * 3) + 1)) rfl rfl (fun c4_ => absurd c4_ (by decide)) (fun c4_ => ?_)
  refine pw_blk hT 3 (S' := (43, [some (pvI 1), some (pvI 1), some (pvI 1), some (pvI 0), some (pvI ((1 * 3) + 1))], [pvI ((pvstab 1041).getD (Int32.toNatClampNeg ((1 * 3) + 1)) 0)], M)) rfl ⟨trivial, trivial, ⟨by decide, (zr_in (n := 21) (show 4 ≤ Int32.toInt ((1 * 3) + 1) ∧ Int32.toInt ((1 * 3) + 1) ≤ 4 from (by decide)) (by decide) (by decide))⟩, trivial⟩ ?_
  refine pw_if hT (c := ((pvstab 1041).getD (Int32.toNatClampNeg ((1 * 3) + 1)) 0) = 0) rfl rfl (fun c5_ => absurd c5_ (by decide)) (fun c5_ => ?_)
  refine pw_blk hT 3 (S' := (52, [some (pvI 1), some (pvI 1), some (pvI 1), some (pvI 0), some (pvI ((1 * 3) + 1))], [pvI ((pvstab 1041).getD (Int32.toNatClampNeg ((1 * 3) + 1)) 0)], M)) rfl ⟨trivial, trivial, ⟨by decide, (zr_in (n := 21) (show 4 ≤ Int32.toInt ((1 * 3) + 1) ∧ Int32.toInt ((1 * 3) + 1) ≤ 4 from (by decide)) (by decide) (by decide))⟩, trivial⟩ ?_
  exact pw_ret hT rfl (r := some (pvI ((pvstab 1041).getD (Int32.toNatClampNeg ((1 * 3) + 1)) 0))) (M' := M) ⟨rfl, rfl⟩ ⟨rfl, rfl⟩
set_option maxHeartbeats 4000000 in
set_option maxRecDepth 10000 in
theorem sf_X0_bodyFrom_1_2 (M : pvM) (hok : pvOk M) (d : Nat) : PW 1 d (0, [some (pvI 1), some (pvI 2), none, none, none], [], M) (fun r X => r = some (pvI (((pvstab 1041).getD (Int32.toNatClampNeg ((0 * 3) + 2)) 0))) ∧ X = M) := by
  have hT : pvdom 1 = pvD_1 := rfl
  refine pw_blk hT 4 (S' := (4, [some (pvI 1), some (pvI 2), some (pvI 1), some (pvI 0), none], [], M)) rfl ⟨trivial, trivial, trivial, trivial, trivial⟩ ?_
  refine pw_blk hT 3 (S' := (9, [some (pvI 1), some (pvI 2), some (pvI 1), some (pvI 0), none], [pvI (Int32.ofNat (pvstab 1041).length), pvI 0], M)) rfl ⟨trivial, trivial, (by decide), trivial⟩ ?_
  refine pw_ic hT (c := (Int32.ofNat (pvstab 1041).length) ≤ 0) rfl rfl (fun c1_ => absurd c1_ (by decide)) (fun c1_ => ?_)
  refine pw_blk hT 1 (S' := (13, [some (pvI 1), some (pvI 2), some (pvI 1), some (pvI 0), none], [pvI 1], M)) rfl ⟨trivial, trivial⟩ ?_
  refine pw_if hT (c := 1 < 0) rfl rfl (fun c2_ => absurd c2_ (by decide)) (fun c2_ => ?_)
  refine pw_blk hT 7 (S' := (25, [some (pvI 1), some (pvI 2), some (pvI 1), some (pvI 0), some (pvI ((1 * 3) + 2))], [pvI ((1 * 3) + 2)], M)) rfl ⟨trivial, trivial, trivial, trivial, trivial, trivial, trivial, trivial⟩ ?_
  refine pw_if hT (c := ((1 * 3) + 2) < 0) rfl rfl (fun c3_ => absurd c3_ (by decide)) (fun c3_ => ?_)
  refine pw_blk hT 3 (S' := (34, [some (pvI 1), some (pvI 2), some (pvI 1), some (pvI 0), some (pvI ((1 * 3) + 2))], [pvI (Int32.ofNat (pvstab 1041).length), pvI ((1 * 3) + 2)], M)) rfl ⟨trivial, trivial, (by decide), trivial⟩ ?_
  refine pw_ic hT (c := (Int32.ofNat (pvstab 1041).length) ≤ ((1 * 3) + 2)) rfl rfl (fun c4_ => absurd c4_ (by decide)) (fun c4_ => ?_)
  refine pw_blk hT 3 (S' := (43, [some (pvI 1), some (pvI 2), some (pvI 1), some (pvI 0), some (pvI ((1 * 3) + 2))], [pvI ((pvstab 1041).getD (Int32.toNatClampNeg ((1 * 3) + 2)) 0)], M)) rfl ⟨trivial, trivial, ⟨by decide, (zr_in (n := 21) (show 5 ≤ Int32.toInt ((1 * 3) + 2) ∧ Int32.toInt ((1 * 3) + 2) ≤ 5 from (by decide)) (by decide) (by decide))⟩, trivial⟩ ?_
  refine pw_if hT (c := ((pvstab 1041).getD (Int32.toNatClampNeg ((1 * 3) + 2)) 0) = 0) rfl rfl (fun c5_ => ?_) (fun c5_ => absurd (by decide) c5_)
  refine pw_blk hT 1 (S' := (54, [some (pvI 1), some (pvI 2), some (pvI 1), some (pvI 0), some (pvI ((1 * 3) + 2))], [pvI 1], M)) rfl ⟨trivial, trivial⟩ ?_
  refine pw_callT hT (as := [pvI 1]) (lo1 := [some (pvI 1)]) (d1 := d) (rest := []) rfl rfl rfl rfl rfl (fun h => absurd h (by decide)) (Nat.zero_le _) rfl rfl rfl (sf_X3_above_1 M hok d) ?_
  refine pw_eqI (show ((pvstab 1040).getD (Int32.toNatClampNeg 1) 0) = 0 from by decide) ?_
  show PW 1 d (57, [some (pvI 1), some (pvI 2), some (pvI 1), some (pvI 0), some (pvI ((1 * 3) + 2))], [pvI 0], M) _
  refine pw_blk hT 3 (S' := (4, [some (pvI 1), some (pvI 2), some (pvI 0), some (pvI (0 + 1)), some (pvI ((1 * 3) + 2))], [], M)) rfl ⟨trivial, trivial, trivial, trivial⟩ ?_
  refine pw_blk hT 3 (S' := (9, [some (pvI 1), some (pvI 2), some (pvI 0), some (pvI (0 + 1)), some (pvI ((1 * 3) + 2))], [pvI (Int32.ofNat (pvstab 1041).length), pvI (0 + 1)], M)) rfl ⟨trivial, trivial, (by decide), trivial⟩ ?_
  refine pw_ic hT (c := (Int32.ofNat (pvstab 1041).length) ≤ (0 + 1)) rfl rfl (fun c11_ => absurd c11_ (by decide)) (fun c11_ => ?_)
  refine pw_blk hT 1 (S' := (13, [some (pvI 1), some (pvI 2), some (pvI 0), some (pvI (0 + 1)), some (pvI ((1 * 3) + 2))], [pvI 0], M)) rfl ⟨trivial, trivial⟩ ?_
  refine pw_if hT (c := 0 < 0) rfl rfl (fun c12_ => absurd c12_ (by decide)) (fun c12_ => ?_)
  refine pw_blk hT 7 (S' := (25, [some (pvI 1), some (pvI 2), some (pvI 0), some (pvI (0 + 1)), some (pvI ((0 * 3) + 2))], [pvI ((0 * 3) + 2)], M)) rfl ⟨trivial, trivial, trivial, trivial, trivial, trivial, trivial, trivial⟩ ?_
  refine pw_if hT (c := ((0 * 3) + 2) < 0) rfl rfl (fun c13_ => absurd c13_ (by decide)) (fun c13_ => ?_)
  refine pw_blk hT 3 (S' := (34, [some (pvI 1), some (pvI 2), some (pvI 0), some (pvI (0 + 1)), some (pvI ((0 * 3) + 2))], [pvI (Int32.ofNat (pvstab 1041).length), pvI ((0 * 3) + 2)], M)) rfl ⟨trivial, trivial, (by decide), trivial⟩ ?_
  refine pw_ic hT (c := (Int32.ofNat (pvstab 1041).length) ≤ ((0 * 3) + 2)) rfl rfl (fun c14_ => absurd c14_ (by decide)) (fun c14_ => ?_)
  refine pw_blk hT 3 (S' := (43, [some (pvI 1), some (pvI 2), some (pvI 0), some (pvI (0 + 1)), some (pvI ((0 * 3) + 2))], [pvI ((pvstab 1041).getD (Int32.toNatClampNeg ((0 * 3) + 2)) 0)], M)) rfl ⟨trivial, trivial, ⟨by decide, (zr_in (n := 21) (show 2 ≤ Int32.toInt ((0 * 3) + 2) ∧ Int32.toInt ((0 * 3) + 2) ≤ 2 from (by decide)) (by decide) (by decide))⟩, trivial⟩ ?_
  refine pw_if hT (c := ((pvstab 1041).getD (Int32.toNatClampNeg ((0 * 3) + 2)) 0) = 0) rfl rfl (fun c15_ => absurd c15_ (by decide)) (fun c15_ => ?_)
  refine pw_blk hT 3 (S' := (52, [some (pvI 1), some (pvI 2), some (pvI 0), some (pvI (0 + 1)), some (pvI ((0 * 3) + 2))], [pvI ((pvstab 1041).getD (Int32.toNatClampNeg ((0 * 3) + 2)) 0)], M)) rfl ⟨trivial, trivial, ⟨by decide, (zr_in (n := 21) (show 2 ≤ Int32.toInt ((0 * 3) + 2) ∧ Int32.toInt ((0 * 3) + 2) ≤ 2 from (by decide)) (by decide) (by decide))⟩, trivial⟩ ?_
  exact pw_ret hT rfl (r := some (pvI ((pvstab 1041).getD (Int32.toNatClampNeg ((0 * 3) + 2)) 0))) (M' := M) ⟨rfl, rfl⟩ ⟨rfl, rfl⟩
set_option maxHeartbeats 4000000 in
set_option maxRecDepth 10000 in
theorem sf_X0_bodyFrom_2_0 (M : pvM) (hok : pvOk M) (d : Nat) : PW 1 d (0, [some (pvI 2), some (pvI 0), none, none, none], [], M) (fun r X => r = some (pvI (((pvstab 1041).getD (Int32.toNatClampNeg ((2 * 3) + 0)) 0))) ∧ X = M) := by
  have hT : pvdom 1 = pvD_1 := rfl
  refine pw_blk hT 4 (S' := (4, [some (pvI 2), some (pvI 0), some (pvI 2), some (pvI 0), none], [], M)) rfl ⟨trivial, trivial, trivial, trivial, trivial⟩ ?_
  refine pw_blk hT 3 (S' := (9, [some (pvI 2), some (pvI 0), some (pvI 2), some (pvI 0), none], [pvI (Int32.ofNat (pvstab 1041).length), pvI 0], M)) rfl ⟨trivial, trivial, (by decide), trivial⟩ ?_
  refine pw_ic hT (c := (Int32.ofNat (pvstab 1041).length) ≤ 0) rfl rfl (fun c1_ => absurd c1_ (by decide)) (fun c1_ => ?_)
  refine pw_blk hT 1 (S' := (13, [some (pvI 2), some (pvI 0), some (pvI 2), some (pvI 0), none], [pvI 2], M)) rfl ⟨trivial, trivial⟩ ?_
  refine pw_if hT (c := 2 < 0) rfl rfl (fun c2_ => absurd c2_ (by decide)) (fun c2_ => ?_)
  refine pw_blk hT 7 (S' := (25, [some (pvI 2), some (pvI 0), some (pvI 2), some (pvI 0), some (pvI ((2 * 3) + 0))], [pvI ((2 * 3) + 0)], M)) rfl ⟨trivial, trivial, trivial, trivial, trivial, trivial, trivial, trivial⟩ ?_
  refine pw_if hT (c := ((2 * 3) + 0) < 0) rfl rfl (fun c3_ => absurd c3_ (by decide)) (fun c3_ => ?_)
  refine pw_blk hT 3 (S' := (34, [some (pvI 2), some (pvI 0), some (pvI 2), some (pvI 0), some (pvI ((2 * 3) + 0))], [pvI (Int32.ofNat (pvstab 1041).length), pvI ((2 * 3) + 0)], M)) rfl ⟨trivial, trivial, (by decide), trivial⟩ ?_
  refine pw_ic hT (c := (Int32.ofNat (pvstab 1041).length) ≤ ((2 * 3) + 0)) rfl rfl (fun c4_ => absurd c4_ (by decide)) (fun c4_ => ?_)
  refine pw_blk hT 3 (S' := (43, [some (pvI 2), some (pvI 0), some (pvI 2), some (pvI 0), some (pvI ((2 * 3) + 0))], [pvI ((pvstab 1041).getD (Int32.toNatClampNeg ((2 * 3) + 0)) 0)], M)) rfl ⟨trivial, trivial, ⟨by decide, (zr_in (n := 21) (show 6 ≤ Int32.toInt ((2 * 3) + 0) ∧ Int32.toInt ((2 * 3) + 0) ≤ 6 from (by decide)) (by decide) (by decide))⟩, trivial⟩ ?_
  refine pw_if hT (c := ((pvstab 1041).getD (Int32.toNatClampNeg ((2 * 3) + 0)) 0) = 0) rfl rfl (fun c5_ => absurd c5_ (by decide)) (fun c5_ => ?_)
  refine pw_blk hT 3 (S' := (52, [some (pvI 2), some (pvI 0), some (pvI 2), some (pvI 0), some (pvI ((2 * 3) + 0))], [pvI ((pvstab 1041).getD (Int32.toNatClampNeg ((2 * 3) + 0)) 0)], M)) rfl ⟨trivial, trivial, ⟨by decide, (zr_in (n := 21) (show 6 ≤ Int32.toInt ((2 * 3) + 0) ∧ Int32.toInt ((2 * 3) + 0) ≤ 6 from (by decide)) (by decide) (by decide))⟩, trivial⟩ ?_
  exact pw_ret hT rfl (r := some (pvI ((pvstab 1041).getD (Int32.toNatClampNeg ((2 * 3) + 0)) 0))) (M' := M) ⟨rfl, rfl⟩ ⟨rfl, rfl⟩
set_option maxHeartbeats 4000000 in
set_option maxRecDepth 10000 in
theorem sf_X3_above_2 (M : pvM) (hok : pvOk M) (d : Nat) : PW 131 d (0, [some (pvI 2)], [], M) (fun r X => r = some (pvI (((pvstab 1040).getD (Int32.toNatClampNeg 2) 0))) ∧ X = M) := by
  have hT : pvdom 131 = pvD_131 := rfl
  refine pw_blk hT 1 (S' := (1, [some (pvI 2)], [pvI 2], M)) rfl ⟨trivial, trivial⟩ ?_
  refine pw_if hT (c := 2 < 0) rfl rfl (fun c1_ => absurd c1_ (by decide)) (fun c1_ => ?_)
  refine pw_blk hT 3 (S' := (9, [some (pvI 2)], [pvI (Int32.ofNat (pvstab 1040).length), pvI 2], M)) rfl ⟨trivial, trivial, (by decide), trivial⟩ ?_
  refine pw_ic hT (c := 2 < (Int32.ofNat (pvstab 1040).length)) rfl rfl (fun c2_ => ?_) (fun c2_ => absurd (by decide) c2_)
  refine pw_blk hT 3 (S' := (21, [some (pvI 2)], [pvI ((pvstab 1040).getD (Int32.toNatClampNeg 2) 0)], M)) rfl ⟨trivial, trivial, ⟨by decide, (zr_in (n := 7) (show 2 ≤ Int32.toInt 2 ∧ Int32.toInt 2 ≤ 2 from (by decide)) (by decide) (by decide))⟩, trivial⟩ ?_
  exact pw_ret hT rfl (r := some (pvI ((pvstab 1040).getD (Int32.toNatClampNeg 2) 0))) (M' := M) ⟨rfl, rfl⟩ ⟨rfl, rfl⟩
set_option maxHeartbeats 4000000 in
set_option maxRecDepth 10000 in
theorem sf_X0_bodyFrom_2_1 (M : pvM) (hok : pvOk M) (d : Nat) : PW 1 d (0, [some (pvI 2), some (pvI 1), none, none, none], [], M) (fun r X => r = some (pvI (((pvstab 1041).getD (Int32.toNatClampNeg ((0 * 3) + 1)) 0))) ∧ X = M) := by
  have hT : pvdom 1 = pvD_1 := rfl
  refine pw_blk hT 4 (S' := (4, [some (pvI 2), some (pvI 1), some (pvI 2), some (pvI 0), none], [], M)) rfl ⟨trivial, trivial, trivial, trivial, trivial⟩ ?_
  refine pw_blk hT 3 (S' := (9, [some (pvI 2), some (pvI 1), some (pvI 2), some (pvI 0), none], [pvI (Int32.ofNat (pvstab 1041).length), pvI 0], M)) rfl ⟨trivial, trivial, (by decide), trivial⟩ ?_
  refine pw_ic hT (c := (Int32.ofNat (pvstab 1041).length) ≤ 0) rfl rfl (fun c1_ => absurd c1_ (by decide)) (fun c1_ => ?_)
  refine pw_blk hT 1 (S' := (13, [some (pvI 2), some (pvI 1), some (pvI 2), some (pvI 0), none], [pvI 2], M)) rfl ⟨trivial, trivial⟩ ?_
  refine pw_if hT (c := 2 < 0) rfl rfl (fun c2_ => absurd c2_ (by decide)) (fun c2_ => ?_)
  refine pw_blk hT 7 (S' := (25, [some (pvI 2), some (pvI 1), some (pvI 2), some (pvI 0), some (pvI ((2 * 3) + 1))], [pvI ((2 * 3) + 1)], M)) rfl ⟨trivial, trivial, trivial, trivial, trivial, trivial, trivial, trivial⟩ ?_
  refine pw_if hT (c := ((2 * 3) + 1) < 0) rfl rfl (fun c3_ => absurd c3_ (by decide)) (fun c3_ => ?_)
  refine pw_blk hT 3 (S' := (34, [some (pvI 2), some (pvI 1), some (pvI 2), some (pvI 0), some (pvI ((2 * 3) + 1))], [pvI (Int32.ofNat (pvstab 1041).length), pvI ((2 * 3) + 1)], M)) rfl ⟨trivial, trivial, (by decide), trivial⟩ ?_
  refine pw_ic hT (c := (Int32.ofNat (pvstab 1041).length) ≤ ((2 * 3) + 1)) rfl rfl (fun c4_ => absurd c4_ (by decide)) (fun c4_ => ?_)
  refine pw_blk hT 3 (S' := (43, [some (pvI 2), some (pvI 1), some (pvI 2), some (pvI 0), some (pvI ((2 * 3) + 1))], [pvI ((pvstab 1041).getD (Int32.toNatClampNeg ((2 * 3) + 1)) 0)], M)) rfl ⟨trivial, trivial, ⟨by decide, (zr_in (n := 21) (show 7 ≤ Int32.toInt ((2 * 3) + 1) ∧ Int32.toInt ((2 * 3) + 1) ≤ 7 from (by decide)) (by decide) (by decide))⟩, trivial⟩ ?_
  refine pw_if hT (c := ((pvstab 1041).getD (Int32.toNatClampNeg ((2 * 3) + 1)) 0) = 0) rfl rfl (fun c5_ => ?_) (fun c5_ => absurd (by decide) c5_)
  refine pw_blk hT 1 (S' := (54, [some (pvI 2), some (pvI 1), some (pvI 2), some (pvI 0), some (pvI ((2 * 3) + 1))], [pvI 2], M)) rfl ⟨trivial, trivial⟩ ?_
  refine pw_callT hT (as := [pvI 2]) (lo1 := [some (pvI 2)]) (d1 := d) (rest := []) rfl rfl rfl rfl rfl (fun h => absurd h (by decide)) (Nat.zero_le _) rfl rfl rfl (sf_X3_above_2 M hok d) ?_
  refine pw_eqI (show ((pvstab 1040).getD (Int32.toNatClampNeg 2) 0) = 0 from by decide) ?_
  show PW 1 d (57, [some (pvI 2), some (pvI 1), some (pvI 2), some (pvI 0), some (pvI ((2 * 3) + 1))], [pvI 0], M) _
  refine pw_blk hT 3 (S' := (4, [some (pvI 2), some (pvI 1), some (pvI 0), some (pvI (0 + 1)), some (pvI ((2 * 3) + 1))], [], M)) rfl ⟨trivial, trivial, trivial, trivial⟩ ?_
  refine pw_blk hT 3 (S' := (9, [some (pvI 2), some (pvI 1), some (pvI 0), some (pvI (0 + 1)), some (pvI ((2 * 3) + 1))], [pvI (Int32.ofNat (pvstab 1041).length), pvI (0 + 1)], M)) rfl ⟨trivial, trivial, (by decide), trivial⟩ ?_
  refine pw_ic hT (c := (Int32.ofNat (pvstab 1041).length) ≤ (0 + 1)) rfl rfl (fun c11_ => absurd c11_ (by decide)) (fun c11_ => ?_)
  refine pw_blk hT 1 (S' := (13, [some (pvI 2), some (pvI 1), some (pvI 0), some (pvI (0 + 1)), some (pvI ((2 * 3) + 1))], [pvI 0], M)) rfl ⟨trivial, trivial⟩ ?_
  refine pw_if hT (c := 0 < 0) rfl rfl (fun c12_ => absurd c12_ (by decide)) (fun c12_ => ?_)
  refine pw_blk hT 7 (S' := (25, [some (pvI 2), some (pvI 1), some (pvI 0), some (pvI (0 + 1)), some (pvI ((0 * 3) + 1))], [pvI ((0 * 3) + 1)], M)) rfl ⟨trivial, trivial, trivial, trivial, trivial, trivial, trivial, trivial⟩ ?_
  refine pw_if hT (c := ((0 * 3) + 1) < 0) rfl rfl (fun c13_ => absurd c13_ (by decide)) (fun c13_ => ?_)
  refine pw_blk hT 3 (S' := (34, [some (pvI 2), some (pvI 1), some (pvI 0), some (pvI (0 + 1)), some (pvI ((0 * 3) + 1))], [pvI (Int32.ofNat (pvstab 1041).length), pvI ((0 * 3) + 1)], M)) rfl ⟨trivial, trivial, (by decide), trivial⟩ ?_
  refine pw_ic hT (c := (Int32.ofNat (pvstab 1041).length) ≤ ((0 * 3) + 1)) rfl rfl (fun c14_ => absurd c14_ (by decide)) (fun c14_ => ?_)
  refine pw_blk hT 3 (S' := (43, [some (pvI 2), some (pvI 1), some (pvI 0), some (pvI (0 + 1)), some (pvI ((0 * 3) + 1))], [pvI ((pvstab 1041).getD (Int32.toNatClampNeg ((0 * 3) + 1)) 0)], M)) rfl ⟨trivial, trivial, ⟨by decide, (zr_in (n := 21) (show 1 ≤ Int32.toInt ((0 * 3) + 1) ∧ Int32.toInt ((0 * 3) + 1) ≤ 1 from (by decide)) (by decide) (by decide))⟩, trivial⟩ ?_
  refine pw_if hT (c := ((pvstab 1041).getD (Int32.toNatClampNeg ((0 * 3) + 1)) 0) = 0) rfl rfl (fun c15_ => absurd c15_ (by decide)) (fun c15_ => ?_)
  refine pw_blk hT 3 (S' := (52, [some (pvI 2), some (pvI 1), some (pvI 0), some (pvI (0 + 1)), some (pvI ((0 * 3) + 1))], [pvI ((pvstab 1041).getD (Int32.toNatClampNeg ((0 * 3) + 1)) 0)], M)) rfl ⟨trivial, trivial, ⟨by decide, (zr_in (n := 21) (show 1 ≤ Int32.toInt ((0 * 3) + 1) ∧ Int32.toInt ((0 * 3) + 1) ≤ 1 from (by decide)) (by decide) (by decide))⟩, trivial⟩ ?_
  exact pw_ret hT rfl (r := some (pvI ((pvstab 1041).getD (Int32.toNatClampNeg ((0 * 3) + 1)) 0))) (M' := M) ⟨rfl, rfl⟩ ⟨rfl, rfl⟩
set_option maxHeartbeats 4000000 in
set_option maxRecDepth 10000 in
theorem sf_X0_bodyFrom_2_2 (M : pvM) (hok : pvOk M) (d : Nat) : PW 1 d (0, [some (pvI 2), some (pvI 2), none, none, none], [], M) (fun r X => r = some (pvI (((pvstab 1041).getD (Int32.toNatClampNeg ((0 * 3) + 2)) 0))) ∧ X = M) := by
  have hT : pvdom 1 = pvD_1 := rfl
  refine pw_blk hT 4 (S' := (4, [some (pvI 2), some (pvI 2), some (pvI 2), some (pvI 0), none], [], M)) rfl ⟨trivial, trivial, trivial, trivial, trivial⟩ ?_
  refine pw_blk hT 3 (S' := (9, [some (pvI 2), some (pvI 2), some (pvI 2), some (pvI 0), none], [pvI (Int32.ofNat (pvstab 1041).length), pvI 0], M)) rfl ⟨trivial, trivial, (by decide), trivial⟩ ?_
  refine pw_ic hT (c := (Int32.ofNat (pvstab 1041).length) ≤ 0) rfl rfl (fun c1_ => absurd c1_ (by decide)) (fun c1_ => ?_)
  refine pw_blk hT 1 (S' := (13, [some (pvI 2), some (pvI 2), some (pvI 2), some (pvI 0), none], [pvI 2], M)) rfl ⟨trivial, trivial⟩ ?_
  refine pw_if hT (c := 2 < 0) rfl rfl (fun c2_ => absurd c2_ (by decide)) (fun c2_ => ?_)
  refine pw_blk hT 7 (S' := (25, [some (pvI 2), some (pvI 2), some (pvI 2), some (pvI 0), some (pvI ((2 * 3) + 2))], [pvI ((2 * 3) + 2)], M)) rfl ⟨trivial, trivial, trivial, trivial, trivial, trivial, trivial, trivial⟩ ?_
  refine pw_if hT (c := ((2 * 3) + 2) < 0) rfl rfl (fun c3_ => absurd c3_ (by decide)) (fun c3_ => ?_)
  refine pw_blk hT 3 (S' := (34, [some (pvI 2), some (pvI 2), some (pvI 2), some (pvI 0), some (pvI ((2 * 3) + 2))], [pvI (Int32.ofNat (pvstab 1041).length), pvI ((2 * 3) + 2)], M)) rfl ⟨trivial, trivial, (by decide), trivial⟩ ?_
  refine pw_ic hT (c := (Int32.ofNat (pvstab 1041).length) ≤ ((2 * 3) + 2)) rfl rfl (fun c4_ => absurd c4_ (by decide)) (fun c4_ => ?_)
  refine pw_blk hT 3 (S' := (43, [some (pvI 2), some (pvI 2), some (pvI 2), some (pvI 0), some (pvI ((2 * 3) + 2))], [pvI ((pvstab 1041).getD (Int32.toNatClampNeg ((2 * 3) + 2)) 0)], M)) rfl ⟨trivial, trivial, ⟨by decide, (zr_in (n := 21) (show 8 ≤ Int32.toInt ((2 * 3) + 2) ∧ Int32.toInt ((2 * 3) + 2) ≤ 8 from (by decide)) (by decide) (by decide))⟩, trivial⟩ ?_
  refine pw_if hT (c := ((pvstab 1041).getD (Int32.toNatClampNeg ((2 * 3) + 2)) 0) = 0) rfl rfl (fun c5_ => ?_) (fun c5_ => absurd (by decide) c5_)
  refine pw_blk hT 1 (S' := (54, [some (pvI 2), some (pvI 2), some (pvI 2), some (pvI 0), some (pvI ((2 * 3) + 2))], [pvI 2], M)) rfl ⟨trivial, trivial⟩ ?_
  refine pw_callT hT (as := [pvI 2]) (lo1 := [some (pvI 2)]) (d1 := d) (rest := []) rfl rfl rfl rfl rfl (fun h => absurd h (by decide)) (Nat.zero_le _) rfl rfl rfl (sf_X3_above_2 M hok d) ?_
  refine pw_eqI (show ((pvstab 1040).getD (Int32.toNatClampNeg 2) 0) = 0 from by decide) ?_
  show PW 1 d (57, [some (pvI 2), some (pvI 2), some (pvI 2), some (pvI 0), some (pvI ((2 * 3) + 2))], [pvI 0], M) _
  refine pw_blk hT 3 (S' := (4, [some (pvI 2), some (pvI 2), some (pvI 0), some (pvI (0 + 1)), some (pvI ((2 * 3) + 2))], [], M)) rfl ⟨trivial, trivial, trivial, trivial⟩ ?_
  refine pw_blk hT 3 (S' := (9, [some (pvI 2), some (pvI 2), some (pvI 0), some (pvI (0 + 1)), some (pvI ((2 * 3) + 2))], [pvI (Int32.ofNat (pvstab 1041).length), pvI (0 + 1)], M)) rfl ⟨trivial, trivial, (by decide), trivial⟩ ?_
  refine pw_ic hT (c := (Int32.ofNat (pvstab 1041).length) ≤ (0 + 1)) rfl rfl (fun c11_ => absurd c11_ (by decide)) (fun c11_ => ?_)
  refine pw_blk hT 1 (S' := (13, [some (pvI 2), some (pvI 2), some (pvI 0), some (pvI (0 + 1)), some (pvI ((2 * 3) + 2))], [pvI 0], M)) rfl ⟨trivial, trivial⟩ ?_
  refine pw_if hT (c := 0 < 0) rfl rfl (fun c12_ => absurd c12_ (by decide)) (fun c12_ => ?_)
  refine pw_blk hT 7 (S' := (25, [some (pvI 2), some (pvI 2), some (pvI 0), some (pvI (0 + 1)), some (pvI ((0 * 3) + 2))], [pvI ((0 * 3) + 2)], M)) rfl ⟨trivial, trivial, trivial, trivial, trivial, trivial, trivial, trivial⟩ ?_
  refine pw_if hT (c := ((0 * 3) + 2) < 0) rfl rfl (fun c13_ => absurd c13_ (by decide)) (fun c13_ => ?_)
  refine pw_blk hT 3 (S' := (34, [some (pvI 2), some (pvI 2), some (pvI 0), some (pvI (0 + 1)), some (pvI ((0 * 3) + 2))], [pvI (Int32.ofNat (pvstab 1041).length), pvI ((0 * 3) + 2)], M)) rfl ⟨trivial, trivial, (by decide), trivial⟩ ?_
  refine pw_ic hT (c := (Int32.ofNat (pvstab 1041).length) ≤ ((0 * 3) + 2)) rfl rfl (fun c14_ => absurd c14_ (by decide)) (fun c14_ => ?_)
  refine pw_blk hT 3 (S' := (43, [some (pvI 2), some (pvI 2), some (pvI 0), some (pvI (0 + 1)), some (pvI ((0 * 3) + 2))], [pvI ((pvstab 1041).getD (Int32.toNatClampNeg ((0 * 3) + 2)) 0)], M)) rfl ⟨trivial, trivial, ⟨by decide, (zr_in (n := 21) (show 2 ≤ Int32.toInt ((0 * 3) + 2) ∧ Int32.toInt ((0 * 3) + 2) ≤ 2 from (by decide)) (by decide) (by decide))⟩, trivial⟩ ?_
  refine pw_if hT (c := ((pvstab 1041).getD (Int32.toNatClampNeg ((0 * 3) + 2)) 0) = 0) rfl rfl (fun c15_ => absurd c15_ (by decide)) (fun c15_ => ?_)
  refine pw_blk hT 3 (S' := (52, [some (pvI 2), some (pvI 2), some (pvI 0), some (pvI (0 + 1)), some (pvI ((0 * 3) + 2))], [pvI ((pvstab 1041).getD (Int32.toNatClampNeg ((0 * 3) + 2)) 0)], M)) rfl ⟨trivial, trivial, ⟨by decide, (zr_in (n := 21) (show 2 ≤ Int32.toInt ((0 * 3) + 2) ∧ Int32.toInt ((0 * 3) + 2) ≤ 2 from (by decide)) (by decide) (by decide))⟩, trivial⟩ ?_
  exact pw_ret hT rfl (r := some (pvI ((pvstab 1041).getD (Int32.toNatClampNeg ((0 * 3) + 2)) 0))) (M' := M) ⟨rfl, rfl⟩ ⟨rfl, rfl⟩
set_option maxHeartbeats 4000000 in
set_option maxRecDepth 10000 in
theorem sf_X3_above_3 (M : pvM) (hok : pvOk M) (d : Nat) : PW 131 d (0, [some (pvI 3)], [], M) (fun r X => r = some (pvI (((pvstab 1040).getD (Int32.toNatClampNeg 3) 0))) ∧ X = M) := by
  have hT : pvdom 131 = pvD_131 := rfl
  refine pw_blk hT 1 (S' := (1, [some (pvI 3)], [pvI 3], M)) rfl ⟨trivial, trivial⟩ ?_
  refine pw_if hT (c := 3 < 0) rfl rfl (fun c1_ => absurd c1_ (by decide)) (fun c1_ => ?_)
  refine pw_blk hT 3 (S' := (9, [some (pvI 3)], [pvI (Int32.ofNat (pvstab 1040).length), pvI 3], M)) rfl ⟨trivial, trivial, (by decide), trivial⟩ ?_
  refine pw_ic hT (c := 3 < (Int32.ofNat (pvstab 1040).length)) rfl rfl (fun c2_ => ?_) (fun c2_ => absurd (by decide) c2_)
  refine pw_blk hT 3 (S' := (21, [some (pvI 3)], [pvI ((pvstab 1040).getD (Int32.toNatClampNeg 3) 0)], M)) rfl ⟨trivial, trivial, ⟨by decide, (zr_in (n := 7) (show 3 ≤ Int32.toInt 3 ∧ Int32.toInt 3 ≤ 3 from (by decide)) (by decide) (by decide))⟩, trivial⟩ ?_
  exact pw_ret hT rfl (r := some (pvI ((pvstab 1040).getD (Int32.toNatClampNeg 3) 0))) (M' := M) ⟨rfl, rfl⟩ ⟨rfl, rfl⟩
set_option maxHeartbeats 4000000 in
set_option maxRecDepth 10000 in
theorem sf_X0_bodyFrom_3_0 (M : pvM) (hok : pvOk M) (d : Nat) : PW 1 d (0, [some (pvI 3), some (pvI 0), none, none, none], [], M) (fun r X => r = some (pvI (((pvstab 1041).getD (Int32.toNatClampNeg ((0 * 3) + 0)) 0))) ∧ X = M) := by
  have hT : pvdom 1 = pvD_1 := rfl
  refine pw_blk hT 4 (S' := (4, [some (pvI 3), some (pvI 0), some (pvI 3), some (pvI 0), none], [], M)) rfl ⟨trivial, trivial, trivial, trivial, trivial⟩ ?_
  refine pw_blk hT 3 (S' := (9, [some (pvI 3), some (pvI 0), some (pvI 3), some (pvI 0), none], [pvI (Int32.ofNat (pvstab 1041).length), pvI 0], M)) rfl ⟨trivial, trivial, (by decide), trivial⟩ ?_
  refine pw_ic hT (c := (Int32.ofNat (pvstab 1041).length) ≤ 0) rfl rfl (fun c1_ => absurd c1_ (by decide)) (fun c1_ => ?_)
  refine pw_blk hT 1 (S' := (13, [some (pvI 3), some (pvI 0), some (pvI 3), some (pvI 0), none], [pvI 3], M)) rfl ⟨trivial, trivial⟩ ?_
  refine pw_if hT (c := 3 < 0) rfl rfl (fun c2_ => absurd c2_ (by decide)) (fun c2_ => ?_)
  refine pw_blk hT 7 (S' := (25, [some (pvI 3), some (pvI 0), some (pvI 3), some (pvI 0), some (pvI ((3 * 3) + 0))], [pvI ((3 * 3) + 0)], M)) rfl ⟨trivial, trivial, trivial, trivial, trivial, trivial, trivial, trivial⟩ ?_
  refine pw_if hT (c := ((3 * 3) + 0) < 0) rfl rfl (fun c3_ => absurd c3_ (by decide)) (fun c3_ => ?_)
  refine pw_blk hT 3 (S' := (34, [some (pvI 3), some (pvI 0), some (pvI 3), some (pvI 0), some (pvI ((3 * 3) + 0))], [pvI (Int32.ofNat (pvstab 1041).length), pvI ((3 * 3) + 0)], M)) rfl ⟨trivial, trivial, (by decide), trivial⟩ ?_
  refine pw_ic hT (c := (Int32.ofNat (pvstab 1041).length) ≤ ((3 * 3) + 0)) rfl rfl (fun c4_ => absurd c4_ (by decide)) (fun c4_ => ?_)
  refine pw_blk hT 3 (S' := (43, [some (pvI 3), some (pvI 0), some (pvI 3), some (pvI 0), some (pvI ((3 * 3) + 0))], [pvI ((pvstab 1041).getD (Int32.toNatClampNeg ((3 * 3) + 0)) 0)], M)) rfl ⟨trivial, trivial, ⟨by decide, (zr_in (n := 21) (show 9 ≤ Int32.toInt ((3 * 3) + 0) ∧ Int32.toInt ((3 * 3) + 0) ≤ 9 from (by decide)) (by decide) (by decide))⟩, trivial⟩ ?_
  refine pw_if hT (c := ((pvstab 1041).getD (Int32.toNatClampNeg ((3 * 3) + 0)) 0) = 0) rfl rfl (fun c5_ => ?_) (fun c5_ => absurd (by decide) c5_)
  refine pw_blk hT 1 (S' := (54, [some (pvI 3), some (pvI 0), some (pvI 3), some (pvI 0), some (pvI ((3 * 3) + 0))], [pvI 3], M)) rfl ⟨trivial, trivial⟩ ?_
  refine pw_callT hT (as := [pvI 3]) (lo1 := [some (pvI 3)]) (d1 := d) (rest := []) rfl rfl rfl rfl rfl (fun h => absurd h (by decide)) (Nat.zero_le _) rfl rfl rfl (sf_X3_above_3 M hok d) ?_
  refine pw_eqI (show ((pvstab 1040).getD (Int32.toNatClampNeg 3) 0) = 0 from by decide) ?_
  show PW 1 d (57, [some (pvI 3), some (pvI 0), some (pvI 3), some (pvI 0), some (pvI ((3 * 3) + 0))], [pvI 0], M) _
  refine pw_blk hT 3 (S' := (4, [some (pvI 3), some (pvI 0), some (pvI 0), some (pvI (0 + 1)), some (pvI ((3 * 3) + 0))], [], M)) rfl ⟨trivial, trivial, trivial, trivial⟩ ?_
  refine pw_blk hT 3 (S' := (9, [some (pvI 3), some (pvI 0), some (pvI 0), some (pvI (0 + 1)), some (pvI ((3 * 3) + 0))], [pvI (Int32.ofNat (pvstab 1041).length), pvI (0 + 1)], M)) rfl ⟨trivial, trivial, (by decide), trivial⟩ ?_
  refine pw_ic hT (c := (Int32.ofNat (pvstab 1041).length) ≤ (0 + 1)) rfl rfl (fun c11_ => absurd c11_ (by decide)) (fun c11_ => ?_)
  refine pw_blk hT 1 (S' := (13, [some (pvI 3), some (pvI 0), some (pvI 0), some (pvI (0 + 1)), some (pvI ((3 * 3) + 0))], [pvI 0], M)) rfl ⟨trivial, trivial⟩ ?_
  refine pw_if hT (c := 0 < 0) rfl rfl (fun c12_ => absurd c12_ (by decide)) (fun c12_ => ?_)
  refine pw_blk hT 7 (S' := (25, [some (pvI 3), some (pvI 0), some (pvI 0), some (pvI (0 + 1)), some (pvI ((0 * 3) + 0))], [pvI ((0 * 3) + 0)], M)) rfl ⟨trivial, trivial, trivial, trivial, trivial, trivial, trivial, trivial⟩ ?_
  refine pw_if hT (c := ((0 * 3) + 0) < 0) rfl rfl (fun c13_ => absurd c13_ (by decide)) (fun c13_ => ?_)
  refine pw_blk hT 3 (S' := (34, [some (pvI 3), some (pvI 0), some (pvI 0), some (pvI (0 + 1)), some (pvI ((0 * 3) + 0))], [pvI (Int32.ofNat (pvstab 1041).length), pvI ((0 * 3) + 0)], M)) rfl ⟨trivial, trivial, (by decide), trivial⟩ ?_
  refine pw_ic hT (c := (Int32.ofNat (pvstab 1041).length) ≤ ((0 * 3) + 0)) rfl rfl (fun c14_ => absurd c14_ (by decide)) (fun c14_ => ?_)
  refine pw_blk hT 3 (S' := (43, [some (pvI 3), some (pvI 0), some (pvI 0), some (pvI (0 + 1)), some (pvI ((0 * 3) + 0))], [pvI ((pvstab 1041).getD (Int32.toNatClampNeg ((0 * 3) + 0)) 0)], M)) rfl ⟨trivial, trivial, ⟨by decide, (zr_in (n := 21) (show 0 ≤ Int32.toInt ((0 * 3) + 0) ∧ Int32.toInt ((0 * 3) + 0) ≤ 0 from (by decide)) (by decide) (by decide))⟩, trivial⟩ ?_
  refine pw_if hT (c := ((pvstab 1041).getD (Int32.toNatClampNeg ((0 * 3) + 0)) 0) = 0) rfl rfl (fun c15_ => absurd c15_ (by decide)) (fun c15_ => ?_)
  refine pw_blk hT 3 (S' := (52, [some (pvI 3), some (pvI 0), some (pvI 0), some (pvI (0 + 1)), some (pvI ((0 * 3) + 0))], [pvI ((pvstab 1041).getD (Int32.toNatClampNeg ((0 * 3) + 0)) 0)], M)) rfl ⟨trivial, trivial, ⟨by decide, (zr_in (n := 21) (show 0 ≤ Int32.toInt ((0 * 3) + 0) ∧ Int32.toInt ((0 * 3) + 0) ≤ 0 from (by decide)) (by decide) (by decide))⟩, trivial⟩ ?_
  exact pw_ret hT rfl (r := some (pvI ((pvstab 1041).getD (Int32.toNatClampNeg ((0 * 3) + 0)) 0))) (M' := M) ⟨rfl, rfl⟩ ⟨rfl, rfl⟩
set_option maxHeartbeats 4000000 in
set_option maxRecDepth 10000 in
theorem sf_X0_bodyFrom_3_1 (M : pvM) (hok : pvOk M) (d : Nat) : PW 1 d (0, [some (pvI 3), some (pvI 1), none, none, none], [], M) (fun r X => r = some (pvI (((pvstab 1041).getD (Int32.toNatClampNeg ((0 * 3) + 1)) 0))) ∧ X = M) := by
  have hT : pvdom 1 = pvD_1 := rfl
  refine pw_blk hT 4 (S' := (4, [some (pvI 3), some (pvI 1), some (pvI 3), some (pvI 0), none], [], M)) rfl ⟨trivial, trivial, trivial, trivial, trivial⟩ ?_
  refine pw_blk hT 3 (S' := (9, [some (pvI 3), some (pvI 1), some (pvI 3), some (pvI 0), none], [pvI (Int32.ofNat (pvstab 1041).length), pvI 0], M)) rfl ⟨trivial, trivial, (by decide), trivial⟩ ?_
  refine pw_ic hT (c := (Int32.ofNat (pvstab 1041).length) ≤ 0) rfl rfl (fun c1_ => absurd c1_ (by decide)) (fun c1_ => ?_)
  refine pw_blk hT 1 (S' := (13, [some (pvI 3), some (pvI 1), some (pvI 3), some (pvI 0), none], [pvI 3], M)) rfl ⟨trivial, trivial⟩ ?_
  refine pw_if hT (c := 3 < 0) rfl rfl (fun c2_ => absurd c2_ (by decide)) (fun c2_ => ?_)
  refine pw_blk hT 7 (S' := (25, [some (pvI 3), some (pvI 1), some (pvI 3), some (pvI 0), some (pvI ((3 * 3) + 1))], [pvI ((3 * 3) + 1)], M)) rfl ⟨trivial, trivial, trivial, trivial, trivial, trivial, trivial, trivial⟩ ?_
  refine pw_if hT (c := ((3 * 3) + 1) < 0) rfl rfl (fun c3_ => absurd c3_ (by decide)) (fun c3_ => ?_)
  refine pw_blk hT 3 (S' := (34, [some (pvI 3), some (pvI 1), some (pvI 3), some (pvI 0), some (pvI ((3 * 3) + 1))], [pvI (Int32.ofNat (pvstab 1041).length), pvI ((3 * 3) + 1)], M)) rfl ⟨trivial, trivial, (by decide), trivial⟩ ?_
  refine pw_ic hT (c := (Int32.ofNat (pvstab 1041).length) ≤ ((3 * 3) + 1)) rfl rfl (fun c4_ => absurd c4_ (by decide)) (fun c4_ => ?_)
  refine pw_blk hT 3 (S' := (43, [some (pvI 3), some (pvI 1), some (pvI 3), some (pvI 0), some (pvI ((3 * 3) + 1))], [pvI ((pvstab 1041).getD (Int32.toNatClampNeg ((3 * 3) + 1)) 0)], M)) rfl ⟨trivial, trivial, ⟨by decide, (zr_in (n := 21) (show 10 ≤ Int32.toInt ((3 * 3) + 1) ∧ Int32.toInt ((3 * 3) + 1) ≤ 10 from (by decide)) (by decide) (by decide))⟩, trivial⟩ ?_
  refine pw_if hT (c := ((pvstab 1041).getD (Int32.toNatClampNeg ((3 * 3) + 1)) 0) = 0) rfl rfl (fun c5_ => ?_) (fun c5_ => absurd (by decide) c5_)
  refine pw_blk hT 1 (S' := (54, [some (pvI 3), some (pvI 1), some (pvI 3), some (pvI 0), some (pvI ((3 * 3) + 1))], [pvI 3], M)) rfl ⟨trivial, trivial⟩ ?_
  refine pw_callT hT (as := [pvI 3]) (lo1 := [some (pvI 3)]) (d1 := d) (rest := []) rfl rfl rfl rfl rfl (fun h => absurd h (by decide)) (Nat.zero_le _) rfl rfl rfl (sf_X3_above_3 M hok d) ?_
  refine pw_eqI (show ((pvstab 1040).getD (Int32.toNatClampNeg 3) 0) = 0 from by decide) ?_
  show PW 1 d (57, [some (pvI 3), some (pvI 1), some (pvI 3), some (pvI 0), some (pvI ((3 * 3) + 1))], [pvI 0], M) _
  refine pw_blk hT 3 (S' := (4, [some (pvI 3), some (pvI 1), some (pvI 0), some (pvI (0 + 1)), some (pvI ((3 * 3) + 1))], [], M)) rfl ⟨trivial, trivial, trivial, trivial⟩ ?_
  refine pw_blk hT 3 (S' := (9, [some (pvI 3), some (pvI 1), some (pvI 0), some (pvI (0 + 1)), some (pvI ((3 * 3) + 1))], [pvI (Int32.ofNat (pvstab 1041).length), pvI (0 + 1)], M)) rfl ⟨trivial, trivial, (by decide), trivial⟩ ?_
  refine pw_ic hT (c := (Int32.ofNat (pvstab 1041).length) ≤ (0 + 1)) rfl rfl (fun c11_ => absurd c11_ (by decide)) (fun c11_ => ?_)
  refine pw_blk hT 1 (S' := (13, [some (pvI 3), some (pvI 1), some (pvI 0), some (pvI (0 + 1)), some (pvI ((3 * 3) + 1))], [pvI 0], M)) rfl ⟨trivial, trivial⟩ ?_
  refine pw_if hT (c := 0 < 0) rfl rfl (fun c12_ => absurd c12_ (by decide)) (fun c12_ => ?_)
  refine pw_blk hT 7 (S' := (25, [some (pvI 3), some (pvI 1), some (pvI 0), some (pvI (0 + 1)), some (pvI ((0 * 3) + 1))], [pvI ((0 * 3) + 1)], M)) rfl ⟨trivial, trivial, trivial, trivial, trivial, trivial, trivial, trivial⟩ ?_
  refine pw_if hT (c := ((0 * 3) + 1) < 0) rfl rfl (fun c13_ => absurd c13_ (by decide)) (fun c13_ => ?_)
  refine pw_blk hT 3 (S' := (34, [some (pvI 3), some (pvI 1), some (pvI 0), some (pvI (0 + 1)), some (pvI ((0 * 3) + 1))], [pvI (Int32.ofNat (pvstab 1041).length), pvI ((0 * 3) + 1)], M)) rfl ⟨trivial, trivial, (by decide), trivial⟩ ?_
  refine pw_ic hT (c := (Int32.ofNat (pvstab 1041).length) ≤ ((0 * 3) + 1)) rfl rfl (fun c14_ => absurd c14_ (by decide)) (fun c14_ => ?_)
  refine pw_blk hT 3 (S' := (43, [some (pvI 3), some (pvI 1), some (pvI 0), some (pvI (0 + 1)), some (pvI ((0 * 3) + 1))], [pvI ((pvstab 1041).getD (Int32.toNatClampNeg ((0 * 3) + 1)) 0)], M)) rfl ⟨trivial, trivial, ⟨by decide, (zr_in (n := 21) (show 1 ≤ Int32.toInt ((0 * 3) + 1) ∧ Int32.toInt ((0 * 3) + 1) ≤ 1 from (by decide)) (by decide) (by decide))⟩, trivial⟩ ?_
  refine pw_if hT (c := ((pvstab 1041).getD (Int32.toNatClampNeg ((0 * 3) + 1)) 0) = 0) rfl rfl (fun c15_ => absurd c15_ (by decide)) (fun c15_ => ?_)
  refine pw_blk hT 3 (S' := (52, [some (pvI 3), some (pvI 1), some (pvI 0), some (pvI (0 + 1)), some (pvI ((0 * 3) + 1))], [pvI ((pvstab 1041).getD (Int32.toNatClampNeg ((0 * 3) + 1)) 0)], M)) rfl ⟨trivial, trivial, ⟨by decide, (zr_in (n := 21) (show 1 ≤ Int32.toInt ((0 * 3) + 1) ∧ Int32.toInt ((0 * 3) + 1) ≤ 1 from (by decide)) (by decide) (by decide))⟩, trivial⟩ ?_
  exact pw_ret hT rfl (r := some (pvI ((pvstab 1041).getD (Int32.toNatClampNeg ((0 * 3) + 1)) 0))) (M' := M) ⟨rfl, rfl⟩ ⟨rfl, rfl⟩
set_option maxHeartbeats 4000000 in
set_option maxRecDepth 10000 in
theorem sf_X0_bodyFrom_3_2 (M : pvM) (hok : pvOk M) (d : Nat) : PW 1 d (0, [some (pvI 3), some (pvI 2), none, none, none], [], M) (fun r X => r = some (pvI (((pvstab 1041).getD (Int32.toNatClampNeg ((3 * 3) + 2)) 0))) ∧ X = M) := by
  have hT : pvdom 1 = pvD_1 := rfl
  refine pw_blk hT 4 (S' := (4, [some (pvI 3), some (pvI 2), some (pvI 3), some (pvI 0), none], [], M)) rfl ⟨trivial, trivial, trivial, trivial, trivial⟩ ?_
  refine pw_blk hT 3 (S' := (9, [some (pvI 3), some (pvI 2), some (pvI 3), some (pvI 0), none], [pvI (Int32.ofNat (pvstab 1041).length), pvI 0], M)) rfl ⟨trivial, trivial, (by decide), trivial⟩ ?_
  refine pw_ic hT (c := (Int32.ofNat (pvstab 1041).length) ≤ 0) rfl rfl (fun c1_ => absurd c1_ (by decide)) (fun c1_ => ?_)
  refine pw_blk hT 1 (S' := (13, [some (pvI 3), some (pvI 2), some (pvI 3), some (pvI 0), none], [pvI 3], M)) rfl ⟨trivial, trivial⟩ ?_
  refine pw_if hT (c := 3 < 0) rfl rfl (fun c2_ => absurd c2_ (by decide)) (fun c2_ => ?_)
  refine pw_blk hT 7 (S' := (25, [some (pvI 3), some (pvI 2), some (pvI 3), some (pvI 0), some (pvI ((3 * 3) + 2))], [pvI ((3 * 3) + 2)], M)) rfl ⟨trivial, trivial, trivial, trivial, trivial, trivial, trivial, trivial⟩ ?_
  refine pw_if hT (c := ((3 * 3) + 2) < 0) rfl rfl (fun c3_ => absurd c3_ (by decide)) (fun c3_ => ?_)
  refine pw_blk hT 3 (S' := (34, [some (pvI 3), some (pvI 2), some (pvI 3), some (pvI 0), some (pvI ((3 * 3) + 2))], [pvI (Int32.ofNat (pvstab 1041).length), pvI ((3 * 3) + 2)], M)) rfl ⟨trivial, trivial, (by decide), trivial⟩ ?_
  refine pw_ic hT (c := (Int32.ofNat (pvstab 1041).length) ≤ ((3 * 3) + 2)) rfl rfl (fun c4_ => absurd c4_ (by decide)) (fun c4_ => ?_)
  refine pw_blk hT 3 (S' := (43, [some (pvI 3), some (pvI 2), some (pvI 3), some (pvI 0), some (pvI ((3 * 3) + 2))], [pvI ((pvstab 1041).getD (Int32.toNatClampNeg ((3 * 3) + 2)) 0)], M)) rfl ⟨trivial, trivial, ⟨by decide, (zr_in (n := 21) (show 11 ≤ Int32.toInt ((3 * 3) + 2) ∧ Int32.toInt ((3 * 3) + 2) ≤ 11 from (by decide)) (by decide) (by decide))⟩, trivial⟩ ?_
  refine pw_if hT (c := ((pvstab 1041).getD (Int32.toNatClampNeg ((3 * 3) + 2)) 0) = 0) rfl rfl (fun c5_ => absurd c5_ (by decide)) (fun c5_ => ?_)
  refine pw_blk hT 3 (S' := (52, [some (pvI 3), some (pvI 2), some (pvI 3), some (pvI 0), some (pvI ((3 * 3) + 2))], [pvI ((pvstab 1041).getD (Int32.toNatClampNeg ((3 * 3) + 2)) 0)], M)) rfl ⟨trivial, trivial, ⟨by decide, (zr_in (n := 21) (show 11 ≤ Int32.toInt ((3 * 3) + 2) ∧ Int32.toInt ((3 * 3) + 2) ≤ 11 from (by decide)) (by decide) (by decide))⟩, trivial⟩ ?_
  exact pw_ret hT rfl (r := some (pvI ((pvstab 1041).getD (Int32.toNatClampNeg ((3 * 3) + 2)) 0))) (M' := M) ⟨rfl, rfl⟩ ⟨rfl, rfl⟩
set_option maxHeartbeats 4000000 in
set_option maxRecDepth 10000 in
theorem sf_X0_bodyFrom_4_0 (M : pvM) (hok : pvOk M) (d : Nat) : PW 1 d (0, [some (pvI 4), some (pvI 0), none, none, none], [], M) (fun r X => r = some (pvI (((pvstab 1041).getD (Int32.toNatClampNeg ((4 * 3) + 0)) 0))) ∧ X = M) := by
  have hT : pvdom 1 = pvD_1 := rfl
  refine pw_blk hT 4 (S' := (4, [some (pvI 4), some (pvI 0), some (pvI 4), some (pvI 0), none], [], M)) rfl ⟨trivial, trivial, trivial, trivial, trivial⟩ ?_
  refine pw_blk hT 3 (S' := (9, [some (pvI 4), some (pvI 0), some (pvI 4), some (pvI 0), none], [pvI (Int32.ofNat (pvstab 1041).length), pvI 0], M)) rfl ⟨trivial, trivial, (by decide), trivial⟩ ?_
  refine pw_ic hT (c := (Int32.ofNat (pvstab 1041).length) ≤ 0) rfl rfl (fun c1_ => absurd c1_ (by decide)) (fun c1_ => ?_)
  refine pw_blk hT 1 (S' := (13, [some (pvI 4), some (pvI 0), some (pvI 4), some (pvI 0), none], [pvI 4], M)) rfl ⟨trivial, trivial⟩ ?_
  refine pw_if hT (c := 4 < 0) rfl rfl (fun c2_ => absurd c2_ (by decide)) (fun c2_ => ?_)
  refine pw_blk hT 7 (S' := (25, [some (pvI 4), some (pvI 0), some (pvI 4), some (pvI 0), some (pvI ((4 * 3) + 0))], [pvI ((4 * 3) + 0)], M)) rfl ⟨trivial, trivial, trivial, trivial, trivial, trivial, trivial, trivial⟩ ?_
  refine pw_if hT (c := ((4 * 3) + 0) < 0) rfl rfl (fun c3_ => absurd c3_ (by decide)) (fun c3_ => ?_)
  refine pw_blk hT 3 (S' := (34, [some (pvI 4), some (pvI 0), some (pvI 4), some (pvI 0), some (pvI ((4 * 3) + 0))], [pvI (Int32.ofNat (pvstab 1041).length), pvI ((4 * 3) + 0)], M)) rfl ⟨trivial, trivial, (by decide), trivial⟩ ?_
  refine pw_ic hT (c := (Int32.ofNat (pvstab 1041).length) ≤ ((4 * 3) + 0)) rfl rfl (fun c4_ => absurd c4_ (by decide)) (fun c4_ => ?_)
  refine pw_blk hT 3 (S' := (43, [some (pvI 4), some (pvI 0), some (pvI 4), some (pvI 0), some (pvI ((4 * 3) + 0))], [pvI ((pvstab 1041).getD (Int32.toNatClampNeg ((4 * 3) + 0)) 0)], M)) rfl ⟨trivial, trivial, ⟨by decide, (zr_in (n := 21) (show 12 ≤ Int32.toInt ((4 * 3) + 0) ∧ Int32.toInt ((4 * 3) + 0) ≤ 12 from (by decide)) (by decide) (by decide))⟩, trivial⟩ ?_
  refine pw_if hT (c := ((pvstab 1041).getD (Int32.toNatClampNeg ((4 * 3) + 0)) 0) = 0) rfl rfl (fun c5_ => absurd c5_ (by decide)) (fun c5_ => ?_)
  refine pw_blk hT 3 (S' := (52, [some (pvI 4), some (pvI 0), some (pvI 4), some (pvI 0), some (pvI ((4 * 3) + 0))], [pvI ((pvstab 1041).getD (Int32.toNatClampNeg ((4 * 3) + 0)) 0)], M)) rfl ⟨trivial, trivial, ⟨by decide, (zr_in (n := 21) (show 12 ≤ Int32.toInt ((4 * 3) + 0) ∧ Int32.toInt ((4 * 3) + 0) ≤ 12 from (by decide)) (by decide) (by decide))⟩, trivial⟩ ?_
  exact pw_ret hT rfl (r := some (pvI ((pvstab 1041).getD (Int32.toNatClampNeg ((4 * 3) + 0)) 0))) (M' := M) ⟨rfl, rfl⟩ ⟨rfl, rfl⟩
set_option maxHeartbeats 4000000 in
set_option maxRecDepth 10000 in
theorem sf_X0_bodyFrom_4_1 (M : pvM) (hok : pvOk M) (d : Nat) : PW 1 d (0, [some (pvI 4), some (pvI 1), none, none, none], [], M) (fun r X => r = some (pvI (((pvstab 1041).getD (Int32.toNatClampNeg ((4 * 3) + 1)) 0))) ∧ X = M) := by
  have hT : pvdom 1 = pvD_1 := rfl
  refine pw_blk hT 4 (S' := (4, [some (pvI 4), some (pvI 1), some (pvI 4), some (pvI 0), none], [], M)) rfl ⟨trivial, trivial, trivial, trivial, trivial⟩ ?_
  refine pw_blk hT 3 (S' := (9, [some (pvI 4), some (pvI 1), some (pvI 4), some (pvI 0), none], [pvI (Int32.ofNat (pvstab 1041).length), pvI 0], M)) rfl ⟨trivial, trivial, (by decide), trivial⟩ ?_
  refine pw_ic hT (c := (Int32.ofNat (pvstab 1041).length) ≤ 0) rfl rfl (fun c1_ => absurd c1_ (by decide)) (fun c1_ => ?_)
  refine pw_blk hT 1 (S' := (13, [some (pvI 4), some (pvI 1), some (pvI 4), some (pvI 0), none], [pvI 4], M)) rfl ⟨trivial, trivial⟩ ?_
  refine pw_if hT (c := 4 < 0) rfl rfl (fun c2_ => absurd c2_ (by decide)) (fun c2_ => ?_)
  refine pw_blk hT 7 (S' := (25, [some (pvI 4), some (pvI 1), some (pvI 4), some (pvI 0), some (pvI ((4 * 3) + 1))], [pvI ((4 * 3) + 1)], M)) rfl ⟨trivial, trivial, trivial, trivial, trivial, trivial, trivial, trivial⟩ ?_
  refine pw_if hT (c := ((4 * 3) + 1) < 0) rfl rfl (fun c3_ => absurd c3_ (by decide)) (fun c3_ => ?_)
  refine pw_blk hT 3 (S' := (34, [some (pvI 4), some (pvI 1), some (pvI 4), some (pvI 0), some (pvI ((4 * 3) + 1))], [pvI (Int32.ofNat (pvstab 1041).length), pvI ((4 * 3) + 1)], M)) rfl ⟨trivial, trivial, (by decide), trivial⟩ ?_
  refine pw_ic hT (c := (Int32.ofNat (pvstab 1041).length) ≤ ((4 * 3) + 1)) rfl rfl (fun c4_ => absurd c4_ (by decide)) (fun c4_ => ?_)
  refine pw_blk hT 3 (S' := (43, [some (pvI 4), some (pvI 1), some (pvI 4), some (pvI 0), some (pvI ((4 * 3) + 1))], [pvI ((pvstab 1041).getD (Int32.toNatClampNeg ((4 * 3) + 1)) 0)], M)) rfl ⟨trivial, trivial, ⟨by decide, (zr_in (n := 21) (show 13 ≤ Int32.toInt ((4 * 3) + 1) ∧ Int32.toInt ((4 * 3) + 1) ≤ 13 from (by decide)) (by decide) (by decide))⟩, trivial⟩ ?_
  refine pw_if hT (c := ((pvstab 1041).getD (Int32.toNatClampNeg ((4 * 3) + 1)) 0) = 0) rfl rfl (fun c5_ => absurd c5_ (by decide)) (fun c5_ => ?_)
  refine pw_blk hT 3 (S' := (52, [some (pvI 4), some (pvI 1), some (pvI 4), some (pvI 0), some (pvI ((4 * 3) + 1))], [pvI ((pvstab 1041).getD (Int32.toNatClampNeg ((4 * 3) + 1)) 0)], M)) rfl ⟨trivial, trivial, ⟨by decide, (zr_in (n := 21) (show 13 ≤ Int32.toInt ((4 * 3) + 1) ∧ Int32.toInt ((4 * 3) + 1) ≤ 13 from (by decide)) (by decide) (by decide))⟩, trivial⟩ ?_
  exact pw_ret hT rfl (r := some (pvI ((pvstab 1041).getD (Int32.toNatClampNeg ((4 * 3) + 1)) 0))) (M' := M) ⟨rfl, rfl⟩ ⟨rfl, rfl⟩
set_option maxHeartbeats 4000000 in
set_option maxRecDepth 10000 in
theorem sf_X3_above_4 (M : pvM) (hok : pvOk M) (d : Nat) : PW 131 d (0, [some (pvI 4)], [], M) (fun r X => r = some (pvI (((pvstab 1040).getD (Int32.toNatClampNeg 4) 0))) ∧ X = M) := by
  have hT : pvdom 131 = pvD_131 := rfl
  refine pw_blk hT 1 (S' := (1, [some (pvI 4)], [pvI 4], M)) rfl ⟨trivial, trivial⟩ ?_
  refine pw_if hT (c := 4 < 0) rfl rfl (fun c1_ => absurd c1_ (by decide)) (fun c1_ => ?_)
  refine pw_blk hT 3 (S' := (9, [some (pvI 4)], [pvI (Int32.ofNat (pvstab 1040).length), pvI 4], M)) rfl ⟨trivial, trivial, (by decide), trivial⟩ ?_
  refine pw_ic hT (c := 4 < (Int32.ofNat (pvstab 1040).length)) rfl rfl (fun c2_ => ?_) (fun c2_ => absurd (by decide) c2_)
  refine pw_blk hT 3 (S' := (21, [some (pvI 4)], [pvI ((pvstab 1040).getD (Int32.toNatClampNeg 4) 0)], M)) rfl ⟨trivial, trivial, ⟨by decide, (zr_in (n := 7) (show 4 ≤ Int32.toInt 4 ∧ Int32.toInt 4 ≤ 4 from (by decide)) (by decide) (by decide))⟩, trivial⟩ ?_
  exact pw_ret hT rfl (r := some (pvI ((pvstab 1040).getD (Int32.toNatClampNeg 4) 0))) (M' := M) ⟨rfl, rfl⟩ ⟨rfl, rfl⟩
set_option maxHeartbeats 4000000 in
set_option maxRecDepth 10000 in
theorem sf_X0_bodyFrom_4_2 (M : pvM) (hok : pvOk M) (d : Nat) : PW 1 d (0, [some (pvI 4), some (pvI 2), none, none, none], [], M) (fun r X => r = some (pvI (((pvstab 1041).getD (Int32.toNatClampNeg ((0 * 3) + 2)) 0))) ∧ X = M) := by
  have hT : pvdom 1 = pvD_1 := rfl
  refine pw_blk hT 4 (S' := (4, [some (pvI 4), some (pvI 2), some (pvI 4), some (pvI 0), none], [], M)) rfl ⟨trivial, trivial, trivial, trivial, trivial⟩ ?_
  refine pw_blk hT 3 (S' := (9, [some (pvI 4), some (pvI 2), some (pvI 4), some (pvI 0), none], [pvI (Int32.ofNat (pvstab 1041).length), pvI 0], M)) rfl ⟨trivial, trivial, (by decide), trivial⟩ ?_
  refine pw_ic hT (c := (Int32.ofNat (pvstab 1041).length) ≤ 0) rfl rfl (fun c1_ => absurd c1_ (by decide)) (fun c1_ => ?_)
  refine pw_blk hT 1 (S' := (13, [some (pvI 4), some (pvI 2), some (pvI 4), some (pvI 0), none], [pvI 4], M)) rfl ⟨trivial, trivial⟩ ?_
  refine pw_if hT (c := 4 < 0) rfl rfl (fun c2_ => absurd c2_ (by decide)) (fun c2_ => ?_)
  refine pw_blk hT 7 (S' := (25, [some (pvI 4), some (pvI 2), some (pvI 4), some (pvI 0), some (pvI ((4 * 3) + 2))], [pvI ((4 * 3) + 2)], M)) rfl ⟨trivial, trivial, trivial, trivial, trivial, trivial, trivial, trivial⟩ ?_
  refine pw_if hT (c := ((4 * 3) + 2) < 0) rfl rfl (fun c3_ => absurd c3_ (by decide)) (fun c3_ => ?_)
  refine pw_blk hT 3 (S' := (34, [some (pvI 4), some (pvI 2), some (pvI 4), some (pvI 0), some (pvI ((4 * 3) + 2))], [pvI (Int32.ofNat (pvstab 1041).length), pvI ((4 * 3) + 2)], M)) rfl ⟨trivial, trivial, (by decide), trivial⟩ ?_
  refine pw_ic hT (c := (Int32.ofNat (pvstab 1041).length) ≤ ((4 * 3) + 2)) rfl rfl (fun c4_ => absurd c4_ (by decide)) (fun c4_ => ?_)
  refine pw_blk hT 3 (S' := (43, [some (pvI 4), some (pvI 2), some (pvI 4), some (pvI 0), some (pvI ((4 * 3) + 2))], [pvI ((pvstab 1041).getD (Int32.toNatClampNeg ((4 * 3) + 2)) 0)], M)) rfl ⟨trivial, trivial, ⟨by decide, (zr_in (n := 21) (show 14 ≤ Int32.toInt ((4 * 3) + 2) ∧ Int32.toInt ((4 * 3) + 2) ≤ 14 from (by decide)) (by decide) (by decide))⟩, trivial⟩ ?_
  refine pw_if hT (c := ((pvstab 1041).getD (Int32.toNatClampNeg ((4 * 3) + 2)) 0) = 0) rfl rfl (fun c5_ => ?_) (fun c5_ => absurd (by decide) c5_)
  refine pw_blk hT 1 (S' := (54, [some (pvI 4), some (pvI 2), some (pvI 4), some (pvI 0), some (pvI ((4 * 3) + 2))], [pvI 4], M)) rfl ⟨trivial, trivial⟩ ?_
  refine pw_callT hT (as := [pvI 4]) (lo1 := [some (pvI 4)]) (d1 := d) (rest := []) rfl rfl rfl rfl rfl (fun h => absurd h (by decide)) (Nat.zero_le _) rfl rfl rfl (sf_X3_above_4 M hok d) ?_
  refine pw_eqI (show ((pvstab 1040).getD (Int32.toNatClampNeg 4) 0) = 1 from by decide) ?_
  show PW 1 d (57, [some (pvI 4), some (pvI 2), some (pvI 4), some (pvI 0), some (pvI ((4 * 3) + 2))], [pvI 1], M) _
  refine pw_blk hT 3 (S' := (4, [some (pvI 4), some (pvI 2), some (pvI 1), some (pvI (0 + 1)), some (pvI ((4 * 3) + 2))], [], M)) rfl ⟨trivial, trivial, trivial, trivial⟩ ?_
  refine pw_blk hT 3 (S' := (9, [some (pvI 4), some (pvI 2), some (pvI 1), some (pvI (0 + 1)), some (pvI ((4 * 3) + 2))], [pvI (Int32.ofNat (pvstab 1041).length), pvI (0 + 1)], M)) rfl ⟨trivial, trivial, (by decide), trivial⟩ ?_
  refine pw_ic hT (c := (Int32.ofNat (pvstab 1041).length) ≤ (0 + 1)) rfl rfl (fun c11_ => absurd c11_ (by decide)) (fun c11_ => ?_)
  refine pw_blk hT 1 (S' := (13, [some (pvI 4), some (pvI 2), some (pvI 1), some (pvI (0 + 1)), some (pvI ((4 * 3) + 2))], [pvI 1], M)) rfl ⟨trivial, trivial⟩ ?_
  refine pw_if hT (c := 1 < 0) rfl rfl (fun c12_ => absurd c12_ (by decide)) (fun c12_ => ?_)
  refine pw_blk hT 7 (S' := (25, [some (pvI 4), some (pvI 2), some (pvI 1), some (pvI (0 + 1)), some (pvI ((1 * 3) + 2))], [pvI ((1 * 3) + 2)], M)) rfl ⟨trivial, trivial, trivial, trivial, trivial, trivial, trivial, trivial⟩ ?_
  refine pw_if hT (c := ((1 * 3) + 2) < 0) rfl rfl (fun c13_ => absurd c13_ (by decide)) (fun c13_ => ?_)
  refine pw_blk hT 3 (S' := (34, [some (pvI 4), some (pvI 2), some (pvI 1), some (pvI (0 + 1)), some (pvI ((1 * 3) + 2))], [pvI (Int32.ofNat (pvstab 1041).length), pvI ((1 * 3) + 2)], M)) rfl ⟨trivial, trivial, (by decide), trivial⟩ ?_
  refine pw_ic hT (c := (Int32.ofNat (pvstab 1041).length) ≤ ((1 * 3) + 2)) rfl rfl (fun c14_ => absurd c14_ (by decide)) (fun c14_ => ?_)
  refine pw_blk hT 3 (S' := (43, [some (pvI 4), some (pvI 2), some (pvI 1), some (pvI (0 + 1)), some (pvI ((1 * 3) + 2))], [pvI ((pvstab 1041).getD (Int32.toNatClampNeg ((1 * 3) + 2)) 0)], M)) rfl ⟨trivial, trivial, ⟨by decide, (zr_in (n := 21) (show 5 ≤ Int32.toInt ((1 * 3) + 2) ∧ Int32.toInt ((1 * 3) + 2) ≤ 5 from (by decide)) (by decide) (by decide))⟩, trivial⟩ ?_
  refine pw_if hT (c := ((pvstab 1041).getD (Int32.toNatClampNeg ((1 * 3) + 2)) 0) = 0) rfl rfl (fun c15_ => ?_) (fun c15_ => absurd (by decide) c15_)
  refine pw_blk hT 1 (S' := (54, [some (pvI 4), some (pvI 2), some (pvI 1), some (pvI (0 + 1)), some (pvI ((1 * 3) + 2))], [pvI 1], M)) rfl ⟨trivial, trivial⟩ ?_
  refine pw_callT hT (as := [pvI 1]) (lo1 := [some (pvI 1)]) (d1 := d) (rest := []) rfl rfl rfl rfl rfl (fun h => absurd h (by decide)) (Nat.zero_le _) rfl rfl rfl (sf_X3_above_1 M hok d) ?_
  refine pw_eqI (show ((pvstab 1040).getD (Int32.toNatClampNeg 1) 0) = 0 from by decide) ?_
  show PW 1 d (57, [some (pvI 4), some (pvI 2), some (pvI 1), some (pvI (0 + 1)), some (pvI ((1 * 3) + 2))], [pvI 0], M) _
  refine pw_blk hT 3 (S' := (4, [some (pvI 4), some (pvI 2), some (pvI 0), some (pvI ((0 + 1) + 1)), some (pvI ((1 * 3) + 2))], [], M)) rfl ⟨trivial, trivial, trivial, trivial⟩ ?_
  refine pw_blk hT 3 (S' := (9, [some (pvI 4), some (pvI 2), some (pvI 0), some (pvI ((0 + 1) + 1)), some (pvI ((1 * 3) + 2))], [pvI (Int32.ofNat (pvstab 1041).length), pvI ((0 + 1) + 1)], M)) rfl ⟨trivial, trivial, (by decide), trivial⟩ ?_
  refine pw_ic hT (c := (Int32.ofNat (pvstab 1041).length) ≤ ((0 + 1) + 1)) rfl rfl (fun c21_ => absurd c21_ (by decide)) (fun c21_ => ?_)
  refine pw_blk hT 1 (S' := (13, [some (pvI 4), some (pvI 2), some (pvI 0), some (pvI ((0 + 1) + 1)), some (pvI ((1 * 3) + 2))], [pvI 0], M)) rfl ⟨trivial, trivial⟩ ?_
  refine pw_if hT (c := 0 < 0) rfl rfl (fun c22_ => absurd c22_ (by decide)) (fun c22_ => ?_)
  refine pw_blk hT 7 (S' := (25, [some (pvI 4), some (pvI 2), some (pvI 0), some (pvI ((0 + 1) + 1)), some (pvI ((0 * 3) + 2))], [pvI ((0 * 3) + 2)], M)) rfl ⟨trivial, trivial, trivial, trivial, trivial, trivial, trivial, trivial⟩ ?_
  refine pw_if hT (c := ((0 * 3) + 2) < 0) rfl rfl (fun c23_ => absurd c23_ (by decide)) (fun c23_ => ?_)
  refine pw_blk hT 3 (S' := (34, [some (pvI 4), some (pvI 2), some (pvI 0), some (pvI ((0 + 1) + 1)), some (pvI ((0 * 3) + 2))], [pvI (Int32.ofNat (pvstab 1041).length), pvI ((0 * 3) + 2)], M)) rfl ⟨trivial, trivial, (by decide), trivial⟩ ?_
  refine pw_ic hT (c := (Int32.ofNat (pvstab 1041).length) ≤ ((0 * 3) + 2)) rfl rfl (fun c24_ => absurd c24_ (by decide)) (fun c24_ => ?_)
  refine pw_blk hT 3 (S' := (43, [some (pvI 4), some (pvI 2), some (pvI 0), some (pvI ((0 + 1) + 1)), some (pvI ((0 * 3) + 2))], [pvI ((pvstab 1041).getD (Int32.toNatClampNeg ((0 * 3) + 2)) 0)], M)) rfl ⟨trivial, trivial, ⟨by decide, (zr_in (n := 21) (show 2 ≤ Int32.toInt ((0 * 3) + 2) ∧ Int32.toInt ((0 * 3) + 2) ≤ 2 from (by decide)) (by decide) (by decide))⟩, trivial⟩ ?_
  refine pw_if hT (c := ((pvstab 1041).getD (Int32.toNatClampNeg ((0 * 3) + 2)) 0) = 0) rfl rfl (fun c25_ => absurd c25_ (by decide)) (fun c25_ => ?_)
  refine pw_blk hT 3 (S' := (52, [some (pvI 4), some (pvI 2), some (pvI 0), some (pvI ((0 + 1) + 1)), some (pvI ((0 * 3) + 2))], [pvI ((pvstab 1041).getD (Int32.toNatClampNeg ((0 * 3) + 2)) 0)], M)) rfl ⟨trivial, trivial, ⟨by decide, (zr_in (n := 21) (show 2 ≤ Int32.toInt ((0 * 3) + 2) ∧ Int32.toInt ((0 * 3) + 2) ≤ 2 from (by decide)) (by decide) (by decide))⟩, trivial⟩ ?_
  exact pw_ret hT rfl (r := some (pvI ((pvstab 1041).getD (Int32.toNatClampNeg ((0 * 3) + 2)) 0))) (M' := M) ⟨rfl, rfl⟩ ⟨rfl, rfl⟩
set_option maxHeartbeats 4000000 in
set_option maxRecDepth 10000 in
theorem sf_X3_above_5 (M : pvM) (hok : pvOk M) (d : Nat) : PW 131 d (0, [some (pvI 5)], [], M) (fun r X => r = some (pvI (((pvstab 1040).getD (Int32.toNatClampNeg 5) 0))) ∧ X = M) := by
  have hT : pvdom 131 = pvD_131 := rfl
  refine pw_blk hT 1 (S' := (1, [some (pvI 5)], [pvI 5], M)) rfl ⟨trivial, trivial⟩ ?_
  refine pw_if hT (c := 5 < 0) rfl rfl (fun c1_ => absurd c1_ (by decide)) (fun c1_ => ?_)
  refine pw_blk hT 3 (S' := (9, [some (pvI 5)], [pvI (Int32.ofNat (pvstab 1040).length), pvI 5], M)) rfl ⟨trivial, trivial, (by decide), trivial⟩ ?_
  refine pw_ic hT (c := 5 < (Int32.ofNat (pvstab 1040).length)) rfl rfl (fun c2_ => ?_) (fun c2_ => absurd (by decide) c2_)
  refine pw_blk hT 3 (S' := (21, [some (pvI 5)], [pvI ((pvstab 1040).getD (Int32.toNatClampNeg 5) 0)], M)) rfl ⟨trivial, trivial, ⟨by decide, (zr_in (n := 7) (show 5 ≤ Int32.toInt 5 ∧ Int32.toInt 5 ≤ 5 from (by decide)) (by decide) (by decide))⟩, trivial⟩ ?_
  exact pw_ret hT rfl (r := some (pvI ((pvstab 1040).getD (Int32.toNatClampNeg 5) 0))) (M' := M) ⟨rfl, rfl⟩ ⟨rfl, rfl⟩
set_option maxHeartbeats 4000000 in
set_option maxRecDepth 10000 in
theorem sf_X0_bodyFrom_5_0 (M : pvM) (hok : pvOk M) (d : Nat) : PW 1 d (0, [some (pvI 5), some (pvI 0), none, none, none], [], M) (fun r X => r = some (pvI (((pvstab 1041).getD (Int32.toNatClampNeg ((2 * 3) + 0)) 0))) ∧ X = M) := by
  have hT : pvdom 1 = pvD_1 := rfl
  refine pw_blk hT 4 (S' := (4, [some (pvI 5), some (pvI 0), some (pvI 5), some (pvI 0), none], [], M)) rfl ⟨trivial, trivial, trivial, trivial, trivial⟩ ?_
  refine pw_blk hT 3 (S' := (9, [some (pvI 5), some (pvI 0), some (pvI 5), some (pvI 0), none], [pvI (Int32.ofNat (pvstab 1041).length), pvI 0], M)) rfl ⟨trivial, trivial, (by decide), trivial⟩ ?_
  refine pw_ic hT (c := (Int32.ofNat (pvstab 1041).length) ≤ 0) rfl rfl (fun c1_ => absurd c1_ (by decide)) (fun c1_ => ?_)
  refine pw_blk hT 1 (S' := (13, [some (pvI 5), some (pvI 0), some (pvI 5), some (pvI 0), none], [pvI 5], M)) rfl ⟨trivial, trivial⟩ ?_
  refine pw_if hT (c := 5 < 0) rfl rfl (fun c2_ => absurd c2_ (by decide)) (fun c2_ => ?_)
  refine pw_blk hT 7 (S' := (25, [some (pvI 5), some (pvI 0), some (pvI 5), some (pvI 0), some (pvI ((5 * 3) + 0))], [pvI ((5 * 3) + 0)], M)) rfl ⟨trivial, trivial, trivial, trivial, trivial, trivial, trivial, trivial⟩ ?_
  refine pw_if hT (c := ((5 * 3) + 0) < 0) rfl rfl (fun c3_ => absurd c3_ (by decide)) (fun c3_ => ?_)
  refine pw_blk hT 3 (S' := (34, [some (pvI 5), some (pvI 0), some (pvI 5), some (pvI 0), some (pvI ((5 * 3) + 0))], [pvI (Int32.ofNat (pvstab 1041).length), pvI ((5 * 3) + 0)], M)) rfl ⟨trivial, trivial, (by decide), trivial⟩ ?_
  refine pw_ic hT (c := (Int32.ofNat (pvstab 1041).length) ≤ ((5 * 3) + 0)) rfl rfl (fun c4_ => absurd c4_ (by decide)) (fun c4_ => ?_)
  refine pw_blk hT 3 (S' := (43, [some (pvI 5), some (pvI 0), some (pvI 5), some (pvI 0), some (pvI ((5 * 3) + 0))], [pvI ((pvstab 1041).getD (Int32.toNatClampNeg ((5 * 3) + 0)) 0)], M)) rfl ⟨trivial, trivial, ⟨by decide, (zr_in (n := 21) (show 15 ≤ Int32.toInt ((5 * 3) + 0) ∧ Int32.toInt ((5 * 3) + 0) ≤ 15 from (by decide)) (by decide) (by decide))⟩, trivial⟩ ?_
  refine pw_if hT (c := ((pvstab 1041).getD (Int32.toNatClampNeg ((5 * 3) + 0)) 0) = 0) rfl rfl (fun c5_ => ?_) (fun c5_ => absurd (by decide) c5_)
  refine pw_blk hT 1 (S' := (54, [some (pvI 5), some (pvI 0), some (pvI 5), some (pvI 0), some (pvI ((5 * 3) + 0))], [pvI 5], M)) rfl ⟨trivial, trivial⟩ ?_
  refine pw_callT hT (as := [pvI 5]) (lo1 := [some (pvI 5)]) (d1 := d) (rest := []) rfl rfl rfl rfl rfl (fun h => absurd h (by decide)) (Nat.zero_le _) rfl rfl rfl (sf_X3_above_5 M hok d) ?_
  refine pw_eqI (show ((pvstab 1040).getD (Int32.toNatClampNeg 5) 0) = 2 from by decide) ?_
  show PW 1 d (57, [some (pvI 5), some (pvI 0), some (pvI 5), some (pvI 0), some (pvI ((5 * 3) + 0))], [pvI 2], M) _
  refine pw_blk hT 3 (S' := (4, [some (pvI 5), some (pvI 0), some (pvI 2), some (pvI (0 + 1)), some (pvI ((5 * 3) + 0))], [], M)) rfl ⟨trivial, trivial, trivial, trivial⟩ ?_
  refine pw_blk hT 3 (S' := (9, [some (pvI 5), some (pvI 0), some (pvI 2), some (pvI (0 + 1)), some (pvI ((5 * 3) + 0))], [pvI (Int32.ofNat (pvstab 1041).length), pvI (0 + 1)], M)) rfl ⟨trivial, trivial, (by decide), trivial⟩ ?_
  refine pw_ic hT (c := (Int32.ofNat (pvstab 1041).length) ≤ (0 + 1)) rfl rfl (fun c11_ => absurd c11_ (by decide)) (fun c11_ => ?_)
  refine pw_blk hT 1 (S' := (13, [some (pvI 5), some (pvI 0), some (pvI 2), some (pvI (0 + 1)), some (pvI ((5 * 3) + 0))], [pvI 2], M)) rfl ⟨trivial, trivial⟩ ?_
  refine pw_if hT (c := 2 < 0) rfl rfl (fun c12_ => absurd c12_ (by decide)) (fun c12_ => ?_)
  refine pw_blk hT 7 (S' := (25, [some (pvI 5), some (pvI 0), some (pvI 2), some (pvI (0 + 1)), some (pvI ((2 * 3) + 0))], [pvI ((2 * 3) + 0)], M)) rfl ⟨trivial, trivial, trivial, trivial, trivial, trivial, trivial, trivial⟩ ?_
  refine pw_if hT (c := ((2 * 3) + 0) < 0) rfl rfl (fun c13_ => absurd c13_ (by decide)) (fun c13_ => ?_)
  refine pw_blk hT 3 (S' := (34, [some (pvI 5), some (pvI 0), some (pvI 2), some (pvI (0 + 1)), some (pvI ((2 * 3) + 0))], [pvI (Int32.ofNat (pvstab 1041).length), pvI ((2 * 3) + 0)], M)) rfl ⟨trivial, trivial, (by decide), trivial⟩ ?_
  refine pw_ic hT (c := (Int32.ofNat (pvstab 1041).length) ≤ ((2 * 3) + 0)) rfl rfl (fun c14_ => absurd c14_ (by decide)) (fun c14_ => ?_)
  refine pw_blk hT 3 (S' := (43, [some (pvI 5), some (pvI 0), some (pvI 2), some (pvI (0 + 1)), some (pvI ((2 * 3) + 0))], [pvI ((pvstab 1041).getD (Int32.toNatClampNeg ((2 * 3) + 0)) 0)], M)) rfl ⟨trivial, trivial, ⟨by decide, (zr_in (n := 21) (show 6 ≤ Int32.toInt ((2 * 3) + 0) ∧ Int32.toInt ((2 * 3) + 0) ≤ 6 from (by decide)) (by decide) (by decide))⟩, trivial⟩ ?_
  refine pw_if hT (c := ((pvstab 1041).getD (Int32.toNatClampNeg ((2 * 3) + 0)) 0) = 0) rfl rfl (fun c15_ => absurd c15_ (by decide)) (fun c15_ => ?_)
  refine pw_blk hT 3 (S' := (52, [some (pvI 5), some (pvI 0), some (pvI 2), some (pvI (0 + 1)), some (pvI ((2 * 3) + 0))], [pvI ((pvstab 1041).getD (Int32.toNatClampNeg ((2 * 3) + 0)) 0)], M)) rfl ⟨trivial, trivial, ⟨by decide, (zr_in (n := 21) (show 6 ≤ Int32.toInt ((2 * 3) + 0) ∧ Int32.toInt ((2 * 3) + 0) ≤ 6 from (by decide)) (by decide) (by decide))⟩, trivial⟩ ?_
  exact pw_ret hT rfl (r := some (pvI ((pvstab 1041).getD (Int32.toNatClampNeg ((2 * 3) + 0)) 0))) (M' := M) ⟨rfl, rfl⟩ ⟨rfl, rfl⟩
set_option maxHeartbeats 4000000 in
set_option maxRecDepth 10000 in
theorem sf_X0_bodyFrom_5_1 (M : pvM) (hok : pvOk M) (d : Nat) : PW 1 d (0, [some (pvI 5), some (pvI 1), none, none, none], [], M) (fun r X => r = some (pvI (((pvstab 1041).getD (Int32.toNatClampNeg ((0 * 3) + 1)) 0))) ∧ X = M) := by
  have hT : pvdom 1 = pvD_1 := rfl
  refine pw_blk hT 4 (S' := (4, [some (pvI 5), some (pvI 1), some (pvI 5), some (pvI 0), none], [], M)) rfl ⟨trivial, trivial, trivial, trivial, trivial⟩ ?_
  refine pw_blk hT 3 (S' := (9, [some (pvI 5), some (pvI 1), some (pvI 5), some (pvI 0), none], [pvI (Int32.ofNat (pvstab 1041).length), pvI 0], M)) rfl ⟨trivial, trivial, (by decide), trivial⟩ ?_
  refine pw_ic hT (c := (Int32.ofNat (pvstab 1041).length) ≤ 0) rfl rfl (fun c1_ => absurd c1_ (by decide)) (fun c1_ => ?_)
  refine pw_blk hT 1 (S' := (13, [some (pvI 5), some (pvI 1), some (pvI 5), some (pvI 0), none], [pvI 5], M)) rfl ⟨trivial, trivial⟩ ?_
  refine pw_if hT (c := 5 < 0) rfl rfl (fun c2_ => absurd c2_ (by decide)) (fun c2_ => ?_)
  refine pw_blk hT 7 (S' := (25, [some (pvI 5), some (pvI 1), some (pvI 5), some (pvI 0), some (pvI ((5 * 3) + 1))], [pvI ((5 * 3) + 1)], M)) rfl ⟨trivial, trivial, trivial, trivial, trivial, trivial, trivial, trivial⟩ ?_
  refine pw_if hT (c := ((5 * 3) + 1) < 0) rfl rfl (fun c3_ => absurd c3_ (by decide)) (fun c3_ => ?_)
  refine pw_blk hT 3 (S' := (34, [some (pvI 5), some (pvI 1), some (pvI 5), some (pvI 0), some (pvI ((5 * 3) + 1))], [pvI (Int32.ofNat (pvstab 1041).length), pvI ((5 * 3) + 1)], M)) rfl ⟨trivial, trivial, (by decide), trivial⟩ ?_
  refine pw_ic hT (c := (Int32.ofNat (pvstab 1041).length) ≤ ((5 * 3) + 1)) rfl rfl (fun c4_ => absurd c4_ (by decide)) (fun c4_ => ?_)
  refine pw_blk hT 3 (S' := (43, [some (pvI 5), some (pvI 1), some (pvI 5), some (pvI 0), some (pvI ((5 * 3) + 1))], [pvI ((pvstab 1041).getD (Int32.toNatClampNeg ((5 * 3) + 1)) 0)], M)) rfl ⟨trivial, trivial, ⟨by decide, (zr_in (n := 21) (show 16 ≤ Int32.toInt ((5 * 3) + 1) ∧ Int32.toInt ((5 * 3) + 1) ≤ 16 from (by decide)) (by decide) (by decide))⟩, trivial⟩ ?_
  refine pw_if hT (c := ((pvstab 1041).getD (Int32.toNatClampNeg ((5 * 3) + 1)) 0) = 0) rfl rfl (fun c5_ => ?_) (fun c5_ => absurd (by decide) c5_)
  refine pw_blk hT 1 (S' := (54, [some (pvI 5), some (pvI 1), some (pvI 5), some (pvI 0), some (pvI ((5 * 3) + 1))], [pvI 5], M)) rfl ⟨trivial, trivial⟩ ?_
  refine pw_callT hT (as := [pvI 5]) (lo1 := [some (pvI 5)]) (d1 := d) (rest := []) rfl rfl rfl rfl rfl (fun h => absurd h (by decide)) (Nat.zero_le _) rfl rfl rfl (sf_X3_above_5 M hok d) ?_
  refine pw_eqI (show ((pvstab 1040).getD (Int32.toNatClampNeg 5) 0) = 2 from by decide) ?_
  show PW 1 d (57, [some (pvI 5), some (pvI 1), some (pvI 5), some (pvI 0), some (pvI ((5 * 3) + 1))], [pvI 2], M) _
  refine pw_blk hT 3 (S' := (4, [some (pvI 5), some (pvI 1), some (pvI 2), some (pvI (0 + 1)), some (pvI ((5 * 3) + 1))], [], M)) rfl ⟨trivial, trivial, trivial, trivial⟩ ?_
  refine pw_blk hT 3 (S' := (9, [some (pvI 5), some (pvI 1), some (pvI 2), some (pvI (0 + 1)), some (pvI ((5 * 3) + 1))], [pvI (Int32.ofNat (pvstab 1041).length), pvI (0 + 1)], M)) rfl ⟨trivial, trivial, (by decide), trivial⟩ ?_
  refine pw_ic hT (c := (Int32.ofNat (pvstab 1041).length) ≤ (0 + 1)) rfl rfl (fun c11_ => absurd c11_ (by decide)) (fun c11_ => ?_)
  refine pw_blk hT 1 (S' := (13, [some (pvI 5), some (pvI 1), some (pvI 2), some (pvI (0 + 1)), some (pvI ((5 * 3) + 1))], [pvI 2], M)) rfl ⟨trivial, trivial⟩ ?_
  refine pw_if hT (c := 2 < 0) rfl rfl (fun c12_ => absurd c12_ (by decide)) (fun c12_ => ?_)
  refine pw_blk hT 7 (S' := (25, [some (pvI 5), some (pvI 1), some (pvI 2), some (pvI (0 + 1)), some (pvI ((2 * 3) + 1))], [pvI ((2 * 3) + 1)], M)) rfl ⟨trivial, trivial, trivial, trivial, trivial, trivial, trivial, trivial⟩ ?_
  refine pw_if hT (c := ((2 * 3) + 1) < 0) rfl rfl (fun c13_ => absurd c13_ (by decide)) (fun c13_ => ?_)
  refine pw_blk hT 3 (S' := (34, [some (pvI 5), some (pvI 1), some (pvI 2), some (pvI (0 + 1)), some (pvI ((2 * 3) + 1))], [pvI (Int32.ofNat (pvstab 1041).length), pvI ((2 * 3) + 1)], M)) rfl ⟨trivial, trivial, (by decide), trivial⟩ ?_
  refine pw_ic hT (c := (Int32.ofNat (pvstab 1041).length) ≤ ((2 * 3) + 1)) rfl rfl (fun c14_ => absurd c14_ (by decide)) (fun c14_ => ?_)
  refine pw_blk hT 3 (S' := (43, [some (pvI 5), some (pvI 1), some (pvI 2), some (pvI (0 + 1)), some (pvI ((2 * 3) + 1))], [pvI ((pvstab 1041).getD (Int32.toNatClampNeg ((2 * 3) + 1)) 0)], M)) rfl ⟨trivial, trivial, ⟨by decide, (zr_in (n := 21) (show 7 ≤ Int32.toInt ((2 * 3) + 1) ∧ Int32.toInt ((2 * 3) + 1) ≤ 7 from (by decide)) (by decide) (by decide))⟩, trivial⟩ ?_
  refine pw_if hT (c := ((pvstab 1041).getD (Int32.toNatClampNeg ((2 * 3) + 1)) 0) = 0) rfl rfl (fun c15_ => ?_) (fun c15_ => absurd (by decide) c15_)
  refine pw_blk hT 1 (S' := (54, [some (pvI 5), some (pvI 1), some (pvI 2), some (pvI (0 + 1)), some (pvI ((2 * 3) + 1))], [pvI 2], M)) rfl ⟨trivial, trivial⟩ ?_
  refine pw_callT hT (as := [pvI 2]) (lo1 := [some (pvI 2)]) (d1 := d) (rest := []) rfl rfl rfl rfl rfl (fun h => absurd h (by decide)) (Nat.zero_le _) rfl rfl rfl (sf_X3_above_2 M hok d) ?_
  refine pw_eqI (show ((pvstab 1040).getD (Int32.toNatClampNeg 2) 0) = 0 from by decide) ?_
  show PW 1 d (57, [some (pvI 5), some (pvI 1), some (pvI 2), some (pvI (0 + 1)), some (pvI ((2 * 3) + 1))], [pvI 0], M) _
  refine pw_blk hT 3 (S' := (4, [some (pvI 5), some (pvI 1), some (pvI 0), some (pvI ((0 + 1) + 1)), some (pvI ((2 * 3) + 1))], [], M)) rfl ⟨trivial, trivial, trivial, trivial⟩ ?_
  refine pw_blk hT 3 (S' := (9, [some (pvI 5), some (pvI 1), some (pvI 0), some (pvI ((0 + 1) + 1)), some (pvI ((2 * 3) + 1))], [pvI (Int32.ofNat (pvstab 1041).length), pvI ((0 + 1) + 1)], M)) rfl ⟨trivial, trivial, (by decide), trivial⟩ ?_
  refine pw_ic hT (c := (Int32.ofNat (pvstab 1041).length) ≤ ((0 + 1) + 1)) rfl rfl (fun c21_ => absurd c21_ (by decide)) (fun c21_ => ?_)
  refine pw_blk hT 1 (S' := (13, [some (pvI 5), some (pvI 1), some (pvI 0), some (pvI ((0 + 1) + 1)), some (pvI ((2 * 3) + 1))], [pvI 0], M)) rfl ⟨trivial, trivial⟩ ?_
  refine pw_if hT (c := 0 < 0) rfl rfl (fun c22_ => absurd c22_ (by decide)) (fun c22_ => ?_)
  refine pw_blk hT 7 (S' := (25, [some (pvI 5), some (pvI 1), some (pvI 0), some (pvI ((0 + 1) + 1)), some (pvI ((0 * 3) + 1))], [pvI ((0 * 3) + 1)], M)) rfl ⟨trivial, trivial, trivial, trivial, trivial, trivial, trivial, trivial⟩ ?_
  refine pw_if hT (c := ((0 * 3) + 1) < 0) rfl rfl (fun c23_ => absurd c23_ (by decide)) (fun c23_ => ?_)
  refine pw_blk hT 3 (S' := (34, [some (pvI 5), some (pvI 1), some (pvI 0), some (pvI ((0 + 1) + 1)), some (pvI ((0 * 3) + 1))], [pvI (Int32.ofNat (pvstab 1041).length), pvI ((0 * 3) + 1)], M)) rfl ⟨trivial, trivial, (by decide), trivial⟩ ?_
  refine pw_ic hT (c := (Int32.ofNat (pvstab 1041).length) ≤ ((0 * 3) + 1)) rfl rfl (fun c24_ => absurd c24_ (by decide)) (fun c24_ => ?_)
  refine pw_blk hT 3 (S' := (43, [some (pvI 5), some (pvI 1), some (pvI 0), some (pvI ((0 + 1) + 1)), some (pvI ((0 * 3) + 1))], [pvI ((pvstab 1041).getD (Int32.toNatClampNeg ((0 * 3) + 1)) 0)], M)) rfl ⟨trivial, trivial, ⟨by decide, (zr_in (n := 21) (show 1 ≤ Int32.toInt ((0 * 3) + 1) ∧ Int32.toInt ((0 * 3) + 1) ≤ 1 from (by decide)) (by decide) (by decide))⟩, trivial⟩ ?_
  refine pw_if hT (c := ((pvstab 1041).getD (Int32.toNatClampNeg ((0 * 3) + 1)) 0) = 0) rfl rfl (fun c25_ => absurd c25_ (by decide)) (fun c25_ => ?_)
  refine pw_blk hT 3 (S' := (52, [some (pvI 5), some (pvI 1), some (pvI 0), some (pvI ((0 + 1) + 1)), some (pvI ((0 * 3) + 1))], [pvI ((pvstab 1041).getD (Int32.toNatClampNeg ((0 * 3) + 1)) 0)], M)) rfl ⟨trivial, trivial, ⟨by decide, (zr_in (n := 21) (show 1 ≤ Int32.toInt ((0 * 3) + 1) ∧ Int32.toInt ((0 * 3) + 1) ≤ 1 from (by decide)) (by decide) (by decide))⟩, trivial⟩ ?_
  exact pw_ret hT rfl (r := some (pvI ((pvstab 1041).getD (Int32.toNatClampNeg ((0 * 3) + 1)) 0))) (M' := M) ⟨rfl, rfl⟩ ⟨rfl, rfl⟩
set_option maxHeartbeats 4000000 in
set_option maxRecDepth 10000 in
theorem sf_X0_bodyFrom_5_2 (M : pvM) (hok : pvOk M) (d : Nat) : PW 1 d (0, [some (pvI 5), some (pvI 2), none, none, none], [], M) (fun r X => r = some (pvI (((pvstab 1041).getD (Int32.toNatClampNeg ((5 * 3) + 2)) 0))) ∧ X = M) := by
  have hT : pvdom 1 = pvD_1 := rfl
  refine pw_blk hT 4 (S' := (4, [some (pvI 5), some (pvI 2), some (pvI 5), some (pvI 0), none], [], M)) rfl ⟨trivial, trivial, trivial, trivial, trivial⟩ ?_
  refine pw_blk hT 3 (S' := (9, [some (pvI 5), some (pvI 2), some (pvI 5), some (pvI 0), none], [pvI (Int32.ofNat (pvstab 1041).length), pvI 0], M)) rfl ⟨trivial, trivial, (by decide), trivial⟩ ?_
  refine pw_ic hT (c := (Int32.ofNat (pvstab 1041).length) ≤ 0) rfl rfl (fun c1_ => absurd c1_ (by decide)) (fun c1_ => ?_)
  refine pw_blk hT 1 (S' := (13, [some (pvI 5), some (pvI 2), some (pvI 5), some (pvI 0), none], [pvI 5], M)) rfl ⟨trivial, trivial⟩ ?_
  refine pw_if hT (c := 5 < 0) rfl rfl (fun c2_ => absurd c2_ (by decide)) (fun c2_ => ?_)
  refine pw_blk hT 7 (S' := (25, [some (pvI 5), some (pvI 2), some (pvI 5), some (pvI 0), some (pvI ((5 * 3) + 2))], [pvI ((5 * 3) + 2)], M)) rfl ⟨trivial, trivial, trivial, trivial, trivial, trivial, trivial, trivial⟩ ?_
  refine pw_if hT (c := ((5 * 3) + 2) < 0) rfl rfl (fun c3_ => absurd c3_ (by decide)) (fun c3_ => ?_)
  refine pw_blk hT 3 (S' := (34, [some (pvI 5), some (pvI 2), some (pvI 5), some (pvI 0), some (pvI ((5 * 3) + 2))], [pvI (Int32.ofNat (pvstab 1041).length), pvI ((5 * 3) + 2)], M)) rfl ⟨trivial, trivial, (by decide), trivial⟩ ?_
  refine pw_ic hT (c := (Int32.ofNat (pvstab 1041).length) ≤ ((5 * 3) + 2)) rfl rfl (fun c4_ => absurd c4_ (by decide)) (fun c4_ => ?_)
  refine pw_blk hT 3 (S' := (43, [some (pvI 5), some (pvI 2), some (pvI 5), some (pvI 0), some (pvI ((5 * 3) + 2))], [pvI ((pvstab 1041).getD (Int32.toNatClampNeg ((5 * 3) + 2)) 0)], M)) rfl ⟨trivial, trivial, ⟨by decide, (zr_in (n := 21) (show 17 ≤ Int32.toInt ((5 * 3) + 2) ∧ Int32.toInt ((5 * 3) + 2) ≤ 17 from (by decide)) (by decide) (by decide))⟩, trivial⟩ ?_
  refine pw_if hT (c := ((pvstab 1041).getD (Int32.toNatClampNeg ((5 * 3) + 2)) 0) = 0) rfl rfl (fun c5_ => absurd c5_ (by decide)) (fun c5_ => ?_)
  refine pw_blk hT 3 (S' := (52, [some (pvI 5), some (pvI 2), some (pvI 5), some (pvI 0), some (pvI ((5 * 3) + 2))], [pvI ((pvstab 1041).getD (Int32.toNatClampNeg ((5 * 3) + 2)) 0)], M)) rfl ⟨trivial, trivial, ⟨by decide, (zr_in (n := 21) (show 17 ≤ Int32.toInt ((5 * 3) + 2) ∧ Int32.toInt ((5 * 3) + 2) ≤ 17 from (by decide)) (by decide) (by decide))⟩, trivial⟩ ?_
  exact pw_ret hT rfl (r := some (pvI ((pvstab 1041).getD (Int32.toNatClampNeg ((5 * 3) + 2)) 0))) (M' := M) ⟨rfl, rfl⟩ ⟨rfl, rfl⟩
set_option maxHeartbeats 4000000 in
set_option maxRecDepth 10000 in
theorem sf_X0_bodyFrom_6_0 (M : pvM) (hok : pvOk M) (d : Nat) : PW 1 d (0, [some (pvI 6), some (pvI 0), none, none, none], [], M) (fun r X => r = some (pvI (((pvstab 1041).getD (Int32.toNatClampNeg ((6 * 3) + 0)) 0))) ∧ X = M) := by
  have hT : pvdom 1 = pvD_1 := rfl
  refine pw_blk hT 4 (S' := (4, [some (pvI 6), some (pvI 0), some (pvI 6), some (pvI 0), none], [], M)) rfl ⟨trivial, trivial, trivial, trivial, trivial⟩ ?_
  refine pw_blk hT 3 (S' := (9, [some (pvI 6), some (pvI 0), some (pvI 6), some (pvI 0), none], [pvI (Int32.ofNat (pvstab 1041).length), pvI 0], M)) rfl ⟨trivial, trivial, (by decide), trivial⟩ ?_
  refine pw_ic hT (c := (Int32.ofNat (pvstab 1041).length) ≤ 0) rfl rfl (fun c1_ => absurd c1_ (by decide)) (fun c1_ => ?_)
  refine pw_blk hT 1 (S' := (13, [some (pvI 6), some (pvI 0), some (pvI 6), some (pvI 0), none], [pvI 6], M)) rfl ⟨trivial, trivial⟩ ?_
  refine pw_if hT (c := 6 < 0) rfl rfl (fun c2_ => absurd c2_ (by decide)) (fun c2_ => ?_)
  refine pw_blk hT 7 (S' := (25, [some (pvI 6), some (pvI 0), some (pvI 6), some (pvI 0), some (pvI ((6 * 3) + 0))], [pvI ((6 * 3) + 0)], M)) rfl ⟨trivial, trivial, trivial, trivial, trivial, trivial, trivial, trivial⟩ ?_
  refine pw_if hT (c := ((6 * 3) + 0) < 0) rfl rfl (fun c3_ => absurd c3_ (by decide)) (fun c3_ => ?_)
  refine pw_blk hT 3 (S' := (34, [some (pvI 6), some (pvI 0), some (pvI 6), some (pvI 0), some (pvI ((6 * 3) + 0))], [pvI (Int32.ofNat (pvstab 1041).length), pvI ((6 * 3) + 0)], M)) rfl ⟨trivial, trivial, (by decide), trivial⟩ ?_
  refine pw_ic hT (c := (Int32.ofNat (pvstab 1041).length) ≤ ((6 * 3) + 0)) rfl rfl (fun c4_ => absurd c4_ (by decide)) (fun c4_ => ?_)
  refine pw_blk hT 3 (S' := (43, [some (pvI 6), some (pvI 0), some (pvI 6), some (pvI 0), some (pvI ((6 * 3) + 0))], [pvI ((pvstab 1041).getD (Int32.toNatClampNeg ((6 * 3) + 0)) 0)], M)) rfl ⟨trivial, trivial, ⟨by decide, (zr_in (n := 21) (show 18 ≤ Int32.toInt ((6 * 3) + 0) ∧ Int32.toInt ((6 * 3) + 0) ≤ 18 from (by decide)) (by decide) (by decide))⟩, trivial⟩ ?_
  refine pw_if hT (c := ((pvstab 1041).getD (Int32.toNatClampNeg ((6 * 3) + 0)) 0) = 0) rfl rfl (fun c5_ => absurd c5_ (by decide)) (fun c5_ => ?_)
  refine pw_blk hT 3 (S' := (52, [some (pvI 6), some (pvI 0), some (pvI 6), some (pvI 0), some (pvI ((6 * 3) + 0))], [pvI ((pvstab 1041).getD (Int32.toNatClampNeg ((6 * 3) + 0)) 0)], M)) rfl ⟨trivial, trivial, ⟨by decide, (zr_in (n := 21) (show 18 ≤ Int32.toInt ((6 * 3) + 0) ∧ Int32.toInt ((6 * 3) + 0) ≤ 18 from (by decide)) (by decide) (by decide))⟩, trivial⟩ ?_
  exact pw_ret hT rfl (r := some (pvI ((pvstab 1041).getD (Int32.toNatClampNeg ((6 * 3) + 0)) 0))) (M' := M) ⟨rfl, rfl⟩ ⟨rfl, rfl⟩
set_option maxHeartbeats 4000000 in
set_option maxRecDepth 10000 in
theorem sf_X0_bodyFrom_6_1 (M : pvM) (hok : pvOk M) (d : Nat) : PW 1 d (0, [some (pvI 6), some (pvI 1), none, none, none], [], M) (fun r X => r = some (pvI (((pvstab 1041).getD (Int32.toNatClampNeg ((6 * 3) + 1)) 0))) ∧ X = M) := by
  have hT : pvdom 1 = pvD_1 := rfl
  refine pw_blk hT 4 (S' := (4, [some (pvI 6), some (pvI 1), some (pvI 6), some (pvI 0), none], [], M)) rfl ⟨trivial, trivial, trivial, trivial, trivial⟩ ?_
  refine pw_blk hT 3 (S' := (9, [some (pvI 6), some (pvI 1), some (pvI 6), some (pvI 0), none], [pvI (Int32.ofNat (pvstab 1041).length), pvI 0], M)) rfl ⟨trivial, trivial, (by decide), trivial⟩ ?_
  refine pw_ic hT (c := (Int32.ofNat (pvstab 1041).length) ≤ 0) rfl rfl (fun c1_ => absurd c1_ (by decide)) (fun c1_ => ?_)
  refine pw_blk hT 1 (S' := (13, [some (pvI 6), some (pvI 1), some (pvI 6), some (pvI 0), none], [pvI 6], M)) rfl ⟨trivial, trivial⟩ ?_
  refine pw_if hT (c := 6 < 0) rfl rfl (fun c2_ => absurd c2_ (by decide)) (fun c2_ => ?_)
  refine pw_blk hT 7 (S' := (25, [some (pvI 6), some (pvI 1), some (pvI 6), some (pvI 0), some (pvI ((6 * 3) + 1))], [pvI ((6 * 3) + 1)], M)) rfl ⟨trivial, trivial, trivial, trivial, trivial, trivial, trivial, trivial⟩ ?_
  refine pw_if hT (c := ((6 * 3) + 1) < 0) rfl rfl (fun c3_ => absurd c3_ (by decide)) (fun c3_ => ?_)
  refine pw_blk hT 3 (S' := (34, [some (pvI 6), some (pvI 1), some (pvI 6), some (pvI 0), some (pvI ((6 * 3) + 1))], [pvI (Int32.ofNat (pvstab 1041).length), pvI ((6 * 3) + 1)], M)) rfl ⟨trivial, trivial, (by decide), trivial⟩ ?_
  refine pw_ic hT (c := (Int32.ofNat (pvstab 1041).length) ≤ ((6 * 3) + 1)) rfl rfl (fun c4_ => absurd c4_ (by decide)) (fun c4_ => ?_)
  refine pw_blk hT 3 (S' := (43, [some (pvI 6), some (pvI 1), some (pvI 6), some (pvI 0), some (pvI ((6 * 3) + 1))], [pvI ((pvstab 1041).getD (Int32.toNatClampNeg ((6 * 3) + 1)) 0)], M)) rfl ⟨trivial, trivial, ⟨by decide, (zr_in (n := 21) (show 19 ≤ Int32.toInt ((6 * 3) + 1) ∧ Int32.toInt ((6 * 3) + 1) ≤ 19 from (by decide)) (by decide) (by decide))⟩, trivial⟩ ?_
  refine pw_if hT (c := ((pvstab 1041).getD (Int32.toNatClampNeg ((6 * 3) + 1)) 0) = 0) rfl rfl (fun c5_ => absurd c5_ (by decide)) (fun c5_ => ?_)
  refine pw_blk hT 3 (S' := (52, [some (pvI 6), some (pvI 1), some (pvI 6), some (pvI 0), some (pvI ((6 * 3) + 1))], [pvI ((pvstab 1041).getD (Int32.toNatClampNeg ((6 * 3) + 1)) 0)], M)) rfl ⟨trivial, trivial, ⟨by decide, (zr_in (n := 21) (show 19 ≤ Int32.toInt ((6 * 3) + 1) ∧ Int32.toInt ((6 * 3) + 1) ≤ 19 from (by decide)) (by decide) (by decide))⟩, trivial⟩ ?_
  exact pw_ret hT rfl (r := some (pvI ((pvstab 1041).getD (Int32.toNatClampNeg ((6 * 3) + 1)) 0))) (M' := M) ⟨rfl, rfl⟩ ⟨rfl, rfl⟩
set_option maxHeartbeats 4000000 in
set_option maxRecDepth 10000 in
theorem sf_X3_above_6 (M : pvM) (hok : pvOk M) (d : Nat) : PW 131 d (0, [some (pvI 6)], [], M) (fun r X => r = some (pvI (((pvstab 1040).getD (Int32.toNatClampNeg 6) 0))) ∧ X = M) := by
  have hT : pvdom 131 = pvD_131 := rfl
  refine pw_blk hT 1 (S' := (1, [some (pvI 6)], [pvI 6], M)) rfl ⟨trivial, trivial⟩ ?_
  refine pw_if hT (c := 6 < 0) rfl rfl (fun c1_ => absurd c1_ (by decide)) (fun c1_ => ?_)
  refine pw_blk hT 3 (S' := (9, [some (pvI 6)], [pvI (Int32.ofNat (pvstab 1040).length), pvI 6], M)) rfl ⟨trivial, trivial, (by decide), trivial⟩ ?_
  refine pw_ic hT (c := 6 < (Int32.ofNat (pvstab 1040).length)) rfl rfl (fun c2_ => ?_) (fun c2_ => absurd (by decide) c2_)
  refine pw_blk hT 3 (S' := (21, [some (pvI 6)], [pvI ((pvstab 1040).getD (Int32.toNatClampNeg 6) 0)], M)) rfl ⟨trivial, trivial, ⟨by decide, (zr_in (n := 7) (show 6 ≤ Int32.toInt 6 ∧ Int32.toInt 6 ≤ 6 from (by decide)) (by decide) (by decide))⟩, trivial⟩ ?_
  exact pw_ret hT rfl (r := some (pvI ((pvstab 1040).getD (Int32.toNatClampNeg 6) 0))) (M' := M) ⟨rfl, rfl⟩ ⟨rfl, rfl⟩
set_option maxHeartbeats 4000000 in
set_option maxRecDepth 10000 in
theorem sf_X0_bodyFrom_6_2 (M : pvM) (hok : pvOk M) (d : Nat) : PW 1 d (0, [some (pvI 6), some (pvI 2), none, none, none], [], M) (fun r X => r = some (pvI (((pvstab 1041).getD (Int32.toNatClampNeg ((3 * 3) + 2)) 0))) ∧ X = M) := by
  have hT : pvdom 1 = pvD_1 := rfl
  refine pw_blk hT 4 (S' := (4, [some (pvI 6), some (pvI 2), some (pvI 6), some (pvI 0), none], [], M)) rfl ⟨trivial, trivial, trivial, trivial, trivial⟩ ?_
  refine pw_blk hT 3 (S' := (9, [some (pvI 6), some (pvI 2), some (pvI 6), some (pvI 0), none], [pvI (Int32.ofNat (pvstab 1041).length), pvI 0], M)) rfl ⟨trivial, trivial, (by decide), trivial⟩ ?_
  refine pw_ic hT (c := (Int32.ofNat (pvstab 1041).length) ≤ 0) rfl rfl (fun c1_ => absurd c1_ (by decide)) (fun c1_ => ?_)
  refine pw_blk hT 1 (S' := (13, [some (pvI 6), some (pvI 2), some (pvI 6), some (pvI 0), none], [pvI 6], M)) rfl ⟨trivial, trivial⟩ ?_
  refine pw_if hT (c := 6 < 0) rfl rfl (fun c2_ => absurd c2_ (by decide)) (fun c2_ => ?_)
  refine pw_blk hT 7 (S' := (25, [some (pvI 6), some (pvI 2), some (pvI 6), some (pvI 0), some (pvI ((6 * 3) + 2))], [pvI ((6 * 3) + 2)], M)) rfl ⟨trivial, trivial, trivial, trivial, trivial, trivial, trivial, trivial⟩ ?_
  refine pw_if hT (c := ((6 * 3) + 2) < 0) rfl rfl (fun c3_ => absurd c3_ (by decide)) (fun c3_ => ?_)
  refine pw_blk hT 3 (S' := (34, [some (pvI 6), some (pvI 2), some (pvI 6), some (pvI 0), some (pvI ((6 * 3) + 2))], [pvI (Int32.ofNat (pvstab 1041).length), pvI ((6 * 3) + 2)], M)) rfl ⟨trivial, trivial, (by decide), trivial⟩ ?_
  refine pw_ic hT (c := (Int32.ofNat (pvstab 1041).length) ≤ ((6 * 3) + 2)) rfl rfl (fun c4_ => absurd c4_ (by decide)) (fun c4_ => ?_)
  refine pw_blk hT 3 (S' := (43, [some (pvI 6), some (pvI 2), some (pvI 6), some (pvI 0), some (pvI ((6 * 3) + 2))], [pvI ((pvstab 1041).getD (Int32.toNatClampNeg ((6 * 3) + 2)) 0)], M)) rfl ⟨trivial, trivial, ⟨by decide, (zr_in (n := 21) (show 20 ≤ Int32.toInt ((6 * 3) + 2) ∧ Int32.toInt ((6 * 3) + 2) ≤ 20 from (by decide)) (by decide) (by decide))⟩, trivial⟩ ?_
  refine pw_if hT (c := ((pvstab 1041).getD (Int32.toNatClampNeg ((6 * 3) + 2)) 0) = 0) rfl rfl (fun c5_ => ?_) (fun c5_ => absurd (by decide) c5_)
  refine pw_blk hT 1 (S' := (54, [some (pvI 6), some (pvI 2), some (pvI 6), some (pvI 0), some (pvI ((6 * 3) + 2))], [pvI 6], M)) rfl ⟨trivial, trivial⟩ ?_
  refine pw_callT hT (as := [pvI 6]) (lo1 := [some (pvI 6)]) (d1 := d) (rest := []) rfl rfl rfl rfl rfl (fun h => absurd h (by decide)) (Nat.zero_le _) rfl rfl rfl (sf_X3_above_6 M hok d) ?_
  refine pw_eqI (show ((pvstab 1040).getD (Int32.toNatClampNeg 6) 0) = 3 from by decide) ?_
  show PW 1 d (57, [some (pvI 6), some (pvI 2), some (pvI 6), some (pvI 0), some (pvI ((6 * 3) + 2))], [pvI 3], M) _
  refine pw_blk hT 3 (S' := (4, [some (pvI 6), some (pvI 2), some (pvI 3), some (pvI (0 + 1)), some (pvI ((6 * 3) + 2))], [], M)) rfl ⟨trivial, trivial, trivial, trivial⟩ ?_
  refine pw_blk hT 3 (S' := (9, [some (pvI 6), some (pvI 2), some (pvI 3), some (pvI (0 + 1)), some (pvI ((6 * 3) + 2))], [pvI (Int32.ofNat (pvstab 1041).length), pvI (0 + 1)], M)) rfl ⟨trivial, trivial, (by decide), trivial⟩ ?_
  refine pw_ic hT (c := (Int32.ofNat (pvstab 1041).length) ≤ (0 + 1)) rfl rfl (fun c11_ => absurd c11_ (by decide)) (fun c11_ => ?_)
  refine pw_blk hT 1 (S' := (13, [some (pvI 6), some (pvI 2), some (pvI 3), some (pvI (0 + 1)), some (pvI ((6 * 3) + 2))], [pvI 3], M)) rfl ⟨trivial, trivial⟩ ?_
  refine pw_if hT (c := 3 < 0) rfl rfl (fun c12_ => absurd c12_ (by decide)) (fun c12_ => ?_)
  refine pw_blk hT 7 (S' := (25, [some (pvI 6), some (pvI 2), some (pvI 3), some (pvI (0 + 1)), some (pvI ((3 * 3) + 2))], [pvI ((3 * 3) + 2)], M)) rfl ⟨trivial, trivial, trivial, trivial, trivial, trivial, trivial, trivial⟩ ?_
  refine pw_if hT (c := ((3 * 3) + 2) < 0) rfl rfl (fun c13_ => absurd c13_ (by decide)) (fun c13_ => ?_)
  refine pw_blk hT 3 (S' := (34, [some (pvI 6), some (pvI 2), some (pvI 3), some (pvI (0 + 1)), some (pvI ((3 * 3) + 2))], [pvI (Int32.ofNat (pvstab 1041).length), pvI ((3 * 3) + 2)], M)) rfl ⟨trivial, trivial, (by decide), trivial⟩ ?_
  refine pw_ic hT (c := (Int32.ofNat (pvstab 1041).length) ≤ ((3 * 3) + 2)) rfl rfl (fun c14_ => absurd c14_ (by decide)) (fun c14_ => ?_)
  refine pw_blk hT 3 (S' := (43, [some (pvI 6), some (pvI 2), some (pvI 3), some (pvI (0 + 1)), some (pvI ((3 * 3) + 2))], [pvI ((pvstab 1041).getD (Int32.toNatClampNeg ((3 * 3) + 2)) 0)], M)) rfl ⟨trivial, trivial, ⟨by decide, (zr_in (n := 21) (show 11 ≤ Int32.toInt ((3 * 3) + 2) ∧ Int32.toInt ((3 * 3) + 2) ≤ 11 from (by decide)) (by decide) (by decide))⟩, trivial⟩ ?_
  refine pw_if hT (c := ((pvstab 1041).getD (Int32.toNatClampNeg ((3 * 3) + 2)) 0) = 0) rfl rfl (fun c15_ => absurd c15_ (by decide)) (fun c15_ => ?_)
  refine pw_blk hT 3 (S' := (52, [some (pvI 6), some (pvI 2), some (pvI 3), some (pvI (0 + 1)), some (pvI ((3 * 3) + 2))], [pvI ((pvstab 1041).getD (Int32.toNatClampNeg ((3 * 3) + 2)) 0)], M)) rfl ⟨trivial, trivial, ⟨by decide, (zr_in (n := 21) (show 11 ≤ Int32.toInt ((3 * 3) + 2) ∧ Int32.toInt ((3 * 3) + 2) ≤ 11 from (by decide)) (by decide) (by decide))⟩, trivial⟩ ?_
  exact pw_ret hT rfl (r := some (pvI ((pvstab 1041).getD (Int32.toNatClampNeg ((3 * 3) + 2)) 0))) (M' := M) ⟨rfl, rfl⟩ ⟨rfl, rfl⟩
set_option maxHeartbeats 4000000 in
set_option maxRecDepth 10000 in
theorem sf_X6_isFull_100 (M : pvM) (hok : pvOk M) (d : Nat) : PW 154 d (0, [some (pvR 100)], [], M) (fun r X => r = some (pvI ((if (M.1 100 0) < (Int32.ofNat 7) then 0 else 1))) ∧ X = M) := by
  have hT : pvdom 154 = pvD_154 := rfl
  have b1_ : 0 ≤ Int32.toInt (M.1 100 0) ∧ Int32.toInt (M.1 100 0) ≤ 7 := pvok_r hok 100 0 rfl
  refine pw_blk hT 5 (S' := (9, [some (pvR 100)], [pvI (Int32.ofNat 7), pvI (M.1 100 0)], M)) rfl ⟨trivial, rfl, trivial, rfl, rfl, trivial⟩ ?_
  refine pw_ic hT (c := (M.1 100 0) < (Int32.ofNat 7)) rfl rfl (fun c2_ => ?_) (fun c2_ => ?_)
  · have b3_ : 0 ≤ Int32.toInt (M.1 100 0) ∧ Int32.toInt (M.1 100 0) ≤ 6 := zr_lt_l 6 c2_ b1_ (show 7 ≤ Int32.toInt (Int32.ofNat 7) ∧ Int32.toInt (Int32.ofNat 7) ≤ 7 from (by decide)) (by decide)
    refine pw_blk hT 1 (S' := (17, [some (pvR 100)], [pvI 0], M)) rfl ⟨trivial, trivial⟩ ?_
    exact pw_ret hT rfl (r := some (pvI 0)) (M' := M) ⟨Or.inl rfl, rfl, rfl⟩ ⟨(by rw [if_pos c2_]), rfl⟩
  · have b4_ : 7 ≤ Int32.toInt (M.1 100 0) ∧ Int32.toInt (M.1 100 0) ≤ 7 := zr_nlt_l 7 c2_ b1_ (show 7 ≤ Int32.toInt (Int32.ofNat 7) ∧ Int32.toInt (Int32.ofNat 7) ≤ 7 from (by decide)) (by decide)
    refine pw_blk hT 2 (S' := (17, [some (pvR 100)], [pvI 1], M)) rfl ⟨trivial, trivial, trivial⟩ ?_
    exact pw_ret hT rfl (r := some (pvI 1)) (M' := M) ⟨Or.inr rfl, rfl, rfl⟩ ⟨(by rw [if_neg c2_]), rfl⟩
set_option maxHeartbeats 4000000 in
set_option maxRecDepth 10000 in
theorem sf_X1_sumPlace_5_x_x (M : pvM) (hok : pvOk M) (n1 : Int32) (n2 : Int32) (hn1 : 0 ≤ Int32.toInt n1 ∧ Int32.toInt n1 ≤ 6) (d : Nat) : PW 120 d (0, [some (pvR 5), some (pvI n1), some (pvI n2)], [], M) (fun r X => (∃ x : Int32, r = some (pvI x) ∧ 0 ≤ Int32.toInt x ∧ Int32.toInt x ≤ 2799) ∧ X = M) := by
  have hT : pvdom 120 = pvD_120 := rfl
  have b1_ : 0 ≤ Int32.toInt (M.1 5 1) ∧ Int32.toInt (M.1 5 1) ≤ 3 := pvok_r hok 5 1 rfl
  have q2_ : Int32.toInt ((M.1 5 1) * 7) = 7 * Int32.toInt (M.1 5 1) := by have u0 : Int32.toInt 7 = 7 := (by decide); have u1 := b1_; have u2 := zmul (M.1 5 1) 7 (by rw [u0]; omega) (by rw [u0]; omega); rw [u0] at u2; omega
  have b3_ : 0 ≤ Int32.toInt ((M.1 5 1) * 7) ∧ Int32.toInt ((M.1 5 1) * 7) ≤ 21 := (by have u1 := b1_; omega)
  obtain ⟨q5_, b4_⟩ : (Int32.toInt (((M.1 5 1) * 7) + n1) = Int32.toInt ((M.1 5 1) * 7) + Int32.toInt n1) ∧ (0 ≤ Int32.toInt (((M.1 5 1) * 7) + n1) ∧ Int32.toInt (((M.1 5 1) * 7) + n1) ≤ 27) := zadd_r ((M.1 5 1) * 7) n1 0 27 b3_ hn1 (by decide) (by decide) (by decide) (by decide)
  have q6_ : Int32.toInt ((((M.1 5 1) * 7) + n1) * 100) = 100 * Int32.toInt (((M.1 5 1) * 7) + n1) := by have u0 : Int32.toInt 100 = 100 := (by decide); have u1 := b4_; have u2 := zmul (((M.1 5 1) * 7) + n1) 100 (by rw [u0]; omega) (by rw [u0]; omega); rw [u0] at u2; omega
  have b7_ : 0 ≤ Int32.toInt ((((M.1 5 1) * 7) + n1) * 100) ∧ Int32.toInt ((((M.1 5 1) * 7) + n1) * 100) ≤ 2700 := (by have u1 := b4_; omega)
  have q8_ : Int32.toInt (if 99 < n2 then 99 else n2) = min (Int32.toInt n2) (Int32.toInt 99) := pvmin n2 99
  have b9_ : (-2147483648) ≤ Int32.toInt (if 99 < n2 then 99 else n2) ∧ Int32.toInt (if 99 < n2 then 99 else n2) ≤ 99 := (by have u0 := (zbnd n2); have u1 := (show 99 ≤ Int32.toInt 99 ∧ Int32.toInt 99 ≤ 99 from (by decide)); omega)
  have q10_ : Int32.toInt (if 0 < (if 99 < n2 then 99 else n2) then (if 99 < n2 then 99 else n2) else 0) = max (Int32.toInt 0) (Int32.toInt (if 99 < n2 then 99 else n2)) := pvmax 0 (if 99 < n2 then 99 else n2)
  have b11_ : 0 ≤ Int32.toInt (if 0 < (if 99 < n2 then 99 else n2) then (if 99 < n2 then 99 else n2) else 0) ∧ Int32.toInt (if 0 < (if 99 < n2 then 99 else n2) then (if 99 < n2 then 99 else n2) else 0) ≤ 99 := (by have u0 := (show 0 ≤ Int32.toInt 0 ∧ Int32.toInt 0 ≤ 0 from (by decide)); have u1 := b9_; omega)
  obtain ⟨q13_, b12_⟩ : (Int32.toInt (((((M.1 5 1) * 7) + n1) * 100) + (if 0 < (if 99 < n2 then 99 else n2) then (if 99 < n2 then 99 else n2) else 0)) = Int32.toInt ((((M.1 5 1) * 7) + n1) * 100) + Int32.toInt (if 0 < (if 99 < n2 then 99 else n2) then (if 99 < n2 then 99 else n2) else 0)) ∧ (0 ≤ Int32.toInt (((((M.1 5 1) * 7) + n1) * 100) + (if 0 < (if 99 < n2 then 99 else n2) then (if 99 < n2 then 99 else n2) else 0)) ∧ Int32.toInt (((((M.1 5 1) * 7) + n1) * 100) + (if 0 < (if 99 < n2 then 99 else n2) then (if 99 < n2 then 99 else n2) else 0)) ≤ 2799) := zadd_r ((((M.1 5 1) * 7) + n1) * 100) (if 0 < (if 99 < n2 then 99 else n2) then (if 99 < n2 then 99 else n2) else 0) 0 2799 b7_ b11_ (by decide) (by decide) (by decide) (by decide)
  refine pw_blk hT 14 (S' := (23, [some (pvR 5), some (pvI n1), some (pvI n2)], [pvI (((((M.1 5 1) * 7) + n1) * 100) + (if 0 < (if 99 < n2 then 99 else n2) then (if 99 < n2 then 99 else n2) else 0))], M)) rfl ⟨trivial, rfl, trivial, trivial, trivial, trivial, trivial, trivial, trivial, trivial, trivial, (Nat.le_of_ble_eq_true rfl), (Nat.le_of_ble_eq_true rfl), trivial, trivial⟩ ?_
  exact pw_ret hT rfl (r := some (pvI (((((M.1 5 1) * 7) + n1) * 100) + (if 0 < (if 99 < n2 then 99 else n2) then (if 99 < n2 then 99 else n2) else 0)))) (M' := M) ⟨rfl, rfl⟩ ⟨⟨_, rfl, b12_⟩, rfl⟩
def fpL_X2_learn_x_x_x_x_x : List (Nat × Nat × Nat) := [(1, 112, 0)]
def fp_X2_learn_x_x_x_x_x (q k : Nat) : Bool := pvfp fpL_X2_learn_x_x_x_x_x q k
set_option maxHeartbeats 4000000 in
set_option maxRecDepth 10000 in
theorem sf_X2_learn_x_x_x_x_x (M : pvM) (hok : pvOk M) (q0 : Nat) (q1 : Nat) (n2 : Int32) (n3 : Int32) (n4 : Int32) (hq0 : pvkl q0 = 2) (hq1 : pvkl q1 = 3) (hn2 : 0 ≤ Int32.toInt n2 ∧ Int32.toInt n2 ≤ 6) (hn3 : 0 ≤ Int32.toInt n3 ∧ Int32.toInt n3 ≤ 3) (hn4 : 0 ≤ Int32.toInt n4 ∧ Int32.toInt n4 ≤ 99) (d : Nat) : PW 128 d (0, [some (pvR q0), some (pvR q1), some (pvI n2), some (pvI n3), some (pvI n4)], [], M) (fun r X => r = none ∧ pvOk X ∧ pvFr fp_X2_learn_x_x_x_x_x M X) := by
  have hT : pvdom 128 = pvD_128 := rfl
  refine pw_blkw hT 5 (pc := 7) (lo := [some (pvR q0), some (pvR q1), some (pvI n2), some (pvI n3), some (pvI n4)]) (st := []) (M := pvu M (q0 + 36) (Int32.toNatClampNeg 0) n2) rfl ⟨trivial, hq0, trivial, trivial, ⟨(pvow_2_36 hq0).1, (by rw [(pvow_2_36 hq0).2.1]; exact (zr_in (n := 6) (show 0 ≤ Int32.toInt 0 ∧ Int32.toInt 0 ≤ 0 from (by decide)) (by decide) (by decide)))⟩, trivial⟩ (fun M1_ e2_ => ?_)
  have o3_ : pvOk M1_ := pvok_u2 e2_ hok ((pvrg_a _ (by rw [(pvow_2_36 hq0).1]; decide)).trans (pvow_2_36 hq0).2.2.2) (zbnd n2)
  have f4_ : pvFr fp_X2_learn_x_x_x_x_x M M1_ := pvfr_u e2_ pvfr_0 (pvfp_r (l := fpL_X2_learn_x_x_x_x_x) (pvow_2_36 hq0).2.2.1 (kk := 0) (by decide) (Or.inl rfl))
  have b5_ : 0 ≤ Int32.toInt (M1_.1 q1 0) ∧ Int32.toInt (M1_.1 q1 0) ≤ 6 := pvok_r o3_ q1 0 ((pvrg_o 0 hq1 (by decide) (by decide)).trans rfl)
  refine pw_blkw hT 6 (pc := 17) (lo := [some (pvR q0), some (pvR q1), some (pvI n2), some (pvI n3), some (pvI n4)]) (st := []) (M := pvu M1_ (q0 + 36) (Int32.toNatClampNeg 1) (M1_.1 q1 0)) rfl ⟨trivial, hq0, trivial, trivial, hq1, ⟨(pvow_2_36 hq0).1, (by rw [(pvow_2_36 hq0).2.1]; exact (zr_in (n := 6) (show 1 ≤ Int32.toInt 1 ∧ Int32.toInt 1 ≤ 1 from (by decide)) (by decide) (by decide)))⟩, trivial⟩ (fun M6_ e7_ => ?_)
  have o8_ : pvOk M6_ := pvok_u2 e7_ o3_ ((pvrg_a _ (by rw [(pvow_2_36 hq0).1]; decide)).trans (pvow_2_36 hq0).2.2.2) (zbnd (M1_.1 q1 0))
  have f9_ : pvFr fp_X2_learn_x_x_x_x_x M M6_ := pvfr_u e7_ f4_ (pvfp_r (l := fpL_X2_learn_x_x_x_x_x) (pvow_2_36 hq0).2.2.1 (kk := 0) (by decide) (Or.inl rfl))
  have b10_ : 0 ≤ Int32.toInt (M6_.1 q1 2) ∧ Int32.toInt (M6_.1 q1 2) ≤ 3 := pvok_r o8_ q1 2 ((pvrg_o 2 hq1 (by decide) (by decide)).trans rfl)
  refine pw_blkw hT 6 (pc := 27) (lo := [some (pvR q0), some (pvR q1), some (pvI n2), some (pvI n3), some (pvI n4)]) (st := []) (M := pvu M6_ (q0 + 36) (Int32.toNatClampNeg 2) (M6_.1 q1 2)) rfl ⟨trivial, hq0, trivial, trivial, hq1, ⟨(pvow_2_36 hq0).1, (by rw [(pvow_2_36 hq0).2.1]; exact (zr_in (n := 6) (show 2 ≤ Int32.toInt 2 ∧ Int32.toInt 2 ≤ 2 from (by decide)) (by decide) (by decide)))⟩, trivial⟩ (fun M11_ e12_ => ?_)
  have o13_ : pvOk M11_ := pvok_u2 e12_ o8_ ((pvrg_a _ (by rw [(pvow_2_36 hq0).1]; decide)).trans (pvow_2_36 hq0).2.2.2) (zbnd (M6_.1 q1 2))
  have f14_ : pvFr fp_X2_learn_x_x_x_x_x M M11_ := pvfr_u e12_ f9_ (pvfp_r (l := fpL_X2_learn_x_x_x_x_x) (pvow_2_36 hq0).2.2.1 (kk := 0) (by decide) (Or.inl rfl))
  have b15_ : 0 ≤ Int32.toInt (M11_.1 q1 3) ∧ Int32.toInt (M11_.1 q1 3) ≤ 4 := pvok_r o13_ q1 3 ((pvrg_o 3 hq1 (by decide) (by decide)).trans rfl)
  refine pw_blkw hT 6 (pc := 37) (lo := [some (pvR q0), some (pvR q1), some (pvI n2), some (pvI n3), some (pvI n4)]) (st := []) (M := pvu M11_ (q0 + 36) (Int32.toNatClampNeg 3) (M11_.1 q1 3)) rfl ⟨trivial, hq0, trivial, trivial, hq1, ⟨(pvow_2_36 hq0).1, (by rw [(pvow_2_36 hq0).2.1]; exact (zr_in (n := 6) (show 3 ≤ Int32.toInt 3 ∧ Int32.toInt 3 ≤ 3 from (by decide)) (by decide) (by decide)))⟩, trivial⟩ (fun M16_ e17_ => ?_)
  have o18_ : pvOk M16_ := pvok_u2 e17_ o13_ ((pvrg_a _ (by rw [(pvow_2_36 hq0).1]; decide)).trans (pvow_2_36 hq0).2.2.2) (zbnd (M11_.1 q1 3))
  have f19_ : pvFr fp_X2_learn_x_x_x_x_x M M16_ := pvfr_u e17_ f14_ (pvfp_r (l := fpL_X2_learn_x_x_x_x_x) (pvow_2_36 hq0).2.2.1 (kk := 0) (by decide) (Or.inl rfl))
  refine pw_blkw hT 5 (pc := 44) (lo := [some (pvR q0), some (pvR q1), some (pvI n2), some (pvI n3), some (pvI n4)]) (st := []) (M := pvu M16_ (q0 + 36) (Int32.toNatClampNeg 4) n3) rfl ⟨trivial, hq0, trivial, trivial, ⟨(pvow_2_36 hq0).1, (by rw [(pvow_2_36 hq0).2.1]; exact (zr_in (n := 6) (show 4 ≤ Int32.toInt 4 ∧ Int32.toInt 4 ≤ 4 from (by decide)) (by decide) (by decide)))⟩, trivial⟩ (fun M20_ e21_ => ?_)
  have o22_ : pvOk M20_ := pvok_u2 e21_ o18_ ((pvrg_a _ (by rw [(pvow_2_36 hq0).1]; decide)).trans (pvow_2_36 hq0).2.2.2) (zbnd n3)
  have f23_ : pvFr fp_X2_learn_x_x_x_x_x M M20_ := pvfr_u e21_ f19_ (pvfp_r (l := fpL_X2_learn_x_x_x_x_x) (pvow_2_36 hq0).2.2.1 (kk := 0) (by decide) (Or.inl rfl))
  have q24_ : Int32.toInt (if 99 < n4 then 99 else n4) = min (Int32.toInt n4) (Int32.toInt 99) := pvmin n4 99
  have b25_ : 0 ≤ Int32.toInt (if 99 < n4 then 99 else n4) ∧ Int32.toInt (if 99 < n4 then 99 else n4) ≤ 99 := (by have u0 := hn4; have u1 := (show 99 ≤ Int32.toInt 99 ∧ Int32.toInt 99 ≤ 99 from (by decide)); omega)
  refine pw_blkw hT 7 (pc := 57) (lo := [some (pvR q0), some (pvR q1), some (pvI n2), some (pvI n3), some (pvI n4)]) (st := []) (M := pvu M20_ (q0 + 36) (Int32.toNatClampNeg 5) (if 99 < n4 then 99 else n4)) rfl ⟨trivial, hq0, trivial, trivial, trivial, (Nat.le_of_ble_eq_true rfl), ⟨(pvow_2_36 hq0).1, (by rw [(pvow_2_36 hq0).2.1]; exact (zr_in (n := 6) (show 5 ≤ Int32.toInt 5 ∧ Int32.toInt 5 ≤ 5 from (by decide)) (by decide) (by decide)))⟩, trivial⟩ (fun M26_ e27_ => ?_)
  have o28_ : pvOk M26_ := pvok_u2 e27_ o22_ ((pvrg_a _ (by rw [(pvow_2_36 hq0).1]; decide)).trans (pvow_2_36 hq0).2.2.2) (zbnd (if 99 < n4 then 99 else n4))
  have f29_ : pvFr fp_X2_learn_x_x_x_x_x M M26_ := pvfr_u e27_ f23_ (pvfp_r (l := fpL_X2_learn_x_x_x_x_x) (pvow_2_36 hq0).2.2.1 (kk := 0) (by decide) (Or.inl rfl))
  exact pw_ret hT rfl (r := none) (M' := M26_) ⟨rfl, rfl⟩ ⟨rfl, o28_, f29_⟩
set_option maxHeartbeats 4000000 in
set_option maxRecDepth 10000 in
theorem sf_X2_passes_x_x (M : pvM) (hok : pvOk M) (q0 : Nat) (n1 : Int32) (hq0 : pvkl q0 = 2) (d : Nat) : PW 129 d (0, [some (pvR q0), some (pvI n1), none, none], [], M) (fun r X => (∃ x : Int32, r = some (pvI x) ∧ 0 ≤ Int32.toInt x ∧ Int32.toInt x ≤ 1) ∧ X = M) := by
  have hT : pvdom 129 = pvD_129 := rfl
  refine pw_blk hT 5 (S' := (7, [some (pvR q0), some (pvI n1), some (pvI (n1 / 300)), none], [pvI (n1 / 300)], M)) rfl ⟨trivial, trivial, (by decide), trivial, trivial, trivial⟩ ?_
  refine pw_if hT (c := (n1 / 300) < 0) rfl rfl (fun c1_ => ?_) (fun c1_ => ?_)
  · have b2_ : (-2147483648) ≤ Int32.toInt (n1 / 300) ∧ Int32.toInt (n1 / 300) ≤ (-1) := zr_lt_l (-1) c1_ (zbnd (n1 / 300)) (show 0 ≤ Int32.toInt 0 ∧ Int32.toInt 0 ≤ 0 from (by decide)) (by decide)
    refine pw_blk hT 1 (S' := (20, [some (pvR q0), some (pvI n1), some (pvI (n1 / 300)), none], [pvI 0], M)) rfl ⟨trivial, trivial⟩ ?_
    exact pw_ret hT rfl (r := some (pvI 0)) (M' := M) ⟨Or.inl rfl, rfl, rfl⟩ ⟨⟨_, rfl, (zr_wide (show 0 ≤ Int32.toInt 0 ∧ Int32.toInt 0 ≤ 0 from (by decide)) (by decide) (by decide))⟩, rfl⟩
  · have b3_ : 0 ≤ Int32.toInt (n1 / 300) ∧ Int32.toInt (n1 / 300) ≤ 2147483647 := zr_nlt_l 0 c1_ (zbnd (n1 / 300)) (show 0 ≤ Int32.toInt 0 ∧ Int32.toInt 0 ≤ 0 from (by decide)) (by decide)
    have b4_ : 6 ≤ Int32.toInt (Int32.ofNat (pvln (q0 + 36))) ∧ Int32.toInt (Int32.ofNat (pvln (q0 + 36))) ≤ 6 := (by rw [(pvow_2_36 hq0).2.1]; decide)
    refine pw_blk hT 4 (S' := (16, [some (pvR q0), some (pvI n1), some (pvI (n1 / 300)), none], [pvI (Int32.ofNat (pvln (q0 + 36))), pvI (n1 / 300)], M)) rfl ⟨trivial, trivial, hq0, (pvow_2_36 hq0).1, trivial⟩ ?_
    refine pw_ic hT (c := (n1 / 300) < (Int32.ofNat (pvln (q0 + 36)))) rfl rfl (fun c5_ => ?_) (fun c5_ => ?_)
    · have b6_ : 0 ≤ Int32.toInt (n1 / 300) ∧ Int32.toInt (n1 / 300) ≤ 5 := zr_lt_l 5 c5_ b3_ b4_ (by decide)
      have d7_ : Int32.toInt (n1 / 300) < Int32.toInt (Int32.ofNat (pvln (q0 + 36))) := (zi_lt _ _).mp c5_
      refine pw_blk hT 9 (S' := (32, [some (pvR q0), some (pvI n1), some (pvI (n1 / 300)), some (pvI (n1 - n1 / 100 * 100))], [pvI ((n1 / 100) - (n1 / 100) / 3 * 3)], M)) rfl ⟨trivial, trivial, (by decide), trivial, trivial, trivial, (by decide), trivial, (by decide), trivial⟩ ?_
      refine pw_sw hT rfl rfl ?_
      refine And.intro (fun c8_ => ?_) (fun c8_ => ?_)
      · show PW 129 d (60, [some (pvR q0), some (pvI n1), some (pvI (n1 / 300)), some (pvI (n1 - n1 / 100 * 100))], [], M) _
        have b9_ : 0 ≤ Int32.toInt ((n1 / 100) - (n1 / 100) / 3 * 3) ∧ Int32.toInt ((n1 / 100) - (n1 / 100) / 3 * 3) ≤ 0 := (by have u0 := (zbnd ((n1 / 100) - (n1 / 100) / 3 * 3)); have u1 := (zi_eq _ _).mp c8_; have u2 := (show 0 ≤ Int32.toInt 0 ∧ Int32.toInt 0 ≤ 0 from (by decide)); omega)
        refine pw_blk hT 5 (S' := (67, [some (pvR q0), some (pvI n1), some (pvI (n1 / 300)), some (pvI (n1 - n1 / 100 * 100))], [pvI (n1 - n1 / 100 * 100), pvI (M.1 (q0 + 36) (Int32.toNatClampNeg (n1 / 300)))], M)) rfl ⟨trivial, hq0, trivial, ⟨(pvow_2_36 hq0).1, (by rw [(pvow_2_36 hq0).2.1]; exact (zr_in (n := 6) b6_ (by decide) (by decide)))⟩, trivial, trivial⟩ ?_
        refine pw_ic hT (c := (n1 - n1 / 100 * 100) ≤ (M.1 (q0 + 36) (Int32.toNatClampNeg (n1 / 300)))) rfl rfl (fun c10_ => ?_) (fun c10_ => ?_)
        · have d11_ : Int32.toInt (n1 - n1 / 100 * 100) ≤ Int32.toInt (M.1 (q0 + 36) (Int32.toNatClampNeg (n1 / 300))) := (zi_le _ _).mp c10_
          refine pw_blk hT 1 (S' := (75, [some (pvR q0), some (pvI n1), some (pvI (n1 / 300)), some (pvI (n1 - n1 / 100 * 100))], [pvI 0], M)) rfl ⟨trivial, trivial⟩ ?_
          exact pw_ret hT rfl (r := some (pvI 0)) (M' := M) ⟨Or.inl rfl, rfl, rfl⟩ ⟨⟨_, rfl, (zr_wide (show 0 ≤ Int32.toInt 0 ∧ Int32.toInt 0 ≤ 0 from (by decide)) (by decide) (by decide))⟩, rfl⟩
        · have b12_ : (-2147483647) ≤ Int32.toInt (n1 - n1 / 100 * 100) ∧ Int32.toInt (n1 - n1 / 100 * 100) ≤ 2147483647 := zr_nle_l (-2147483647) c10_ (zbnd (n1 - n1 / 100 * 100)) (zbnd (M.1 (q0 + 36) (Int32.toNatClampNeg (n1 / 300)))) (by decide)
          have b13_ : (-2147483648) ≤ Int32.toInt (M.1 (q0 + 36) (Int32.toNatClampNeg (n1 / 300))) ∧ Int32.toInt (M.1 (q0 + 36) (Int32.toNatClampNeg (n1 / 300))) ≤ 2147483646 := zr_nle_r 2147483646 c10_ (zbnd (M.1 (q0 + 36) (Int32.toNatClampNeg (n1 / 300)))) b12_ (by decide)
          have d14_ : Int32.toInt (n1 - n1 / 100 * 100) > Int32.toInt (M.1 (q0 + 36) (Int32.toNatClampNeg (n1 / 300))) := Int.not_le.mp ((not_congr (zi_le _ _)).mp c10_)
          refine pw_blk hT 2 (S' := (75, [some (pvR q0), some (pvI n1), some (pvI (n1 / 300)), some (pvI (n1 - n1 / 100 * 100))], [pvI 1], M)) rfl ⟨trivial, trivial, trivial⟩ ?_
          exact pw_ret hT rfl (r := some (pvI 1)) (M' := M) ⟨Or.inr rfl, rfl, rfl⟩ ⟨⟨_, rfl, (zr_wide (show 1 ≤ Int32.toInt 1 ∧ Int32.toInt 1 ≤ 1 from (by decide)) (by decide) (by decide))⟩, rfl⟩
      · refine And.intro (fun c15_ => ?_) (fun c15_ => ?_)
        · show PW 129 d (76, [some (pvR q0), some (pvI n1), some (pvI (n1 / 300)), some (pvI (n1 - n1 / 100 * 100))], [], M) _
          have b16_ : 1 ≤ Int32.toInt ((n1 / 100) - (n1 / 100) / 3 * 3) ∧ Int32.toInt ((n1 / 100) - (n1 / 100) / 3 * 3) ≤ 1 := (by have u0 := (zbnd ((n1 / 100) - (n1 / 100) / 3 * 3)); have u1 := (zi_eq _ _).mp c15_; have u2 := (show 1 ≤ Int32.toInt 1 ∧ Int32.toInt 1 ≤ 1 from (by decide)); omega)
          refine pw_blk hT 5 (S' := (83, [some (pvR q0), some (pvI n1), some (pvI (n1 / 300)), some (pvI (n1 - n1 / 100 * 100))], [pvI (n1 - n1 / 100 * 100), pvI (M.1 (q0 + 36) (Int32.toNatClampNeg (n1 / 300)))], M)) rfl ⟨trivial, hq0, trivial, ⟨(pvow_2_36 hq0).1, (by rw [(pvow_2_36 hq0).2.1]; exact (zr_in (n := 6) b6_ (by decide) (by decide)))⟩, trivial, trivial⟩ ?_
          refine pw_icn hT (c := (M.1 (q0 + 36) (Int32.toNatClampNeg (n1 / 300))) = (n1 - n1 / 100 * 100)) rfl rfl (fun c17_ => ?_) (fun c17_ => ?_)
          · refine pw_blk hT 1 (S' := (91, [some (pvR q0), some (pvI n1), some (pvI (n1 / 300)), some (pvI (n1 - n1 / 100 * 100))], [pvI 0], M)) rfl ⟨trivial, trivial⟩ ?_
            exact pw_ret hT rfl (r := some (pvI 0)) (M' := M) ⟨Or.inl rfl, rfl, rfl⟩ ⟨⟨_, rfl, (zr_wide (show 0 ≤ Int32.toInt 0 ∧ Int32.toInt 0 ≤ 0 from (by decide)) (by decide) (by decide))⟩, rfl⟩
          · have d18_ : Int32.toInt (M.1 (q0 + 36) (Int32.toNatClampNeg (n1 / 300))) = Int32.toInt (n1 - n1 / 100 * 100) := (zi_eq _ _).mp c17_
            refine pw_blk hT 2 (S' := (91, [some (pvR q0), some (pvI n1), some (pvI (n1 / 300)), some (pvI (n1 - n1 / 100 * 100))], [pvI 1], M)) rfl ⟨trivial, trivial, trivial⟩ ?_
            exact pw_ret hT rfl (r := some (pvI 1)) (M' := M) ⟨Or.inr rfl, rfl, rfl⟩ ⟨⟨_, rfl, (zr_wide (show 1 ≤ Int32.toInt 1 ∧ Int32.toInt 1 ≤ 1 from (by decide)) (by decide) (by decide))⟩, rfl⟩
        · show PW 129 d (92, [some (pvR q0), some (pvI n1), some (pvI (n1 / 300)), some (pvI (n1 - n1 / 100 * 100))], [], M) _
          refine pw_blk hT 5 (S' := (99, [some (pvR q0), some (pvI n1), some (pvI (n1 / 300)), some (pvI (n1 - n1 / 100 * 100))], [pvI (n1 - n1 / 100 * 100), pvI (M.1 (q0 + 36) (Int32.toNatClampNeg (n1 / 300)))], M)) rfl ⟨trivial, hq0, trivial, ⟨(pvow_2_36 hq0).1, (by rw [(pvow_2_36 hq0).2.1]; exact (zr_in (n := 6) b6_ (by decide) (by decide)))⟩, trivial, trivial⟩ ?_
          refine pw_ic hT (c := (M.1 (q0 + 36) (Int32.toNatClampNeg (n1 / 300))) ≤ (n1 - n1 / 100 * 100)) rfl rfl (fun c19_ => ?_) (fun c19_ => ?_)
          · have d20_ : Int32.toInt (M.1 (q0 + 36) (Int32.toNatClampNeg (n1 / 300))) ≤ Int32.toInt (n1 - n1 / 100 * 100) := (zi_le _ _).mp c19_
            refine pw_blk hT 1 (S' := (107, [some (pvR q0), some (pvI n1), some (pvI (n1 / 300)), some (pvI (n1 - n1 / 100 * 100))], [pvI 0], M)) rfl ⟨trivial, trivial⟩ ?_
            exact pw_ret hT rfl (r := some (pvI 0)) (M' := M) ⟨Or.inl rfl, rfl, rfl⟩ ⟨⟨_, rfl, (zr_wide (show 0 ≤ Int32.toInt 0 ∧ Int32.toInt 0 ≤ 0 from (by decide)) (by decide) (by decide))⟩, rfl⟩
          · have b21_ : (-2147483647) ≤ Int32.toInt (M.1 (q0 + 36) (Int32.toNatClampNeg (n1 / 300))) ∧ Int32.toInt (M.1 (q0 + 36) (Int32.toNatClampNeg (n1 / 300))) ≤ 2147483647 := zr_nle_l (-2147483647) c19_ (zbnd (M.1 (q0 + 36) (Int32.toNatClampNeg (n1 / 300)))) (zbnd (n1 - n1 / 100 * 100)) (by decide)
            have b22_ : (-2147483648) ≤ Int32.toInt (n1 - n1 / 100 * 100) ∧ Int32.toInt (n1 - n1 / 100 * 100) ≤ 2147483646 := zr_nle_r 2147483646 c19_ (zbnd (n1 - n1 / 100 * 100)) b21_ (by decide)
            have d23_ : Int32.toInt (M.1 (q0 + 36) (Int32.toNatClampNeg (n1 / 300))) > Int32.toInt (n1 - n1 / 100 * 100) := Int.not_le.mp ((not_congr (zi_le _ _)).mp c19_)
            refine pw_blk hT 2 (S' := (107, [some (pvR q0), some (pvI n1), some (pvI (n1 / 300)), some (pvI (n1 - n1 / 100 * 100))], [pvI 1], M)) rfl ⟨trivial, trivial, trivial⟩ ?_
            exact pw_ret hT rfl (r := some (pvI 1)) (M' := M) ⟨Or.inr rfl, rfl, rfl⟩ ⟨⟨_, rfl, (zr_wide (show 1 ≤ Int32.toInt 1 ∧ Int32.toInt 1 ≤ 1 from (by decide)) (by decide) (by decide))⟩, rfl⟩
    · have b24_ : 6 ≤ Int32.toInt (n1 / 300) ∧ Int32.toInt (n1 / 300) ≤ 2147483647 := zr_nlt_l 6 c5_ b3_ b4_ (by decide)
      have d25_ : Int32.toInt (n1 / 300) ≥ Int32.toInt (Int32.ofNat (pvln (q0 + 36))) := Int.not_lt.mp ((not_congr (zi_lt _ _)).mp c5_)
      refine pw_blk hT 1 (S' := (20, [some (pvR q0), some (pvI n1), some (pvI (n1 / 300)), none], [pvI 0], M)) rfl ⟨trivial, trivial⟩ ?_
      exact pw_ret hT rfl (r := some (pvI 0)) (M' := M) ⟨Or.inl rfl, rfl, rfl⟩ ⟨⟨_, rfl, (zr_wide (show 0 ≤ Int32.toInt 0 ∧ Int32.toInt 0 ≤ 0 from (by decide)) (by decide) (by decide))⟩, rfl⟩
set_option maxHeartbeats 4000000 in
set_option maxRecDepth 10000 in
theorem sf_X2_isTrue_x_x_x (M : pvM) (hok : pvOk M) (q0 : Nat) (n1 : Int32) (n2 : Int32) (hq0 : pvkl q0 = 2) (hn1 : 0 ≤ Int32.toInt n1 ∧ Int32.toInt n1 ≤ 100) (hn2 : 0 ≤ Int32.toInt n2 ∧ Int32.toInt n2 ≤ 100) (d : Nat) : PW 127 d (0, [some (pvR q0), some (pvI n1), some (pvI n2), none, none, none], [], M) (fun r X => (∃ x : Int32, r = some (pvI x) ∧ 0 ≤ Int32.toInt x ∧ Int32.toInt x ≤ 1) ∧ X = M) := by
  have hT : pvdom 127 = pvD_127 := rfl
  refine pw_blk hT 4 (S' := (5, [some (pvR q0), some (pvI n1), some (pvI n2), some (pvI 0), some (pvI n1), none], [], M)) rfl ⟨trivial, trivial, trivial, trivial, trivial⟩ ?_
  have hlz79_ : ∀ (nz79_ : Nat) (i3z79_ : Int32) (i4z79_ : Int32) (v5z79_ : Option pvV), (0 ≤ Int32.toInt i4z79_ ∧ Int32.toInt i4z79_ ≤ 100) → (zhide ((101 - Int32.toInt i4z79_).toNat < nz79_)) → PW 127 d (5, [some (pvR q0), some (pvI n1), some (pvI n2), some (pvI i3z79_), some (pvI i4z79_), v5z79_], [], M) (fun r X => (∃ x : Int32, r = some (pvI x) ∧ 0 ≤ Int32.toInt x ∧ Int32.toInt x ≤ 1) ∧ X = M) := by
    intro nz79_
    induction nz79_ with
    | zero => intro i3z79_ i4z79_ v5z79_ h4z79_ hmz79_; exact absurd (zshow hmz79_) (Nat.not_lt_zero _)
    | succ nz79_ ihz79_ =>
      intro i3z79_ i4z79_ v5z79_ h4z79_ hmz79_
      refine pw_blk hT 2 (S' := (8, [some (pvR q0), some (pvI n1), some (pvI n2), some (pvI i3z79_), some (pvI i4z79_), v5z79_], [pvI n2, pvI i4z79_], M)) rfl ⟨trivial, trivial, trivial⟩ ?_
      refine pw_ic hT (c := n2 ≤ i4z79_) rfl rfl (fun c80_ => ?_) (fun c80_ => ?_)
      · have d81_ : Int32.toInt n2 ≤ Int32.toInt i4z79_ := (zi_le _ _).mp c80_
        have b82_ : 0 ≤ Int32.toInt (i3z79_ &&& 1) ∧ Int32.toInt (i3z79_ &&& 1) ≤ 1 := (pvand1 i3z79_)
        refine pw_blk hT 4 (S' := (112, [some (pvR q0), some (pvI n1), some (pvI n2), some (pvI i3z79_), some (pvI i4z79_), v5z79_], [pvI 1, pvI (i3z79_ &&& 1)], M)) rfl ⟨trivial, trivial, trivial, trivial, trivial⟩ ?_
        refine pw_icn hT (c := (i3z79_ &&& 1) = 1) rfl rfl (fun c83_ => ?_) (fun c83_ => ?_)
        · have b84_ : 0 ≤ Int32.toInt (i3z79_ &&& 1) ∧ Int32.toInt (i3z79_ &&& 1) ≤ 0 := (by have u0 := b82_; have u1 := (not_congr (zi_eq _ _)).mp c83_; have u2 := (show 1 ≤ Int32.toInt 1 ∧ Int32.toInt 1 ≤ 1 from (by decide)); omega)
          refine pw_blk hT 1 (S' := (120, [some (pvR q0), some (pvI n1), some (pvI n2), some (pvI i3z79_), some (pvI i4z79_), v5z79_], [pvI 0], M)) rfl ⟨trivial, trivial⟩ ?_
          exact pw_ret hT rfl (r := some (pvI 0)) (M' := M) ⟨Or.inl rfl, rfl, rfl⟩ ⟨⟨_, rfl, (zr_wide (show 0 ≤ Int32.toInt 0 ∧ Int32.toInt 0 ≤ 0 from (by decide)) (by decide) (by decide))⟩, rfl⟩
        · have b85_ : 1 ≤ Int32.toInt (i3z79_ &&& 1) ∧ Int32.toInt (i3z79_ &&& 1) ≤ 1 := (by have u0 := b82_; have u1 := (zi_eq _ _).mp c83_; have u2 := (show 1 ≤ Int32.toInt 1 ∧ Int32.toInt 1 ≤ 1 from (by decide)); omega)
          refine pw_blk hT 2 (S' := (120, [some (pvR q0), some (pvI n1), some (pvI n2), some (pvI i3z79_), some (pvI i4z79_), v5z79_], [pvI 1], M)) rfl ⟨trivial, trivial, trivial⟩ ?_
          exact pw_ret hT rfl (r := some (pvI 1)) (M' := M) ⟨Or.inr rfl, rfl, rfl⟩ ⟨⟨_, rfl, (zr_wide (show 1 ≤ Int32.toInt 1 ∧ Int32.toInt 1 ≤ 1 from (by decide)) (by decide) (by decide))⟩, rfl⟩
      · have b86_ : 1 ≤ Int32.toInt n2 ∧ Int32.toInt n2 ≤ 100 := zr_nle_l 1 c80_ hn2 h4z79_ (by decide)
        have b87_ : 0 ≤ Int32.toInt i4z79_ ∧ Int32.toInt i4z79_ ≤ 99 := zr_nle_r 99 c80_ h4z79_ b86_ (by decide)
        have d88_ : Int32.toInt n2 > Int32.toInt i4z79_ := Int.not_le.mp ((not_congr (zi_le _ _)).mp c80_)
        have b89_ : 0 ≤ Int32.toInt (i3z79_ &&& 1) ∧ Int32.toInt (i3z79_ &&& 1) ≤ 1 := (pvand1 i3z79_)
        have b90_ : (-3) ≤ Int32.toInt (M.1 (q0 + 27) (Int32.toNatClampNeg i4z79_)) ∧ Int32.toInt (M.1 (q0 + 27) (Int32.toNatClampNeg i4z79_)) ≤ 2099 := pvok_r hok (q0 + 27) (Int32.toNatClampNeg i4z79_) ((pvrg_a _ (by rw [(pvow_2_27 hq0).1]; decide)).trans (pvow_2_27 hq0).2.2.2)
        refine pw_blk hT 8 (S' := (23, [some (pvR q0), some (pvI n1), some (pvI n2), some (pvI i3z79_), some (pvI i4z79_), some (pvI (i3z79_ &&& 1))], [pvI (M.1 (q0 + 27) (Int32.toNatClampNeg i4z79_))], M)) rfl ⟨trivial, trivial, trivial, trivial, trivial, hq0, trivial, ⟨(pvow_2_27 hq0).1, (by rw [(pvow_2_27 hq0).2.1]; exact (zr_in (n := 100) b87_ (by decide) (by decide)))⟩, trivial⟩ ?_
        refine pw_sw hT rfl rfl ?_
        refine And.intro (fun c91_ => ?_) (fun c91_ => ?_)
        · show PW 127 d (68, [some (pvR q0), some (pvI n1), some (pvI n2), some (pvI i3z79_), some (pvI i4z79_), some (pvI (i3z79_ &&& 1))], [], M) _
          have b92_ : (-3) ≤ Int32.toInt (M.1 (q0 + 27) (Int32.toNatClampNeg i4z79_)) ∧ Int32.toInt (M.1 (q0 + 27) (Int32.toNatClampNeg i4z79_)) ≤ (-3) := (by have u0 := b90_; have u1 := (zi_eq _ _).mp c91_; have u2 := (show (-3) ≤ Int32.toInt (-3) ∧ Int32.toInt (-3) ≤ (-3) from (by decide)); omega)
          obtain ⟨q94_, b93_⟩ : (Int32.toInt (i4z79_ + 1) = Int32.toInt i4z79_ + 1) ∧ (1 ≤ Int32.toInt (i4z79_ + 1) ∧ Int32.toInt (i4z79_ + 1) ≤ 100) := zadd_k i4z79_ 1 1 1 100 b87_ (by decide) (by decide) (by decide) (by decide) (by decide)
          refine pw_blk hT 9 (S' := (5, [some (pvR q0), some (pvI n1), some (pvI n2), some (pvI ((i3z79_ >>> (1 &&& 31)) ||| (i3z79_ &&& 1))), some (pvI (i4z79_ + 1)), some (pvI (i3z79_ &&& 1))], [], M)) rfl ⟨trivial, trivial, trivial, trivial, trivial, trivial, trivial, trivial, trivial, trivial⟩ ?_
          exact ihz79_ ((i3z79_ >>> (1 &&& 31)) ||| (i3z79_ &&& 1)) (i4z79_ + 1) (some (pvI (i3z79_ &&& 1))) (zr_wide b93_ (by decide) (by decide)) (zhid (pvms_up (zshow hmz79_) h4z79_ q94_ (by decide) (by decide)))
        · have b95_ : (-2) ≤ Int32.toInt (M.1 (q0 + 27) (Int32.toNatClampNeg i4z79_)) ∧ Int32.toInt (M.1 (q0 + 27) (Int32.toNatClampNeg i4z79_)) ≤ 2099 := (by have u0 := b90_; have u1 := (not_congr (zi_eq _ _)).mp c91_; have u2 := (show (-3) ≤ Int32.toInt (-3) ∧ Int32.toInt (-3) ≤ (-3) from (by decide)); omega)
          refine And.intro (fun c96_ => ?_) (fun c96_ => ?_)
          · show PW 127 d (55, [some (pvR q0), some (pvI n1), some (pvI n2), some (pvI i3z79_), some (pvI i4z79_), some (pvI (i3z79_ &&& 1))], [], M) _
            have b97_ : (-2) ≤ Int32.toInt (M.1 (q0 + 27) (Int32.toNatClampNeg i4z79_)) ∧ Int32.toInt (M.1 (q0 + 27) (Int32.toNatClampNeg i4z79_)) ≤ (-2) := (by have u0 := b95_; have u1 := (zi_eq _ _).mp c96_; have u2 := (show (-2) ≤ Int32.toInt (-2) ∧ Int32.toInt (-2) ≤ (-2) from (by decide)); omega)
            obtain ⟨q99_, b98_⟩ : (Int32.toInt (i4z79_ + 1) = Int32.toInt i4z79_ + 1) ∧ (1 ≤ Int32.toInt (i4z79_ + 1) ∧ Int32.toInt (i4z79_ + 1) ≤ 100) := zadd_k i4z79_ 1 1 1 100 b87_ (by decide) (by decide) (by decide) (by decide) (by decide)
            refine pw_blk hT 11 (S' := (5, [some (pvR q0), some (pvI n1), some (pvI n2), some (pvI ((i3z79_ >>> (1 &&& 31)) &&& ((i3z79_ &&& 1) ||| (-2)))), some (pvI (i4z79_ + 1)), some (pvI (i3z79_ &&& 1))], [], M)) rfl ⟨trivial, trivial, trivial, trivial, trivial, trivial, trivial, trivial, trivial, trivial, trivial, trivial⟩ ?_
            exact ihz79_ ((i3z79_ >>> (1 &&& 31)) &&& ((i3z79_ &&& 1) ||| (-2))) (i4z79_ + 1) (some (pvI (i3z79_ &&& 1))) (zr_wide b98_ (by decide) (by decide)) (zhid (pvms_up (zshow hmz79_) h4z79_ q99_ (by decide) (by decide)))
          · have b100_ : (-1) ≤ Int32.toInt (M.1 (q0 + 27) (Int32.toNatClampNeg i4z79_)) ∧ Int32.toInt (M.1 (q0 + 27) (Int32.toNatClampNeg i4z79_)) ≤ 2099 := (by have u0 := b95_; have u1 := (not_congr (zi_eq _ _)).mp c96_; have u2 := (show (-2) ≤ Int32.toInt (-2) ∧ Int32.toInt (-2) ≤ (-2) from (by decide)); omega)
            refine And.intro (fun c101_ => ?_) (fun c101_ => ?_)
            · show PW 127 d (48, [some (pvR q0), some (pvI n1), some (pvI n2), some (pvI i3z79_), some (pvI i4z79_), some (pvI (i3z79_ &&& 1))], [], M) _
              have b102_ : (-1) ≤ Int32.toInt (M.1 (q0 + 27) (Int32.toNatClampNeg i4z79_)) ∧ Int32.toInt (M.1 (q0 + 27) (Int32.toNatClampNeg i4z79_)) ≤ (-1) := (by have u0 := b100_; have u1 := (zi_eq _ _).mp c101_; have u2 := (show (-1) ≤ Int32.toInt (-1) ∧ Int32.toInt (-1) ≤ (-1) from (by decide)); omega)
              obtain ⟨q104_, b103_⟩ : (Int32.toInt (i4z79_ + 1) = Int32.toInt i4z79_ + 1) ∧ (1 ≤ Int32.toInt (i4z79_ + 1) ∧ Int32.toInt (i4z79_ + 1) ≤ 100) := zadd_k i4z79_ 1 1 1 100 b87_ (by decide) (by decide) (by decide) (by decide) (by decide)
              refine pw_blk hT 7 (S' := (5, [some (pvR q0), some (pvI n1), some (pvI n2), some (pvI (i3z79_ ^^^ 1)), some (pvI (i4z79_ + 1)), some (pvI (i3z79_ &&& 1))], [], M)) rfl ⟨trivial, trivial, trivial, trivial, trivial, trivial, trivial, trivial⟩ ?_
              exact ihz79_ (i3z79_ ^^^ 1) (i4z79_ + 1) (some (pvI (i3z79_ &&& 1))) (zr_wide b103_ (by decide) (by decide)) (zhid (pvms_up (zshow hmz79_) h4z79_ q104_ (by decide) (by decide)))
            · have b105_ : 0 ≤ Int32.toInt (M.1 (q0 + 27) (Int32.toNatClampNeg i4z79_)) ∧ Int32.toInt (M.1 (q0 + 27) (Int32.toNatClampNeg i4z79_)) ≤ 2099 := (by have u0 := b100_; have u1 := (not_congr (zi_eq _ _)).mp c101_; have u2 := (show (-1) ≤ Int32.toInt (-1) ∧ Int32.toInt (-1) ≤ (-1) from (by decide)); omega)
              show PW 127 d (78, [some (pvR q0), some (pvI n1), some (pvI n2), some (pvI i3z79_), some (pvI i4z79_), some (pvI (i3z79_ &&& 1))], [], M) _
              refine pw_blk hT 8 (S' := (89, [some (pvR q0), some (pvI n1), some (pvI n2), some (pvI i3z79_), some (pvI i4z79_), some (pvI (i3z79_ &&& 1))], [pvI (M.1 (q0 + 27) (Int32.toNatClampNeg i4z79_)), pvR q0, pvI (i3z79_ <<< (1 &&& 31))], M)) rfl ⟨trivial, trivial, trivial, trivial, trivial, hq0, trivial, ⟨(pvow_2_27 hq0).1, (by rw [(pvow_2_27 hq0).2.1]; exact (zr_in (n := 100) b87_ (by decide) (by decide)))⟩, trivial⟩ ?_
              refine pw_callGp hT (as := [pvR q0, pvI (M.1 (q0 + 27) (Int32.toNatClampNeg i4z79_))]) (lo1 := [some (pvR q0), some (pvI (M.1 (q0 + 27) (Int32.toNatClampNeg i4z79_))), none, none]) (d1 := d) (rest := [pvI (i3z79_ <<< (1 &&& 31))]) rfl rfl rfl rfl rfl (fun _ => hq0) (Nat.zero_le _) rfl rfl rfl (sf_X2_passes_x_x M hok q0 (M.1 (q0 + 27) (Int32.toNatClampNeg i4z79_)) hq0 d) (fun x106_ b108_ => ?_)
              refine pw_if hT (c := x106_ = 0) rfl rfl (fun c111_ => ?_) (fun c111_ => ?_)
              · have b112_ : 0 ≤ Int32.toInt x106_ ∧ Int32.toInt x106_ ≤ 0 := (by have u0 := b108_; have u1 := (zi_eq _ _).mp c111_; have u2 := (show 0 ≤ Int32.toInt 0 ∧ Int32.toInt 0 ≤ 0 from (by decide)); omega)
                obtain ⟨q114_, b113_⟩ : (Int32.toInt (i4z79_ + 1) = Int32.toInt i4z79_ + 1) ∧ (1 ≤ Int32.toInt (i4z79_ + 1) ∧ Int32.toInt (i4z79_ + 1) ≤ 100) := zadd_k i4z79_ 1 1 1 100 b87_ (by decide) (by decide) (by decide) (by decide) (by decide)
                refine pw_blk hT 5 (S' := (5, [some (pvR q0), some (pvI n1), some (pvI n2), some (pvI ((i3z79_ <<< (1 &&& 31)) ||| 0)), some (pvI (i4z79_ + 1)), some (pvI (i3z79_ &&& 1))], [], M)) rfl ⟨trivial, trivial, trivial, trivial, trivial, trivial⟩ ?_
                exact ihz79_ ((i3z79_ <<< (1 &&& 31)) ||| 0) (i4z79_ + 1) (some (pvI (i3z79_ &&& 1))) (zr_wide b113_ (by decide) (by decide)) (zhid (pvms_up (zshow hmz79_) h4z79_ q114_ (by decide) (by decide)))
              · have b115_ : 1 ≤ Int32.toInt x106_ ∧ Int32.toInt x106_ ≤ 1 := (by have u0 := b108_; have u1 := (not_congr (zi_eq _ _)).mp c111_; have u2 := (show 0 ≤ Int32.toInt 0 ∧ Int32.toInt 0 ≤ 0 from (by decide)); omega)
                obtain ⟨q117_, b116_⟩ : (Int32.toInt (i4z79_ + 1) = Int32.toInt i4z79_ + 1) ∧ (1 ≤ Int32.toInt (i4z79_ + 1) ∧ Int32.toInt (i4z79_ + 1) ≤ 100) := zadd_k i4z79_ 1 1 1 100 b87_ (by decide) (by decide) (by decide) (by decide) (by decide)
                refine pw_blk hT 6 (S' := (5, [some (pvR q0), some (pvI n1), some (pvI n2), some (pvI ((i3z79_ <<< (1 &&& 31)) ||| 1)), some (pvI (i4z79_ + 1)), some (pvI (i3z79_ &&& 1))], [], M)) rfl ⟨trivial, trivial, trivial, trivial, trivial, trivial, trivial⟩ ?_
                exact ihz79_ ((i3z79_ <<< (1 &&& 31)) ||| 1) (i4z79_ + 1) (some (pvI (i3z79_ &&& 1))) (zr_wide b116_ (by decide) (by decide)) (zhid (pvms_up (zshow hmz79_) h4z79_ q117_ (by decide) (by decide)))
  exact hlz79_ _ 0 n1 none hn1 (zhid (Nat.lt_succ_self _))
