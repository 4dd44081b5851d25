def fpL_eX9_tape_0_x_x_x : List (Nat × Nat × Nat) := [(1, 7, 1), (1, 7, 2)]
def fp_eX9_tape_0_x_x_x (q k : Nat) : Bool := pvfp fpL_eX9_tape_0_x_x_x q k
theorem fp_eX9_tape_0_x_x_x_fp_X8_become_x_x_x (a b : Nat) (h : fp_X8_become_x_x_x a b = true) : fp_eX9_tape_0_x_x_x a b = true := pvfp_sub (l1 := fpL_X8_become_x_x_x) (l2 := fpL_eX9_tape_0_x_x_x) (by decide) a b h
set_option maxHeartbeats 4000000 in
set_option maxRecDepth 10000 in
theorem se_X9_tape_0_x_x_x (M : pvM) (hok : pvOk M) (n1 : Int32) (n2 : Int32) (n3 : Int32) (d : Nat) : PW 204 d (0, [some (pvR 0), some (pvI n1), some (pvI n2), some (pvI n3)], [], M) (fun r X => (∃ x : Int32, r = some (pvI x) ∧ ((-14) ≤ Int32.toInt x ∧ Int32.toInt x ≤ 1) ∧ x = (if n1 < 0 then (-1) else (if 5 < n1 then (-1) else (if n2 = (-1) then 1 else (if n2 < 0 then (-2) else (if 4 < n2 then (-2) else (if n3 ≤ 60 then (if 0 ≤ n3 then 1 else (-14)) else (-2)))))))) ∧ pvOk X ∧ pvFr fp_eX9_tape_0_x_x_x M X) := by
  have hT : pvdom 204 = pvD_204 := rfl
  refine pw_blk hT 1 (S' := (1, [some (pvR 0), some (pvI n1), some (pvI n2), some (pvI n3)], [pvI n1], M)) rfl ⟨trivial, trivial⟩ ?_
  refine pw_callT hT (as := [pvI n1]) (lo1 := [some (pvI n1)]) (d1 := d) (rest := []) rfl rfl rfl rfl rfl (fun h => absurd h (by decide)) (Nat.zero_le _) rfl rfl rfl (sf_X9_isTape_x M hok n1 d) ?_
  by_cases c6_ : n1 < 0
  · refine pw_eqI (if_pos c6_) ?_
    have b7_ : (-2147483648) ≤ Int32.toInt n1 ∧ Int32.toInt n1 ≤ (-1) := zr_lt_l (-1) c6_ (zbnd n1) (show 0 ≤ Int32.toInt 0 ∧ Int32.toInt 0 ≤ 0 from (by decide)) (by decide)
    show PW 204 d (4, [some (pvR 0), some (pvI n1), some (pvI n2), some (pvI n3)], [pvI 0], M) _
    refine pw_ifn hT (c := 0 = 0) rfl rfl (fun c8_ => absurd (by decide) c8_) (fun c8_ => ?_)
    refine pw_blk hT 1 (S' := (8, [some (pvR 0), some (pvI n1), some (pvI n2), some (pvI n3)], [pvI (-1)], M)) rfl ⟨trivial, trivial⟩ ?_
    exact pw_ret hT rfl (r := some (pvI (-1))) (M' := M) ⟨rfl, rfl⟩ ⟨⟨_, rfl, (zr_wide (show (-1) ≤ Int32.toInt (-1) ∧ Int32.toInt (-1) ≤ (-1) from (by decide)) (by decide) (by decide)), (by rw [if_pos c6_]; first | done | (rw [if_pos c6_]; done))⟩, hok, pvfr_0⟩
  · refine pw_eqI (if_neg c6_) ?_
    have b9_ : 0 ≤ Int32.toInt n1 ∧ Int32.toInt n1 ≤ 2147483647 := zr_nlt_l 0 c6_ (zbnd n1) (show 0 ≤ Int32.toInt 0 ∧ Int32.toInt 0 ≤ 0 from (by decide)) (by decide)
    by_cases c10_ : 5 < n1
    · refine pw_eqI (if_pos c10_) ?_
      have b11_ : 6 ≤ Int32.toInt n1 ∧ Int32.toInt n1 ≤ 2147483647 := zr_lt_r 6 c10_ b9_ (show 5 ≤ Int32.toInt 5 ∧ Int32.toInt 5 ≤ 5 from (by decide)) (by decide)
      show PW 204 d (4, [some (pvR 0), some (pvI n1), some (pvI n2), some (pvI n3)], [pvI 0], M) _
      refine pw_ifn hT (c := 0 = 0) rfl rfl (fun c12_ => absurd (by decide) c12_) (fun c12_ => ?_)
      refine pw_blk hT 1 (S' := (8, [some (pvR 0), some (pvI n1), some (pvI n2), some (pvI n3)], [pvI (-1)], M)) rfl ⟨trivial, trivial⟩ ?_
      exact pw_ret hT rfl (r := some (pvI (-1))) (M' := M) ⟨rfl, rfl⟩ ⟨⟨_, rfl, (zr_wide (show (-1) ≤ Int32.toInt (-1) ∧ Int32.toInt (-1) ≤ (-1) from (by decide)) (by decide) (by decide)), (by rw [if_neg c6_, if_pos c10_]; first | done | (rw [if_pos c10_]; done))⟩, hok, pvfr_0⟩
    · refine pw_eqI (if_neg c10_) ?_
      have b13_ : 0 ≤ Int32.toInt n1 ∧ Int32.toInt n1 ≤ 5 := zr_nlt_r 5 c10_ b9_ (show 5 ≤ Int32.toInt 5 ∧ Int32.toInt 5 ≤ 5 from (by decide)) (by decide)
      show PW 204 d (4, [some (pvR 0), some (pvI n1), some (pvI n2), some (pvI n3)], [pvI 1], M) _
      refine pw_ifn hT (c := 1 = 0) rfl rfl (fun c14_ => ?_) (fun c14_ => absurd c14_ (by decide))
      refine pw_blk hT 2 (S' := (11, [some (pvR 0), some (pvI n1), some (pvI n2), some (pvI n3)], [pvI (-1), pvI n2], M)) rfl ⟨trivial, trivial, trivial⟩ ?_
      refine pw_icn hT (c := n2 = (-1)) rfl rfl (fun c15_ => ?_) (fun c15_ => ?_)
      · refine pw_blk hT 3 (S' := (30, [some (pvR 0), some (pvI n1), some (pvI n2), some (pvI n3)], [pvI 4, pvI 0, pvI n2], M)) rfl ⟨trivial, trivial, trivial, trivial⟩ ?_
        refine pw_callT hT (as := [pvI n2, pvI 0, pvI 4]) (lo1 := [some (pvI n2), some (pvI 0), some (pvI 4)]) (d1 := d) (rest := []) rfl rfl rfl rfl rfl (fun h => absurd h (by decide)) (Nat.zero_le _) rfl rfl rfl (sf_X9_within_x_x_x M hok n2 0 4 d) ?_
        by_cases c21_ : n2 < 0
        · refine pw_eqI (if_pos c21_) ?_
          have b22_ : (-2147483648) ≤ Int32.toInt n2 ∧ Int32.toInt n2 ≤ (-2) := (by have u0 := (zbnd n2); have u9 := (show _ ∧ _ from ⟨(zi_lt _ _).mp c21_, (show 0 ≤ Int32.toInt 0 ∧ Int32.toInt 0 ≤ 0 from (by decide))⟩); have v1 := (not_congr (zi_eq _ _)).mp c15_; have w1 : ((-1) : Int32).toInt = -1 := (by decide); omega)
          show PW 204 d (33, [some (pvR 0), some (pvI n1), some (pvI n2), some (pvI n3)], [pvI 0], M) _
          refine pw_if hT (c := 0 = 0) rfl rfl (fun c23_ => ?_) (fun c23_ => absurd (by decide) c23_)
          refine pw_blk hT 1 (S' := (44, [some (pvR 0), some (pvI n1), some (pvI n2), some (pvI n3)], [pvI (-2)], M)) rfl ⟨trivial, trivial⟩ ?_
          exact pw_ret hT rfl (r := some (pvI (-2))) (M' := M) ⟨rfl, rfl⟩ ⟨⟨_, rfl, (zr_wide (show (-2) ≤ Int32.toInt (-2) ∧ Int32.toInt (-2) ≤ (-2) from (by decide)) (by decide) (by decide)), (by rw [if_neg c6_, if_neg c10_, if_neg c15_, if_pos c21_]; first | done | (rw [if_pos c21_]; done))⟩, hok, pvfr_0⟩
        · refine pw_eqI (if_neg c21_) ?_
          have b24_ : 0 ≤ Int32.toInt n2 ∧ Int32.toInt n2 ≤ 2147483647 := zr_nlt_l 0 c21_ (zbnd n2) (show 0 ≤ Int32.toInt 0 ∧ Int32.toInt 0 ≤ 0 from (by decide)) (by decide)
          by_cases c25_ : 4 < n2
          · refine pw_eqI (if_pos c25_) ?_
            have b26_ : 5 ≤ Int32.toInt n2 ∧ Int32.toInt n2 ≤ 2147483647 := zr_lt_r 5 c25_ b24_ (show 4 ≤ Int32.toInt 4 ∧ Int32.toInt 4 ≤ 4 from (by decide)) (by decide)
            show PW 204 d (33, [some (pvR 0), some (pvI n1), some (pvI n2), some (pvI n3)], [pvI 0], M) _
            refine pw_if hT (c := 0 = 0) rfl rfl (fun c27_ => ?_) (fun c27_ => absurd (by decide) c27_)
            refine pw_blk hT 1 (S' := (44, [some (pvR 0), some (pvI n1), some (pvI n2), some (pvI n3)], [pvI (-2)], M)) rfl ⟨trivial, trivial⟩ ?_
            exact pw_ret hT rfl (r := some (pvI (-2))) (M' := M) ⟨rfl, rfl⟩ ⟨⟨_, rfl, (zr_wide (show (-2) ≤ Int32.toInt (-2) ∧ Int32.toInt (-2) ≤ (-2) from (by decide)) (by decide) (by decide)), (by rw [if_neg c6_, if_neg c10_, if_neg c15_, if_neg c21_, if_pos c25_]; first | done | (rw [if_pos c25_]; done))⟩, hok, pvfr_0⟩
          · refine pw_eqI (if_neg c25_) ?_
            have b28_ : 0 ≤ Int32.toInt n2 ∧ Int32.toInt n2 ≤ 4 := zr_nlt_r 4 c25_ b24_ (show 4 ≤ Int32.toInt 4 ∧ Int32.toInt 4 ≤ 4 from (by decide)) (by decide)
            show PW 204 d (33, [some (pvR 0), some (pvI n1), some (pvI n2), some (pvI n3)], [pvI 1], M) _
            refine pw_if hT (c := 1 = 0) rfl rfl (fun c29_ => absurd c29_ (by decide)) (fun c29_ => ?_)
            refine pw_blk hT 2 (S' := (39, [some (pvR 0), some (pvI n1), some (pvI n2), some (pvI n3)], [pvI 60, pvI n3], M)) rfl ⟨trivial, trivial, trivial⟩ ?_
            refine pw_ic hT (c := n3 ≤ 60) rfl rfl (fun c30_ => ?_) (fun c30_ => ?_)
            · have b31_ : (-2147483648) ≤ Int32.toInt n3 ∧ Int32.toInt n3 ≤ 60 := zr_le_l 60 c30_ (zbnd n3) (show 60 ≤ Int32.toInt 60 ∧ Int32.toInt 60 ≤ 60 from (by decide)) (by decide)
              refine pw_blk hT 1 (S' := (46, [some (pvR 0), some (pvI n1), some (pvI n2), some (pvI n3)], [pvI n3], M)) rfl ⟨trivial, trivial⟩ ?_
              refine pw_if hT (c := 0 ≤ n3) rfl rfl (fun c32_ => ?_) (fun c32_ => ?_)
              · have b33_ : 0 ≤ Int32.toInt n3 ∧ Int32.toInt n3 ≤ 60 := zr_le_r 0 c32_ b31_ (show 0 ≤ Int32.toInt 0 ∧ Int32.toInt 0 ≤ 0 from (by decide)) (by decide)
                refine pw_blkr hT 4 (pc := 58) (lo := [some (pvR 0), some (pvI n1), some (pvI n2), some (pvI n3)]) (st := []) (M := M) (z := (pvbs 2 + Int32.toNatClampNeg n1)) rfl ⟨trivial, rfl, trivial, ⟨rfl, (zr_in (n := 6) b13_ (by decide) (by decide))⟩, trivial⟩ (fun q34_ e36_ => ?_)
                have k35_ : pvkl q34_ = 7 := pvel_2 (zr_in (n := 6) b13_ (by decide) (by decide)) e36_
                refine pw_blk hT 2 (S' := (60, [some (pvR 0), some (pvI n1), some (pvI n2), some (pvI n3)], [pvI n3, pvI n2, pvR q34_], M)) rfl ⟨trivial, trivial, trivial⟩ ?_
                refine pw_callV hT (as := [pvR q34_, pvI n2, pvI n3]) (lo1 := [some (pvR q34_), some (pvI n2), some (pvI n3), none]) (d1 := d) (rest := []) rfl rfl rfl rfl rfl (fun _ => k35_) (Nat.zero_le _) rfl rfl rfl (sf_X8_become_x_x_x M hok q34_ n2 n3 k35_ (zr_wide b28_ (by decide) (by decide)) d) (fun M38_ o40_ g41_ => ?_)
                have f42_ : pvFr fp_eX9_tape_0_x_x_x M M38_ := pvfr_t g41_ pvfr_0 fp_eX9_tape_0_x_x_x_fp_X8_become_x_x_x
                refine pw_blk hT 1 (S' := (64, [some (pvR 0), some (pvI n1), some (pvI n2), some (pvI n3)], [pvI 1], M38_)) rfl ⟨trivial, trivial⟩ ?_
                exact pw_ret hT rfl (r := some (pvI 1)) (M' := M38_) ⟨rfl, rfl⟩ ⟨⟨_, rfl, (zr_wide (show 1 ≤ Int32.toInt 1 ∧ Int32.toInt 1 ≤ 1 from (by decide)) (by decide) (by decide)), (by rw [if_neg c6_, if_neg c10_, if_neg c15_, if_neg c21_, if_neg c25_, if_pos c30_, if_pos c32_]; first | done | (rw [if_pos c32_]; done))⟩, o40_, f42_⟩
              · have b43_ : (-2147483648) ≤ Int32.toInt n3 ∧ Int32.toInt n3 ≤ (-1) := zr_nle_r (-1) c32_ b31_ (show 0 ≤ Int32.toInt 0 ∧ Int32.toInt 0 ≤ 0 from (by decide)) (by decide)
                refine pw_blk hT 1 (S' := (51, [some (pvR 0), some (pvI n1), some (pvI n2), some (pvI n3)], [pvI (-14)], M)) rfl ⟨trivial, trivial⟩ ?_
                exact pw_ret hT rfl (r := some (pvI (-14))) (M' := M) ⟨rfl, rfl⟩ ⟨⟨_, rfl, (zr_wide (show (-14) ≤ Int32.toInt (-14) ∧ Int32.toInt (-14) ≤ (-14) from (by decide)) (by decide) (by decide)), (by rw [if_neg c6_, if_neg c10_, if_neg c15_, if_neg c21_, if_neg c25_, if_pos c30_, if_neg c32_]; first | done | (rw [if_neg c32_]; done))⟩, hok, pvfr_0⟩
            · have b44_ : 61 ≤ Int32.toInt n3 ∧ Int32.toInt n3 ≤ 2147483647 := zr_nle_l 61 c30_ (zbnd n3) (show 60 ≤ Int32.toInt 60 ∧ Int32.toInt 60 ≤ 60 from (by decide)) (by decide)
              refine pw_blk hT 1 (S' := (44, [some (pvR 0), some (pvI n1), some (pvI n2), some (pvI n3)], [pvI (-2)], M)) rfl ⟨trivial, trivial⟩ ?_
              exact pw_ret hT rfl (r := some (pvI (-2))) (M' := M) ⟨rfl, rfl⟩ ⟨⟨_, rfl, (zr_wide (show (-2) ≤ Int32.toInt (-2) ∧ Int32.toInt (-2) ≤ (-2) from (by decide)) (by decide) (by decide)), (by rw [if_neg c6_, if_neg c10_, if_neg c15_, if_neg c21_, if_neg c25_, if_neg c30_]; first | done | (rw [if_neg c30_]; done))⟩, hok, pvfr_0⟩
      · have b45_ : (-1) ≤ Int32.toInt n2 ∧ Int32.toInt n2 ≤ (-1) := (by have u0 := (zbnd n2); have u1 := (zi_eq _ _).mp c15_; have u2 := (show (-1) ≤ Int32.toInt (-1) ∧ Int32.toInt (-1) ≤ (-1) from (by decide)); omega)
        refine pw_blkr hT 4 (pc := 20) (lo := [some (pvR 0), some (pvI n1), some (pvI n2), some (pvI n3)]) (st := []) (M := M) (z := (pvbs 2 + Int32.toNatClampNeg n1)) rfl ⟨trivial, rfl, trivial, ⟨rfl, (zr_in (n := 6) b13_ (by decide) (by decide))⟩, trivial⟩ (fun q46_ e48_ => ?_)
        have k47_ : pvkl q46_ = 7 := pvel_2 (zr_in (n := 6) b13_ (by decide) (by decide)) e48_
        refine pw_blk hT 2 (S' := (22, [some (pvR 0), some (pvI n1), some (pvI n2), some (pvI n3)], [pvI 0, pvI (-1), pvR q46_], M)) rfl ⟨trivial, trivial, trivial⟩ ?_
        refine pw_callV hT (as := [pvR q46_, pvI (-1), pvI 0]) (lo1 := [some (pvR q46_), some (pvI (-1)), some (pvI 0), none]) (d1 := d) (rest := []) rfl rfl rfl rfl rfl (fun _ => k47_) (Nat.zero_le _) rfl rfl rfl (sf_X8_become_x_x_x M hok q46_ (-1) 0 k47_ (zr_wide (show (-1) ≤ Int32.toInt (-1) ∧ Int32.toInt (-1) ≤ (-1) from (by decide)) (by decide) (by decide)) d) (fun M50_ o52_ g53_ => ?_)
        have f54_ : pvFr fp_eX9_tape_0_x_x_x M M50_ := pvfr_t g53_ pvfr_0 fp_eX9_tape_0_x_x_x_fp_X8_become_x_x_x
        refine pw_blk hT 1 (S' := (26, [some (pvR 0), some (pvI n1), some (pvI n2), some (pvI n3)], [pvI 1], M50_)) rfl ⟨trivial, trivial⟩ ?_
        exact pw_ret hT rfl (r := some (pvI 1)) (M' := M50_) ⟨rfl, rfl⟩ ⟨⟨_, rfl, (zr_wide (show 1 ≤ Int32.toInt 1 ∧ Int32.toInt 1 ≤ 1 from (by decide)) (by decide) (by decide)), (by rw [if_neg c6_, if_neg c10_, if_pos c15_]; first | done | (rw [if_pos c15_]; done))⟩, o52_, f54_⟩
set_option maxHeartbeats 4000000 in
set_option maxRecDepth 10000 in
theorem se_X9_told_0_x (M : pvM) (hok : pvOk M) (n1 : Int32) (d : Nat) : PW 205 d (0, [some (pvR 0), some (pvI n1)], [], M) (fun r X => (∃ x : Int32, r = some (pvI x) ∧ True) ∧ X = M ∧ yTo9 n1 r M) := by
  have hT : pvdom 205 = pvD_205 := rfl
  refine pw_blk hT 1 (S' := (1, [some (pvR 0), some (pvI n1)], [pvI n1], M)) rfl ⟨trivial, trivial⟩ ?_
  refine pw_sw hT rfl rfl ?_
  refine And.intro (fun c1_ => ?_) (fun c1_ => ?_)
  · show PW 205 d (52, [some (pvR 0), some (pvI n1)], [], M) _
    have b2_ : 0 ≤ Int32.toInt n1 ∧ Int32.toInt n1 ≤ 0 := (by have u0 := (zbnd n1); have u1 := (zi_eq _ _).mp c1_; have u2 := (show 0 ≤ Int32.toInt 0 ∧ Int32.toInt 0 ≤ 0 from (by decide)); omega)
    have b3_ : 0 ≤ Int32.toInt (M.1 8 4) ∧ Int32.toInt (M.1 8 4) ≤ 9999 := pvok_r hok 8 4 rfl
    refine pw_blk hT 3 (S' := (59, [some (pvR 0), some (pvI n1)], [pvI (M.1 8 4)], M)) rfl ⟨trivial, rfl, rfl, trivial⟩ ?_
    exact pw_ret hT rfl (r := some (pvI (M.1 8 4))) (M' := M) ⟨rfl, rfl⟩ ⟨⟨_, rfl, trivial⟩, rfl, (by show some (pvI _) = some (pvI (yGto n1 M)); unfold yGto; rw [if_pos c1_])⟩
  · refine And.intro (fun c4_ => ?_) (fun c4_ => ?_)
    · show PW 205 d (60, [some (pvR 0), some (pvI n1)], [], M) _
      have b5_ : 1 ≤ Int32.toInt n1 ∧ Int32.toInt n1 ≤ 1 := (by have u0 := (zbnd n1); have u1 := (zi_eq _ _).mp c4_; have u2 := (show 1 ≤ Int32.toInt 1 ∧ Int32.toInt 1 ≤ 1 from (by decide)); omega)
      refine pw_blk hT 3 (S' := (67, [some (pvR 0), some (pvI n1)], [pvI (M.1 8 5)], M)) rfl ⟨trivial, rfl, rfl, trivial⟩ ?_
      exact pw_ret hT rfl (r := some (pvI (M.1 8 5))) (M' := M) ⟨rfl, rfl⟩ ⟨⟨_, rfl, trivial⟩, rfl, (by show some (pvI _) = some (pvI (yGto n1 M)); unfold yGto; rw [if_neg c1_, if_pos c4_])⟩
    · refine And.intro (fun c6_ => ?_) (fun c6_ => ?_)
      · show PW 205 d (68, [some (pvR 0), some (pvI n1)], [], M) _
        have b7_ : 2 ≤ Int32.toInt n1 ∧ Int32.toInt n1 ≤ 2 := (by have u0 := (zbnd n1); have u1 := (zi_eq _ _).mp c6_; have u2 := (show 2 ≤ Int32.toInt 2 ∧ Int32.toInt 2 ≤ 2 from (by decide)); omega)
        have b8_ : 0 ≤ Int32.toInt (M.1 8 2) ∧ Int32.toInt (M.1 8 2) ≤ 99 := pvok_r hok 8 2 rfl
        refine pw_blk hT 3 (S' := (75, [some (pvR 0), some (pvI n1)], [pvI (M.1 8 2)], M)) rfl ⟨trivial, rfl, rfl, trivial⟩ ?_
        exact pw_ret hT rfl (r := some (pvI (M.1 8 2))) (M' := M) ⟨rfl, rfl⟩ ⟨⟨_, rfl, trivial⟩, rfl, (by show some (pvI _) = some (pvI (yGto n1 M)); unfold yGto; rw [if_neg c1_, if_neg c4_, if_pos c6_])⟩
      · refine And.intro (fun c9_ => ?_) (fun c9_ => ?_)
        · show PW 205 d (76, [some (pvR 0), some (pvI n1)], [], M) _
          have b10_ : 3 ≤ Int32.toInt n1 ∧ Int32.toInt n1 ≤ 3 := (by have u0 := (zbnd n1); have u1 := (zi_eq _ _).mp c9_; have u2 := (show 3 ≤ Int32.toInt 3 ∧ Int32.toInt 3 ≤ 3 from (by decide)); omega)
          have b11_ : 0 ≤ Int32.toInt (M.1 8 3) ∧ Int32.toInt (M.1 8 3) ≤ 3 := pvok_r hok 8 3 rfl
          refine pw_blk hT 3 (S' := (83, [some (pvR 0), some (pvI n1)], [pvI (M.1 8 3)], M)) rfl ⟨trivial, rfl, rfl, trivial⟩ ?_
          exact pw_ret hT rfl (r := some (pvI (M.1 8 3))) (M' := M) ⟨rfl, rfl⟩ ⟨⟨_, rfl, trivial⟩, rfl, (by show some (pvI _) = some (pvI (yGto n1 M)); unfold yGto; rw [if_neg c1_, if_neg c4_, if_neg c6_, if_pos c9_])⟩
        · refine And.intro (fun c12_ => ?_) (fun c12_ => ?_)
          · show PW 205 d (84, [some (pvR 0), some (pvI n1)], [], M) _
            have b13_ : 4 ≤ Int32.toInt n1 ∧ Int32.toInt n1 ≤ 4 := (by have u0 := (zbnd n1); have u1 := (zi_eq _ _).mp c12_; have u2 := (show 4 ≤ Int32.toInt 4 ∧ Int32.toInt 4 ≤ 4 from (by decide)); omega)
            have b14_ : 15 ≤ Int32.toInt (M.1 8 8) ∧ Int32.toInt (M.1 8 8) ≤ 23 := pvok_r hok 8 8 rfl
            refine pw_blkr hT 3 (pc := 91) (lo := [some (pvR 0), some (pvI n1)]) (st := []) (M := M) (z := (pvhp (M.1 8 8))) rfl ⟨trivial, rfl, rfl, trivial⟩ (fun q15_ e17_ => ?_)
            have k16_ : pvkl q15_ = 2 := pvhp_k b14_ e17_
            have b18_ : 0 ≤ Int32.toInt (M.1 q15_ 0) ∧ Int32.toInt (M.1 q15_ 0) ≤ 99 := pvok_r hok q15_ 0 ((pvrg_o 0 k16_ (by decide) (by decide)).trans rfl)
            refine pw_blk hT 1 (S' := (94, [some (pvR 0), some (pvI n1)], [pvI (M.1 q15_ 0)], M)) rfl ⟨k16_, trivial⟩ ?_
            exact pw_ret hT rfl (r := some (pvI (M.1 q15_ 0))) (M' := M) ⟨rfl, rfl⟩ ⟨⟨_, rfl, trivial⟩, rfl, (by show some (pvI _) = some (pvI (yGto n1 M)); unfold yGto yHp; rw [if_neg c1_, if_neg c4_, if_neg c6_, if_neg c9_, if_pos c12_, ← e17_])⟩
          · refine And.intro (fun c19_ => ?_) (fun c19_ => ?_)
            · show PW 205 d (95, [some (pvR 0), some (pvI n1)], [], M) _
              have b20_ : 5 ≤ Int32.toInt n1 ∧ Int32.toInt n1 ≤ 5 := (by have u0 := (zbnd n1); have u1 := (zi_eq _ _).mp c19_; have u2 := (show 5 ≤ Int32.toInt 5 ∧ Int32.toInt 5 ≤ 5 from (by decide)); omega)
              have b21_ : 15 ≤ Int32.toInt (M.1 8 8) ∧ Int32.toInt (M.1 8 8) ≤ 23 := pvok_r hok 8 8 rfl
              refine pw_blkr hT 3 (pc := 102) (lo := [some (pvR 0), some (pvI n1)]) (st := []) (M := M) (z := (pvhp (M.1 8 8))) rfl ⟨trivial, rfl, rfl, trivial⟩ (fun q22_ e24_ => ?_)
              have k23_ : pvkl q22_ = 2 := pvhp_k b21_ e24_
              have b25_ : 0 ≤ Int32.toInt (M.1 q22_ 1) ∧ Int32.toInt (M.1 q22_ 1) ≤ 99 := pvok_r hok q22_ 1 ((pvrg_o 1 k23_ (by decide) (by decide)).trans rfl)
              refine pw_blk hT 1 (S' := (105, [some (pvR 0), some (pvI n1)], [pvI (M.1 q22_ 1)], M)) rfl ⟨k23_, trivial⟩ ?_
              exact pw_ret hT rfl (r := some (pvI (M.1 q22_ 1))) (M' := M) ⟨rfl, rfl⟩ ⟨⟨_, rfl, trivial⟩, rfl, (by show some (pvI _) = some (pvI (yGto n1 M)); unfold yGto yHp; rw [if_neg c1_, if_neg c4_, if_neg c6_, if_neg c9_, if_neg c12_, if_pos c19_, ← e24_])⟩
            · refine And.intro (fun c26_ => ?_) (fun c26_ => ?_)
              · show PW 205 d (106, [some (pvR 0), some (pvI n1)], [], M) _
                have b27_ : 6 ≤ Int32.toInt n1 ∧ Int32.toInt n1 ≤ 6 := (by have u0 := (zbnd n1); have u1 := (zi_eq _ _).mp c26_; have u2 := (show 6 ≤ Int32.toInt 6 ∧ Int32.toInt 6 ≤ 6 from (by decide)); omega)
                have b28_ : 0 ≤ Int32.toInt (M.1 8 6) ∧ Int32.toInt (M.1 8 6) ≤ 3 := pvok_r hok 8 6 rfl
                refine pw_blk hT 3 (S' := (113, [some (pvR 0), some (pvI n1)], [pvI (M.1 8 6)], M)) rfl ⟨trivial, rfl, rfl, trivial⟩ ?_
                exact pw_ret hT rfl (r := some (pvI (M.1 8 6))) (M' := M) ⟨rfl, rfl⟩ ⟨⟨_, rfl, trivial⟩, rfl, (by show some (pvI _) = some (pvI (yGto n1 M)); unfold yGto; rw [if_neg c1_, if_neg c4_, if_neg c6_, if_neg c9_, if_neg c12_, if_neg c19_, if_pos c26_])⟩
              · refine And.intro (fun c29_ => ?_) (fun c29_ => ?_)
                · show PW 205 d (114, [some (pvR 0), some (pvI n1)], [], M) _
                  have b30_ : 7 ≤ Int32.toInt n1 ∧ Int32.toInt n1 ≤ 7 := (by have u0 := (zbnd n1); have u1 := (zi_eq _ _).mp c29_; have u2 := (show 7 ≤ Int32.toInt 7 ∧ Int32.toInt 7 ≤ 7 from (by decide)); omega)
                  have b31_ : 0 ≤ Int32.toInt (M.1 8 7) ∧ Int32.toInt (M.1 8 7) ≤ 4 := pvok_r hok 8 7 rfl
                  refine pw_blk hT 3 (S' := (121, [some (pvR 0), some (pvI n1)], [pvI (M.1 8 7)], M)) rfl ⟨trivial, rfl, rfl, trivial⟩ ?_
                  exact pw_ret hT rfl (r := some (pvI (M.1 8 7))) (M' := M) ⟨rfl, rfl⟩ ⟨⟨_, rfl, trivial⟩, rfl, (by show some (pvI _) = some (pvI (yGto n1 M)); unfold yGto; rw [if_neg c1_, if_neg c4_, if_neg c6_, if_neg c9_, if_neg c12_, if_neg c19_, if_neg c26_, if_pos c29_])⟩
                · refine And.intro (fun c32_ => ?_) (fun c32_ => ?_)
                  · show PW 205 d (122, [some (pvR 0), some (pvI n1)], [], M) _
                    have b33_ : 8 ≤ Int32.toInt n1 ∧ Int32.toInt n1 ≤ 8 := (by have u0 := (zbnd n1); have u1 := (zi_eq _ _).mp c32_; have u2 := (show 8 ≤ Int32.toInt 8 ∧ Int32.toInt 8 ≤ 8 from (by decide)); omega)
                    refine pw_blk hT 2 (S' := (126, [some (pvR 0), some (pvI n1)], [pvR 8], M)) rfl ⟨trivial, rfl, trivial⟩ ?_
                    refine pw_callGp hT (as := [pvR 8]) (lo1 := [some (pvR 8), none, none]) (d1 := d) (rest := []) rfl rfl rfl rfl rfl (fun _ => rfl) (Nat.zero_le _) rfl rfl rfl (se_X7_openBits_8 M hok d) (fun x34_ b36_ => ?_)
                    obtain ⟨b39_, d40_⟩ := b36_
                    exact pw_ret hT rfl (r := some (pvI x34_)) (M' := M) ⟨rfl, rfl⟩ ⟨⟨_, rfl, trivial⟩, rfl, (by show some (pvI _) = some (pvI (yGto n1 M)); unfold yGto; rw [if_neg c1_, if_neg c4_, if_neg c6_, if_neg c9_, if_neg c12_, if_neg c19_, if_neg c26_, if_neg c29_, if_pos c32_, d40_])⟩
                  · show PW 205 d (130, [some (pvR 0), some (pvI n1)], [], M) _
                    refine pw_blk hT 1 (S' := (131, [some (pvR 0), some (pvI n1)], [pvI (-1)], M)) rfl ⟨trivial, trivial⟩ ?_
                    exact pw_ret hT rfl (r := some (pvI (-1))) (M' := M) ⟨rfl, rfl⟩ ⟨⟨_, rfl, trivial⟩, rfl, (by show some (pvI _) = some (pvI (yGto n1 M)); unfold yGto; rw [if_neg c1_, if_neg c4_, if_neg c6_, if_neg c9_, if_neg c12_, if_neg c19_, if_neg c26_, if_neg c29_, if_neg c32_])⟩
set_option maxHeartbeats 4000000 in
set_option maxRecDepth 10000 in
theorem se_X9_trace_0_x (M : pvM) (hok : pvOk M) (n1 : Int32) (d : Nat) : PW 206 d (0, [some (pvR 0), some (pvI n1)], [], M) (fun r X => r = some (pvI ((if n1 < 0 then (-1) else (if (M.1 3 1) ≤ n1 then (-1) else (if n1 < 20 then (M.1 4 (Int32.toNatClampNeg n1)) else (-1)))))) ∧ X = M) := by
  have hT : pvdom 206 = pvD_206 := rfl
  refine pw_blk hT 1 (S' := (1, [some (pvR 0), some (pvI n1)], [pvI n1], M)) rfl ⟨trivial, trivial⟩ ?_
  refine pw_if hT (c := n1 < 0) rfl rfl (fun c1_ => ?_) (fun c1_ => ?_)
  · have b2_ : (-2147483648) ≤ Int32.toInt n1 ∧ Int32.toInt n1 ≤ (-1) := zr_lt_l (-1) c1_ (zbnd n1) (show 0 ≤ Int32.toInt 0 ∧ Int32.toInt 0 ≤ 0 from (by decide)) (by decide)
    refine pw_blk hT 1 (S' := (22, [some (pvR 0), some (pvI n1)], [pvI (-1)], M)) rfl ⟨trivial, trivial⟩ ?_
    exact pw_ret hT rfl (r := some (pvI (-1))) (M' := M) ⟨rfl, rfl⟩ ⟨(by rw [if_pos c1_]; first | done | (rw [if_pos c1_]; done)), rfl⟩
  · have b3_ : 0 ≤ Int32.toInt n1 ∧ Int32.toInt n1 ≤ 2147483647 := zr_nlt_l 0 c1_ (zbnd n1) (show 0 ≤ Int32.toInt 0 ∧ Int32.toInt 0 ≤ 0 from (by decide)) (by decide)
    have b4_ : 0 ≤ Int32.toInt (M.1 3 1) ∧ Int32.toInt (M.1 3 1) ≤ 1000000 := pvok_r hok 3 1 rfl
    refine pw_blk hT 4 (S' := (12, [some (pvR 0), some (pvI n1)], [pvI (M.1 3 1), pvI n1], M)) rfl ⟨trivial, trivial, rfl, rfl, trivial⟩ ?_
    refine pw_ic hT (c := (M.1 3 1) ≤ n1) rfl rfl (fun c5_ => ?_) (fun c5_ => ?_)
    · have d6_ : Int32.toInt (M.1 3 1) ≤ Int32.toInt n1 := (zi_le _ _).mp c5_
      refine pw_blk hT 1 (S' := (22, [some (pvR 0), some (pvI n1)], [pvI (-1)], M)) rfl ⟨trivial, trivial⟩ ?_
      exact pw_ret hT rfl (r := some (pvI (-1))) (M' := M) ⟨rfl, rfl⟩ ⟨(by rw [if_neg c1_, if_pos c5_]; first | done | (rw [if_pos c5_]; done)), rfl⟩
    · have b7_ : 1 ≤ Int32.toInt (M.1 3 1) ∧ Int32.toInt (M.1 3 1) ≤ 1000000 := zr_nle_l 1 c5_ b4_ b3_ (by decide)
      have b8_ : 0 ≤ Int32.toInt n1 ∧ Int32.toInt n1 ≤ 999999 := zr_nle_r 999999 c5_ b3_ b7_ (by decide)
      have d9_ : Int32.toInt (M.1 3 1) > Int32.toInt n1 := Int.not_le.mp ((not_congr (zi_le _ _)).mp c5_)
      refine pw_blk hT 2 (S' := (18, [some (pvR 0), some (pvI n1)], [pvI 20, pvI n1], M)) rfl ⟨trivial, trivial, trivial⟩ ?_
      refine pw_ic hT (c := n1 < 20) rfl rfl (fun c10_ => ?_) (fun c10_ => ?_)
      · have b11_ : 0 ≤ Int32.toInt n1 ∧ Int32.toInt n1 ≤ 19 := zr_lt_l 19 c10_ b8_ (show 20 ≤ Int32.toInt 20 ∧ Int32.toInt 20 ≤ 20 from (by decide)) (by decide)
        have b12_ : 0 ≤ Int32.toInt (M.1 4 (Int32.toNatClampNeg n1)) ∧ Int32.toInt (M.1 4 (Int32.toNatClampNeg n1)) ≤ 1000 := pvok_r hok 4 (Int32.toNatClampNeg n1) rfl
        refine pw_blk hT 5 (S' := (32, [some (pvR 0), some (pvI n1)], [pvI (M.1 4 (Int32.toNatClampNeg n1))], M)) rfl ⟨trivial, rfl, rfl, trivial, ⟨rfl, (zr_in (n := 20) b11_ (by decide) (by decide))⟩, trivial⟩ ?_
        exact pw_ret hT rfl (r := some (pvI (M.1 4 (Int32.toNatClampNeg n1)))) (M' := M) ⟨rfl, rfl⟩ ⟨(by rw [if_neg c1_, if_neg c5_, if_pos c10_]; first | done | (rw [if_pos c10_]; done)), rfl⟩
      · have b13_ : 20 ≤ Int32.toInt n1 ∧ Int32.toInt n1 ≤ 999999 := zr_nlt_l 20 c10_ b8_ (show 20 ≤ Int32.toInt 20 ∧ Int32.toInt 20 ≤ 20 from (by decide)) (by decide)
        refine pw_blk hT 1 (S' := (22, [some (pvR 0), some (pvI n1)], [pvI (-1)], M)) rfl ⟨trivial, trivial⟩ ?_
        exact pw_ret hT rfl (r := some (pvI (-1))) (M' := M) ⟨rfl, rfl⟩ ⟨(by rw [if_neg c1_, if_neg c5_, if_neg c10_]; first | done | (rw [if_neg c10_]; done)), rfl⟩
def fpL_eX1_goAsTwo_5 : List (Nat × Nat × Nat) := [(0, 12, 0)]
def fp_eX1_goAsTwo_5 (q k : Nat) : Bool := pvfp fpL_eX1_goAsTwo_5 q k
theorem fp_eX1_goAsTwo_5_fp_eX1_goAlong_5_100_x_x_x (a b : Nat) (h : fp_eX1_goAlong_5_100_x_x_x a b = true) : fp_eX1_goAsTwo_5 a b = true := pvfp_sub (l1 := fpL_eX1_goAlong_5_100_x_x_x) (l2 := fpL_eX1_goAsTwo_5) (by decide) a b h
set_option maxHeartbeats 4000000 in
set_option maxRecDepth 10000 in
theorem se_X1_goAsTwo_5 (M : pvM) (hok : pvOk M) (d : Nat) : PW 110 d (0, [some (pvR 5), none, none, none], [], M) (fun r X => (∃ x : Int32, r = some (pvI x) ∧ 0 ≤ Int32.toInt x ∧ Int32.toInt x ≤ 64000) ∧ pvOk X ∧ pvFr fp_eX1_goAsTwo_5 M X ∧ y2w r M X) := by
  have hT : pvdom 110 = pvD_110 := rfl
  have b1_ : 0 ≤ Int32.toInt (M.1 100 0) ∧ Int32.toInt (M.1 100 0) ≤ 7 := pvok_r hok 100 0 rfl
  have q2_ : Int32.toInt ((M.1 100 0) / 2) = Int32.toInt (M.1 100 0) / 2 := by have u0 := b1_; have u := zdiv_p (M.1 100 0) 2 (by omega) (by decide) (by decide); have e0 : nI 2 = (2 : Int32) := rfl; rw [e0] at u; omega
  have b3_ : 0 ≤ Int32.toInt ((M.1 100 0) / 2) ∧ Int32.toInt ((M.1 100 0) / 2) ≤ 3 := (by have u0 := b1_; omega)
  obtain ⟨q5_, b4_⟩ : (Int32.toInt ((M.1 100 0) - ((M.1 100 0) / 2)) = Int32.toInt (M.1 100 0) - Int32.toInt ((M.1 100 0) / 2)) ∧ ((-3) ≤ Int32.toInt ((M.1 100 0) - ((M.1 100 0) / 2)) ∧ Int32.toInt ((M.1 100 0) - ((M.1 100 0) / 2)) ≤ 7) := zsub_r (M.1 100 0) ((M.1 100 0) / 2) (-3) 7 b1_ b3_ (by decide) (by decide) (by decide) (by decide)
  have b6_ : 0 ≤ Int32.toInt (M.1 8 4) ∧ Int32.toInt (M.1 8 4) ≤ 9999 := pvok_r hok 8 4 rfl
  refine pw_blk hT 20 (S' := (34, [some (pvR 5), some (pvI (M.1 100 0)), some (pvI ((M.1 100 0) - ((M.1 100 0) / 2))), none], [pvI (M.1 8 4), pvI ((M.1 100 0) - ((M.1 100 0) / 2)), pvI 0, pvR 100, pvR 5], M)) rfl ⟨trivial, rfl, rfl, rfl, trivial, trivial, trivial, trivial, (by decide), trivial, trivial, trivial, trivial, rfl, rfl, trivial, trivial, trivial, rfl, rfl, trivial⟩ ?_
  refine pw_callGd hT (as := [pvR 5, pvR 100, pvI 0, pvI ((M.1 100 0) - ((M.1 100 0) / 2)), pvI (M.1 8 4)]) (lo1 := [some (pvR 5), some (pvR 100), some (pvI 0), some (pvI ((M.1 100 0) - ((M.1 100 0) / 2))), some (pvI (M.1 8 4)), none, none, none, none, none]) (d1 := d) (rest := []) rfl rfl rfl rfl rfl (fun _ => rfl) (Nat.zero_le _) rfl rfl rfl (se_X1_goAlong_5_100_x_x_x M hok 0 ((M.1 100 0) - ((M.1 100 0) / 2)) (M.1 8 4) (zr_wide (show 0 ≤ Int32.toInt 0 ∧ Int32.toInt 0 ≤ 0 from (by decide)) (by decide) (by decide)) (by have u0 := b4_; omega) (zr_wide b6_ (by decide) (by decide)) d) (fun x8_ M9_ b10_ o11_ g12_ d7_ => ?_)
  have f13_ : pvFr fp_eX1_goAsTwo_5 M M9_ := pvfr_t g12_ pvfr_0 fp_eX1_goAsTwo_5_fp_eX1_goAlong_5_100_x_x_x
  have b14_ : 0 ≤ Int32.toInt (M9_.1 8 4) ∧ Int32.toInt (M9_.1 8 4) ≤ 9999 := pvok_r o11_ 8 4 rfl
  refine pw_blk hT 11 (S' := (56, [some (pvR 5), some (pvI (M.1 100 0)), some (pvI ((M.1 100 0) - ((M.1 100 0) / 2))), some (pvI x8_)], [pvI (M9_.1 8 4), pvI (M.1 100 0), pvI ((M.1 100 0) - ((M.1 100 0) / 2)), pvR 100, pvR 5, pvI x8_], M9_)) rfl ⟨trivial, trivial, trivial, trivial, rfl, rfl, trivial, trivial, trivial, rfl, rfl, trivial⟩ ?_
  refine pw_callGd hT (as := [pvR 5, pvR 100, pvI ((M.1 100 0) - ((M.1 100 0) / 2)), pvI (M.1 100 0), pvI (M9_.1 8 4)]) (lo1 := [some (pvR 5), some (pvR 100), some (pvI ((M.1 100 0) - ((M.1 100 0) / 2))), some (pvI (M.1 100 0)), some (pvI (M9_.1 8 4)), none, none, none, none, none]) (d1 := d) (rest := [pvI x8_]) rfl rfl rfl rfl rfl (fun _ => rfl) (Nat.zero_le _) rfl rfl rfl (se_X1_goAlong_5_100_x_x_x M9_ o11_ ((M.1 100 0) - ((M.1 100 0) / 2)) (M.1 100 0) (M9_.1 8 4) (by have u0 := b4_; omega) b1_ (zr_wide b14_ (by decide) (by decide)) d) (fun x16_ M17_ b18_ o19_ g20_ d15_ => ?_)
  have f21_ : pvFr fp_eX1_goAsTwo_5 M M17_ := pvfr_t g20_ f13_ fp_eX1_goAsTwo_5_fp_eX1_goAlong_5_100_x_x_x
  have q22_ : Int32.toInt (if x8_ < x16_ then x16_ else x8_) = max (Int32.toInt x8_) (Int32.toInt x16_) := pvmax x8_ x16_
  have b23_ : 0 ≤ Int32.toInt (if x8_ < x16_ then x16_ else x8_) ∧ Int32.toInt (if x8_ < x16_ then x16_ else x8_) ≤ 64000 := (by have u0 := b10_; have u1 := b18_; omega)
  refine pw_blk hT 1 (S' := (62, [some (pvR 5), some (pvI (M.1 100 0)), some (pvI ((M.1 100 0) - ((M.1 100 0) / 2))), some (pvI x8_)], [pvI (if x8_ < x16_ then x16_ else x8_)], M17_)) rfl ⟨(Nat.le_of_ble_eq_true rfl), trivial⟩ ?_
  exact pw_ret hT rfl (r := some (pvI (if x8_ < x16_ then x16_ else x8_))) (M' := M17_) ⟨rfl, rfl⟩ ⟨⟨_, rfl, b23_⟩, o19_, f21_, ⟨M9_, ((M.1 100 0) - ((M.1 100 0) / 2)), (M.1 100 0), x8_, x16_, (if x8_ < x16_ then x16_ else x8_), d7_, d15_, rfl, (by rw [ymx] <;> omega), (by omega), rfl⟩⟩
def fpL_eX9_two_0_x : List (Nat × Nat × Nat) := [(0, 12, 0), (0, 13, 0), (0, 14, 0), (0, 5, 2), (0, 5, 3), (1, 112, 0)]
def fp_eX9_two_0_x (q k : Nat) : Bool := pvfp fpL_eX9_two_0_x q k
theorem fp_eX9_two_0_x_fp_eX1_beginFromNow_5 (a b : Nat) (h : fp_eX1_beginFromNow_5 a b = true) : fp_eX9_two_0_x a b = true := pvfp_sub (l1 := fpL_eX1_beginFromNow_5) (l2 := fpL_eX9_two_0_x) (by decide) a b h
theorem fp_eX9_two_0_x_fp_eX1_goAsTwo_5 (a b : Nat) (h : fp_eX1_goAsTwo_5 a b = true) : fp_eX9_two_0_x a b = true := pvfp_sub (l1 := fpL_eX1_goAsTwo_5) (l2 := fpL_eX9_two_0_x) (by decide) a b h
set_option maxHeartbeats 4000000 in
set_option maxRecDepth 10000 in
theorem se_X9_two_0_x (M : pvM) (hok : pvOk M) (n1 : Int32) (d : Nat) : PW 207 d (0, [some (pvR 0), some (pvI n1), none], [], M) (fun r X => (∃ x : Int32, r = some (pvI x) ∧ True) ∧ pvOk X ∧ pvFr fp_eX9_two_0_x M X ∧ yAn (yGtw n1) r M X) := by
  have hT : pvdom 207 = pvD_207 := rfl
  refine pw_blk hT 3 (S' := (3, [some (pvR 0), some (pvI n1), none], [pvI 1, pvI 0, pvI n1], M)) rfl ⟨trivial, trivial, trivial, trivial⟩ ?_
  refine pw_callT hT (as := [pvI n1, pvI 0, pvI 1]) (lo1 := [some (pvI n1), some (pvI 0), some (pvI 1)]) (d1 := d) (rest := []) rfl rfl rfl rfl rfl (fun h => absurd h (by decide)) (Nat.zero_le _) rfl rfl rfl (sf_X9_within_x_x_x M hok n1 0 1 d) ?_
  by_cases c6_ : n1 < 0
  · refine pw_eqI (if_pos c6_) ?_
    have b7_ : (-2147483648) ≤ Int32.toInt n1 ∧ Int32.toInt n1 ≤ (-1) := zr_lt_l (-1) c6_ (zbnd n1) (show 0 ≤ Int32.toInt 0 ∧ Int32.toInt 0 ≤ 0 from (by decide)) (by decide)
    show PW 207 d (6, [some (pvR 0), some (pvI n1), none], [pvI 0], M) _
    refine pw_ifn hT (c := 0 = 0) rfl rfl (fun c8_ => absurd (by decide) c8_) (fun c8_ => ?_)
    refine pw_blk hT 1 (S' := (10, [some (pvR 0), some (pvI n1), none], [pvI (-1)], M)) rfl ⟨trivial, trivial⟩ ?_
    exact pw_ret hT rfl (r := some (pvI (-1))) (M' := M) ⟨rfl, rfl⟩ ⟨⟨_, rfl, trivial⟩, hok, pvfr_0, (yGtw_n (by have u := b7_; omega) (by decide))⟩
  · refine pw_eqI (if_neg c6_) ?_
    have b9_ : 0 ≤ Int32.toInt n1 ∧ Int32.toInt n1 ≤ 2147483647 := zr_nlt_l 0 c6_ (zbnd n1) (show 0 ≤ Int32.toInt 0 ∧ Int32.toInt 0 ≤ 0 from (by decide)) (by decide)
    by_cases c10_ : 1 < n1
    · refine pw_eqI (if_pos c10_) ?_
      have b11_ : 2 ≤ Int32.toInt n1 ∧ Int32.toInt n1 ≤ 2147483647 := zr_lt_r 2 c10_ b9_ (show 1 ≤ Int32.toInt 1 ∧ Int32.toInt 1 ≤ 1 from (by decide)) (by decide)
      show PW 207 d (6, [some (pvR 0), some (pvI n1), none], [pvI 0], M) _
      refine pw_ifn hT (c := 0 = 0) rfl rfl (fun c12_ => absurd (by decide) c12_) (fun c12_ => ?_)
      refine pw_blk hT 1 (S' := (10, [some (pvR 0), some (pvI n1), none], [pvI (-1)], M)) rfl ⟨trivial, trivial⟩ ?_
      exact pw_ret hT rfl (r := some (pvI (-1))) (M' := M) ⟨rfl, rfl⟩ ⟨⟨_, rfl, trivial⟩, hok, pvfr_0, (yGtw_n (by have u := b11_; omega) (by decide))⟩
    · refine pw_eqI (if_neg c10_) ?_
      have b13_ : 0 ≤ Int32.toInt n1 ∧ Int32.toInt n1 ≤ 1 := zr_nlt_r 1 c10_ b9_ (show 1 ≤ Int32.toInt 1 ∧ Int32.toInt 1 ≤ 1 from (by decide)) (by decide)
      show PW 207 d (6, [some (pvR 0), some (pvI n1), none], [pvI 1], M) _
      refine pw_ifn hT (c := 1 = 0) rfl rfl (fun c14_ => ?_) (fun c14_ => absurd c14_ (by decide))
      refine pw_blk hT 2 (S' := (15, [some (pvR 0), some (pvI n1), none], [pvR 5], M)) rfl ⟨trivial, rfl, trivial⟩ ?_
      refine pw_callVd hT (as := [pvR 5]) (lo1 := [some (pvR 5)]) (d1 := d) (rest := []) rfl rfl rfl rfl rfl (fun _ => rfl) (Nat.zero_le _) rfl rfl rfl (se_X1_beginFromNow_5 M hok d) (fun M17_ o19_ g20_ d15_ => ?_)
      have f21_ : pvFr fp_eX9_two_0_x M M17_ := pvfr_t g20_ pvfr_0 fp_eX9_two_0_x_fp_eX1_beginFromNow_5
      refine pw_blk hT 2 (S' := (22, [some (pvR 0), some (pvI n1), none], [pvR 5], M17_)) rfl ⟨trivial, rfl, trivial⟩ ?_
      refine pw_callGd hT (as := [pvR 5]) (lo1 := [some (pvR 5), none, none, none]) (d1 := d) (rest := []) rfl rfl rfl rfl rfl (fun _ => rfl) (Nat.zero_le _) rfl rfl rfl (se_X1_goAsTwo_5 M17_ o19_ d) (fun x23_ M24_ b25_ o26_ g27_ d22_ => ?_)
      have f28_ : pvFr fp_eX9_two_0_x M M24_ := pvfr_t g27_ f21_ fp_eX9_two_0_x_fp_eX1_goAsTwo_5
      refine pw_blk hT 2 (S' := (27, [some (pvR 0), some (pvI n1), some (pvI x23_)], [pvI n1], M24_)) rfl ⟨trivial, trivial, trivial⟩ ?_
      refine pw_ifn hT (c := n1 = 0) rfl rfl (fun c29_ => ?_) (fun c29_ => ?_)
      · have b30_ : 1 ≤ Int32.toInt n1 ∧ Int32.toInt n1 ≤ 1 := (by have u0 := b13_; have u1 := (not_congr (zi_eq _ _)).mp c29_; have u2 := (show 0 ≤ Int32.toInt 0 ∧ Int32.toInt 0 ≤ 0 from (by decide)); omega)
        refine pw_blk hT 1 (S' := (41, [some (pvR 0), some (pvI n1), some (pvI x23_)], [pvI x23_], M24_)) rfl ⟨trivial, trivial⟩ ?_
        exact pw_ret hT rfl (r := some (pvI x23_)) (M' := M24_) ⟨rfl, rfl⟩ ⟨⟨_, rfl, trivial⟩, o26_, f28_, (yGtw_1 hok o19_ d15_ d22_ (by have u := b30_; omega) (by have u := b30_; omega))⟩
      · have b31_ : 0 ≤ Int32.toInt n1 ∧ Int32.toInt n1 ≤ 0 := (by have u0 := b13_; have u1 := (zi_eq _ _).mp c29_; have u2 := (show 0 ≤ Int32.toInt 0 ∧ Int32.toInt 0 ≤ 0 from (by decide)); omega)
        refine pw_blk hT 2 (S' := (34, [some (pvR 0), some (pvI n1), some (pvI x23_)], [pvR 5], M24_)) rfl ⟨trivial, rfl, trivial⟩ ?_
        refine pw_callGp hT (as := [pvR 5]) (lo1 := [some (pvR 5)]) (d1 := d) (rest := []) rfl rfl rfl rfl rfl (fun _ => rfl) (Nat.zero_le _) rfl rfl rfl (se_X1_cost_5 M24_ o26_ d) (fun x32_ b34_ => ?_)
        obtain ⟨b37_, d38_⟩ := b34_
        refine pw_blk hT 1 (S' := (41, [some (pvR 0), some (pvI n1), some (pvI x23_)], [pvI x32_], M24_)) rfl ⟨trivial, trivial⟩ ?_
        exact pw_ret hT rfl (r := some (pvI x32_)) (M' := M24_) ⟨rfl, rfl⟩ ⟨⟨_, rfl, trivial⟩, o26_, f28_, (yGtw_0 hok o19_ o26_ d15_ d22_ (by have u := b31_; omega) (by have u := b31_; omega) d38_)⟩
def fpL_eX6_becomeAs_100_101 : List (Nat × Nat × Nat) := [(0, 100, 1), (0, 108, 0), (0, 116, 0)]
def fp_eX6_becomeAs_100_101 (q k : Nat) : Bool := pvfp fpL_eX6_becomeAs_100_101 q k
theorem fp_eX6_becomeAs_100_101_fp_eX6_append_100_x_x (a b : Nat) (h : fp_eX6_append_100_x_x a b = true) : fp_eX6_becomeAs_100_101 a b = true := pvfp_sub (l1 := fpL_eX6_append_100_x_x) (l2 := fpL_eX6_becomeAs_100_101) (by decide) a b h
theorem fp_eX6_becomeAs_100_101_fp_eX6_clear_100 (a b : Nat) (h : fp_eX6_clear_100 a b = true) : fp_eX6_becomeAs_100_101 a b = true := pvfp_sub (l1 := fpL_eX6_clear_100) (l2 := fpL_eX6_becomeAs_100_101) (by decide) a b h
set_option maxHeartbeats 4000000 in
set_option maxRecDepth 10000 in
theorem se_X6_becomeAs_100_101 (M : pvM) (hok : pvOk M) (d : Nat) : PW 152 d (0, [some (pvR 100), some (pvR 101), none], [], M) (fun r X => r = none ∧ pvOk X ∧ pvFr fp_eX6_becomeAs_100_101 M X ∧ X.1 100 0 = (M.1 101 0) ∧ zC1 108 109 (Int32.toNatClampNeg (M.1 101 0)) M X ∧ zC1 116 117 (Int32.toNatClampNeg (M.1 101 0)) M X) := by
  have hT : pvdom 152 = pvD_152 := rfl
  refine pw_blk hT 1 (S' := (1, [some (pvR 100), some (pvR 101), none], [pvR 100], M)) rfl ⟨trivial, trivial⟩ ?_
  refine pw_callGd hT (as := [pvR 100]) (lo1 := [some (pvR 100)]) (d1 := d) (rest := []) rfl rfl rfl rfl rfl (fun _ => rfl) (Nat.zero_le _) rfl rfl rfl (se_X6_clear_100 M hok d) (fun x2_ M3_ b4_ o5_ g6_ d1_ => ?_)
  have f7_ : pvFr fp_eX6_becomeAs_100_101 M M3_ := pvfr_t g6_ pvfr_0 fp_eX6_becomeAs_100_101_fp_eX6_clear_100
  obtain ⟨b8_, d9_⟩ := b4_
  subst d9_
  refine pw_blk hT 3 (S' := (7, [some (pvR 100), some (pvR 101), some (pvI 0)], [], M3_)) rfl ⟨trivial, trivial, trivial, trivial⟩ ?_
  have hlz90_ : ∀ (nz90_ : Nat) (i2z90_ : Int32) (Mz90_ : pvM), (pvOk Mz90_) → (pvFr fp_eX6_becomeAs_100_101 M Mz90_) → (0 ≤ Int32.toInt i2z90_ ∧ Int32.toInt i2z90_ ≤ 7) → (Mz90_.1 100 0 = i2z90_) → (Int32.toInt i2z90_ ≤ Int32.toInt (M.1 101 0)) → (zC1 108 109 (Int32.toNatClampNeg i2z90_) M Mz90_) → (zC1 116 117 (Int32.toNatClampNeg i2z90_) M Mz90_) → (zhide ((8 - Int32.toInt i2z90_).toNat < nz90_)) → PW 152 d (7, [some (pvR 100), some (pvR 101), some (pvI i2z90_)], [], Mz90_) (fun r X => r = none ∧ pvOk X ∧ pvFr fp_eX6_becomeAs_100_101 M X ∧ X.1 100 0 = (M.1 101 0) ∧ zC1 108 109 (Int32.toNatClampNeg (M.1 101 0)) M X ∧ zC1 116 117 (Int32.toNatClampNeg (M.1 101 0)) M X) := by
    intro nz90_
    induction nz90_ with
    | zero => intro i2z90_ Mz90_ oz90_ fz90_ h2z90_ j0z90_ j1z90_ j2z90_ j3z90_ hmz90_; exact absurd (zshow hmz90_) (Nat.not_lt_zero _)
    | succ nz90_ ihz90_ =>
      intro i2z90_ Mz90_ oz90_ fz90_ h2z90_ j0z90_ j1z90_ j2z90_ j3z90_ hmz90_
      have b91_ : 0 ≤ Int32.toInt (Mz90_.1 101 0) ∧ Int32.toInt (Mz90_.1 101 0) ≤ 7 := pvok_r oz90_ 101 0 rfl
      refine pw_blk hT 3 (S' := (12, [some (pvR 100), some (pvR 101), some (pvI i2z90_)], [pvI (Mz90_.1 101 0), pvI i2z90_], Mz90_)) rfl ⟨trivial, trivial, rfl, trivial⟩ ?_
      refine pw_ic hT (c := (Mz90_.1 101 0) ≤ i2z90_) rfl rfl (fun c92_ => ?_) (fun c92_ => ?_)
      · have d93_ : Int32.toInt (Mz90_.1 101 0) ≤ Int32.toInt i2z90_ := (zi_le _ _).mp c92_
        exact pw_ret hT rfl (r := none) (M' := Mz90_) ⟨rfl, rfl⟩ ⟨rfl, oz90_, fz90_, (Int32.toInt_inj.mp (by have z3 : Mz90_.1 101 0 = M.1 101 0 := fz90_ 101 0 rfl; have z4 := congrArg Int32.toInt z3; have z5 := congrArg Int32.toInt j0z90_; omega)), (zC1_n (show Int32.toNatClampNeg (M.1 101 0) = Int32.toNatClampNeg i2z90_ from by have z3 : Mz90_.1 101 0 = M.1 101 0 := fz90_ 101 0 rfl; have z4 := congrArg Int32.toInt z3; show (M.1 101 0).toInt.toNat = i2z90_.toInt.toNat; omega) j2z90_), (zC1_n (show Int32.toNatClampNeg (M.1 101 0) = Int32.toNatClampNeg i2z90_ from by have z3 : Mz90_.1 101 0 = M.1 101 0 := fz90_ 101 0 rfl; have z4 := congrArg Int32.toInt z3; show (M.1 101 0).toInt.toNat = i2z90_.toInt.toNat; omega) j3z90_)⟩
      · have b94_ : 1 ≤ Int32.toInt (Mz90_.1 101 0) ∧ Int32.toInt (Mz90_.1 101 0) ≤ 7 := zr_nle_l 1 c92_ b91_ h2z90_ (by decide)
        have b95_ : 0 ≤ Int32.toInt i2z90_ ∧ Int32.toInt i2z90_ ≤ 6 := zr_nle_r 6 c92_ h2z90_ b94_ (by decide)
        have d96_ : Int32.toInt (Mz90_.1 101 0) > Int32.toInt i2z90_ := Int.not_le.mp ((not_congr (zi_le _ _)).mp c92_)
        have b97_ : 0 ≤ Int32.toInt (Mz90_.1 109 (Int32.toNatClampNeg i2z90_)) ∧ Int32.toInt (Mz90_.1 109 (Int32.toNatClampNeg i2z90_)) ≤ 6 := pvok_r oz90_ 109 (Int32.toNatClampNeg i2z90_) rfl
        have b98_ : 0 ≤ Int32.toInt (Mz90_.1 117 (Int32.toNatClampNeg i2z90_)) ∧ Int32.toInt (Mz90_.1 117 (Int32.toNatClampNeg i2z90_)) ≤ 9999 := pvok_r oz90_ 117 (Int32.toNatClampNeg i2z90_) rfl
        refine pw_blk hT 9 (S' := (28, [some (pvR 100), some (pvR 101), some (pvI i2z90_)], [pvI (Mz90_.1 117 (Int32.toNatClampNeg i2z90_)), pvI (Mz90_.1 109 (Int32.toNatClampNeg i2z90_)), pvR 100], Mz90_)) rfl ⟨trivial, trivial, rfl, trivial, ⟨rfl, (zr_in (n := 7) b95_ (by decide) (by decide))⟩, trivial, rfl, trivial, ⟨rfl, (zr_in (n := 7) b95_ (by decide) (by decide))⟩, trivial⟩ ?_
        refine pw_callGd hT (as := [pvR 100, pvI (Mz90_.1 109 (Int32.toNatClampNeg i2z90_)), pvI (Mz90_.1 117 (Int32.toNatClampNeg i2z90_))]) (lo1 := [some (pvR 100), some (pvI (Mz90_.1 109 (Int32.toNatClampNeg i2z90_))), some (pvI (Mz90_.1 117 (Int32.toNatClampNeg i2z90_)))]) (d1 := d) (rest := []) rfl rfl rfl rfl rfl (fun _ => rfl) (Nat.zero_le _) rfl rfl rfl (se_X6_append_100_x_x Mz90_ oz90_ (Mz90_.1 109 (Int32.toNatClampNeg i2z90_)) (Mz90_.1 117 (Int32.toNatClampNeg i2z90_)) b97_ b98_ d) (fun x100_ M101_ b102_ o103_ g104_ d99_ => ?_)
        have f105_ : pvFr fp_eX6_becomeAs_100_101 M M101_ := pvfr_t g104_ fz90_ fp_eX6_becomeAs_100_101_fp_eX6_append_100_x_x
        obtain ⟨b106_, d107_⟩ := b102_
        subst d107_
        obtain ⟨q109_, b108_⟩ : (Int32.toInt (i2z90_ + 1) = Int32.toInt i2z90_ + 1) ∧ (1 ≤ Int32.toInt (i2z90_ + 1) ∧ Int32.toInt (i2z90_ + 1) ≤ 7) := zadd_k i2z90_ 1 1 1 7 b95_ (by decide) (by decide) (by decide) (by decide) (by decide)
        refine pw_blk hT 3 (S' := (7, [some (pvR 100), some (pvR 101), some (pvI (i2z90_ + 1))], [], M101_)) rfl ⟨trivial, trivial, trivial, trivial⟩ ?_
        have j110_ : M101_.1 100 0 = (i2z90_ + 1) := (by have z1 : Int32.toInt (Int32.ofNat 7) = 7 := (by decide); have z2 := pvok_r oz90_ 101 0 rfl; have z3 : Mz90_.1 101 0 = M.1 101 0 := fz90_ 101 0 rfl; have z4 := congrArg Int32.toInt z3; rw [d99_.2, j0z90_, if_pos ((zi_lt _ _).mpr (by omega))])
        have j111_ : Int32.toInt (i2z90_ + 1) ≤ Int32.toInt (M.1 101 0) := (by have z3 : Mz90_.1 101 0 = M.1 101 0 := fz90_ 101 0 rfl; have z4 := congrArg Int32.toInt z3; omega)
        have j112_ : zC1 108 109 (Int32.toNatClampNeg (i2z90_ + 1)) M M101_ := (zC1_n (znp1 b95_ (by decide) (by decide)) (zC1_ap j2z90_ d99_.1 j0z90_ (by have u := b95_; omega) (fz90_ 109 (Int32.toNatClampNeg i2z90_) rfl)))
        have j113_ : zC1 116 117 (Int32.toNatClampNeg (i2z90_ + 1)) M M101_ := (zC1_n (znp1 b95_ (by decide) (by decide)) (zC1_bp j3z90_ d99_.1 j0z90_ (by have u := b95_; omega) (fz90_ 117 (Int32.toNatClampNeg i2z90_) rfl)))
        exact ihz90_ (i2z90_ + 1) M101_ o103_ f105_ (zr_wide b108_ (by decide) (by decide)) j110_ j111_ j112_ j113_ (zhid (pvms_up (zshow hmz90_) h2z90_ q109_ (by decide) (by decide)))
  have u114_ : Int32.toInt 0 = 0 := by decide
  have j115_ : M3_.1 100 0 = 0 := d1_
  have j116_ : Int32.toInt 0 ≤ Int32.toInt (M.1 101 0) := (by have z := pvok_r hok 101 0 rfl; have u : Int32.toInt 0 = 0 := (by decide); omega)
  have j117_ : zC1 108 109 (Int32.toNatClampNeg 0) M M3_ := (zC1_0 108 109 M M3_)
  have j118_ : zC1 116 117 (Int32.toNatClampNeg 0) M M3_ := (zC1_0 116 117 M M3_)
  exact hlz90_ _ 0 M3_ o5_ f7_ (zr_wide (show 0 ≤ Int32.toInt 0 ∧ Int32.toInt 0 ≤ 0 from (by decide)) (by decide) (by decide)) j115_ j116_ j117_ j118_ (zhid (Nat.lt_succ_self _))
def fpL_eX6_becomeAs_102_103 : List (Nat × Nat × Nat) := [(0, 102, 1), (0, 110, 0), (0, 118, 0)]
def fp_eX6_becomeAs_102_103 (q k : Nat) : Bool := pvfp fpL_eX6_becomeAs_102_103 q k
theorem fp_eX6_becomeAs_102_103_fp_eX6_append_102_x_x (a b : Nat) (h : fp_eX6_append_102_x_x a b = true) : fp_eX6_becomeAs_102_103 a b = true := pvfp_sub (l1 := fpL_eX6_append_102_x_x) (l2 := fpL_eX6_becomeAs_102_103) (by decide) a b h
theorem fp_eX6_becomeAs_102_103_fp_eX6_clear_102 (a b : Nat) (h : fp_eX6_clear_102 a b = true) : fp_eX6_becomeAs_102_103 a b = true := pvfp_sub (l1 := fpL_eX6_clear_102) (l2 := fpL_eX6_becomeAs_102_103) (by decide) a b h
set_option maxHeartbeats 4000000 in
set_option maxRecDepth 10000 in
theorem se_X6_becomeAs_102_103 (M : pvM) (hok : pvOk M) (d : Nat) : PW 152 d (0, [some (pvR 102), some (pvR 103), none], [], M) (fun r X => r = none ∧ pvOk X ∧ pvFr fp_eX6_becomeAs_102_103 M X ∧ X.1 102 0 = (M.1 103 0) ∧ zC1 110 111 (Int32.toNatClampNeg (M.1 103 0)) M X ∧ zC1 118 119 (Int32.toNatClampNeg (M.1 103 0)) M X) := by
  have hT : pvdom 152 = pvD_152 := rfl
  refine pw_blk hT 1 (S' := (1, [some (pvR 102), some (pvR 103), none], [pvR 102], M)) rfl ⟨trivial, trivial⟩ ?_
  refine pw_callGd hT (as := [pvR 102]) (lo1 := [some (pvR 102)]) (d1 := d) (rest := []) rfl rfl rfl rfl rfl (fun _ => rfl) (Nat.zero_le _) rfl rfl rfl (se_X6_clear_102 M hok d) (fun x2_ M3_ b4_ o5_ g6_ d1_ => ?_)
  have f7_ : pvFr fp_eX6_becomeAs_102_103 M M3_ := pvfr_t g6_ pvfr_0 fp_eX6_becomeAs_102_103_fp_eX6_clear_102
  obtain ⟨b8_, d9_⟩ := b4_
  subst d9_
  refine pw_blk hT 3 (S' := (7, [some (pvR 102), some (pvR 103), some (pvI 0)], [], M3_)) rfl ⟨trivial, trivial, trivial, trivial⟩ ?_
  have hlz90_ : ∀ (nz90_ : Nat) (i2z90_ : Int32) (Mz90_ : pvM), (pvOk Mz90_) → (pvFr fp_eX6_becomeAs_102_103 M Mz90_) → (0 ≤ Int32.toInt i2z90_ ∧ Int32.toInt i2z90_ ≤ 6) → (Mz90_.1 102 0 = i2z90_) → (Int32.toInt i2z90_ ≤ Int32.toInt (M.1 103 0)) → (zC1 110 111 (Int32.toNatClampNeg i2z90_) M Mz90_) → (zC1 118 119 (Int32.toNatClampNeg i2z90_) M Mz90_) → (zhide ((7 - Int32.toInt i2z90_).toNat < nz90_)) → PW 152 d (7, [some (pvR 102), some (pvR 103), some (pvI i2z90_)], [], Mz90_) (fun r X => r = none ∧ pvOk X ∧ pvFr fp_eX6_becomeAs_102_103 M X ∧ X.1 102 0 = (M.1 103 0) ∧ zC1 110 111 (Int32.toNatClampNeg (M.1 103 0)) M X ∧ zC1 118 119 (Int32.toNatClampNeg (M.1 103 0)) M X) := by
    intro nz90_
    induction nz90_ with
    | zero => intro i2z90_ Mz90_ oz90_ fz90_ h2z90_ j0z90_ j1z90_ j2z90_ j3z90_ hmz90_; exact absurd (zshow hmz90_) (Nat.not_lt_zero _)
    | succ nz90_ ihz90_ =>
      intro i2z90_ Mz90_ oz90_ fz90_ h2z90_ j0z90_ j1z90_ j2z90_ j3z90_ hmz90_
      have b91_ : 0 ≤ Int32.toInt (Mz90_.1 103 0) ∧ Int32.toInt (Mz90_.1 103 0) ≤ 6 := pvok_r oz90_ 103 0 rfl
      refine pw_blk hT 3 (S' := (12, [some (pvR 102), some (pvR 103), some (pvI i2z90_)], [pvI (Mz90_.1 103 0), pvI i2z90_], Mz90_)) rfl ⟨trivial, trivial, rfl, trivial⟩ ?_
      refine pw_ic hT (c := (Mz90_.1 103 0) ≤ i2z90_) rfl rfl (fun c92_ => ?_) (fun c92_ => ?_)
      · have d93_ : Int32.toInt (Mz90_.1 103 0) ≤ Int32.toInt i2z90_ := (zi_le _ _).mp c92_
        exact pw_ret hT rfl (r := none) (M' := Mz90_) ⟨rfl, rfl⟩ ⟨rfl, oz90_, fz90_, (Int32.toInt_inj.mp (by have z3 : Mz90_.1 103 0 = M.1 103 0 := fz90_ 103 0 rfl; have z4 := congrArg Int32.toInt z3; have z5 := congrArg Int32.toInt j0z90_; omega)), (zC1_n (show Int32.toNatClampNeg (M.1 103 0) = Int32.toNatClampNeg i2z90_ from by have z3 : Mz90_.1 103 0 = M.1 103 0 := fz90_ 103 0 rfl; have z4 := congrArg Int32.toInt z3; show (M.1 103 0).toInt.toNat = i2z90_.toInt.toNat; omega) j2z90_), (zC1_n (show Int32.toNatClampNeg (M.1 103 0) = Int32.toNatClampNeg i2z90_ from by have z3 : Mz90_.1 103 0 = M.1 103 0 := fz90_ 103 0 rfl; have z4 := congrArg Int32.toInt z3; show (M.1 103 0).toInt.toNat = i2z90_.toInt.toNat; omega) j3z90_)⟩
      · have b94_ : 1 ≤ Int32.toInt (Mz90_.1 103 0) ∧ Int32.toInt (Mz90_.1 103 0) ≤ 6 := zr_nle_l 1 c92_ b91_ h2z90_ (by decide)
        have b95_ : 0 ≤ Int32.toInt i2z90_ ∧ Int32.toInt i2z90_ ≤ 5 := zr_nle_r 5 c92_ h2z90_ b94_ (by decide)
        have d96_ : Int32.toInt (Mz90_.1 103 0) > Int32.toInt i2z90_ := Int.not_le.mp ((not_congr (zi_le _ _)).mp c92_)
        have b97_ : 0 ≤ Int32.toInt (Mz90_.1 111 (Int32.toNatClampNeg i2z90_)) ∧ Int32.toInt (Mz90_.1 111 (Int32.toNatClampNeg i2z90_)) ≤ 6 := pvok_r oz90_ 111 (Int32.toNatClampNeg i2z90_) rfl
        have b98_ : 0 ≤ Int32.toInt (Mz90_.1 119 (Int32.toNatClampNeg i2z90_)) ∧ Int32.toInt (Mz90_.1 119 (Int32.toNatClampNeg i2z90_)) ≤ 9999 := pvok_r oz90_ 119 (Int32.toNatClampNeg i2z90_) rfl
        refine pw_blk hT 9 (S' := (28, [some (pvR 102), some (pvR 103), some (pvI i2z90_)], [pvI (Mz90_.1 119 (Int32.toNatClampNeg i2z90_)), pvI (Mz90_.1 111 (Int32.toNatClampNeg i2z90_)), pvR 102], Mz90_)) rfl ⟨trivial, trivial, rfl, trivial, ⟨rfl, (zr_in (n := 6) b95_ (by decide) (by decide))⟩, trivial, rfl, trivial, ⟨rfl, (zr_in (n := 6) b95_ (by decide) (by decide))⟩, trivial⟩ ?_
        refine pw_callGd hT (as := [pvR 102, pvI (Mz90_.1 111 (Int32.toNatClampNeg i2z90_)), pvI (Mz90_.1 119 (Int32.toNatClampNeg i2z90_))]) (lo1 := [some (pvR 102), some (pvI (Mz90_.1 111 (Int32.toNatClampNeg i2z90_))), some (pvI (Mz90_.1 119 (Int32.toNatClampNeg i2z90_)))]) (d1 := d) (rest := []) rfl rfl rfl rfl rfl (fun _ => rfl) (Nat.zero_le _) rfl rfl rfl (se_X6_append_102_x_x Mz90_ oz90_ (Mz90_.1 111 (Int32.toNatClampNeg i2z90_)) (Mz90_.1 119 (Int32.toNatClampNeg i2z90_)) b97_ b98_ d) (fun x100_ M101_ b102_ o103_ g104_ d99_ => ?_)
        have f105_ : pvFr fp_eX6_becomeAs_102_103 M M101_ := pvfr_t g104_ fz90_ fp_eX6_becomeAs_102_103_fp_eX6_append_102_x_x
        obtain ⟨b106_, d107_⟩ := b102_
        subst d107_
        obtain ⟨q109_, b108_⟩ : (Int32.toInt (i2z90_ + 1) = Int32.toInt i2z90_ + 1) ∧ (1 ≤ Int32.toInt (i2z90_ + 1) ∧ Int32.toInt (i2z90_ + 1) ≤ 6) := zadd_k i2z90_ 1 1 1 6 b95_ (by decide) (by decide) (by decide) (by decide) (by decide)
        refine pw_blk hT 3 (S' := (7, [some (pvR 102), some (pvR 103), some (pvI (i2z90_ + 1))], [], M101_)) rfl ⟨trivial, trivial, trivial, trivial⟩ ?_
        have j110_ : M101_.1 102 0 = (i2z90_ + 1) := (by have z1 : Int32.toInt (Int32.ofNat 6) = 6 := (by decide); have z2 := pvok_r oz90_ 103 0 rfl; have z3 : Mz90_.1 103 0 = M.1 103 0 := fz90_ 103 0 rfl; have z4 := congrArg Int32.toInt z3; rw [d99_.2, j0z90_, if_pos ((zi_lt _ _).mpr (by omega))])
        have j111_ : Int32.toInt (i2z90_ + 1) ≤ Int32.toInt (M.1 103 0) := (by have z3 : Mz90_.1 103 0 = M.1 103 0 := fz90_ 103 0 rfl; have z4 := congrArg Int32.toInt z3; omega)
        have j112_ : zC1 110 111 (Int32.toNatClampNeg (i2z90_ + 1)) M M101_ := (zC1_n (znp1 b95_ (by decide) (by decide)) (zC1_ap j2z90_ d99_.1 j0z90_ (by have u := b95_; omega) (fz90_ 111 (Int32.toNatClampNeg i2z90_) rfl)))
        have j113_ : zC1 118 119 (Int32.toNatClampNeg (i2z90_ + 1)) M M101_ := (zC1_n (znp1 b95_ (by decide) (by decide)) (zC1_bp j3z90_ d99_.1 j0z90_ (by have u := b95_; omega) (fz90_ 119 (Int32.toNatClampNeg i2z90_) rfl)))
        exact ihz90_ (i2z90_ + 1) M101_ o103_ f105_ (zr_wide b108_ (by decide) (by decide)) j110_ j111_ j112_ j113_ (zhid (pvms_up (zshow hmz90_) h2z90_ q109_ (by decide) (by decide)))
  have u114_ : Int32.toInt 0 = 0 := by decide
  have j115_ : M3_.1 102 0 = 0 := d1_
  have j116_ : Int32.toInt 0 ≤ Int32.toInt (M.1 103 0) := (by have z := pvok_r hok 103 0 rfl; have u : Int32.toInt 0 = 0 := (by decide); omega)
  have j117_ : zC1 110 111 (Int32.toNatClampNeg 0) M M3_ := (zC1_0 110 111 M M3_)
  have j118_ : zC1 118 119 (Int32.toNatClampNeg 0) M M3_ := (zC1_0 118 119 M M3_)
  exact hlz90_ _ 0 M3_ o5_ f7_ (zr_wide (show 0 ≤ Int32.toInt 0 ∧ Int32.toInt 0 ≤ 0 from (by decide)) (by decide) (by decide)) j115_ j116_ j117_ j118_ (zhid (Nat.lt_succ_self _))
def fpL_eX6_becomeAs_104_105 : List (Nat × Nat × Nat) := [(0, 104, 1), (0, 112, 0), (0, 120, 0)]
def fp_eX6_becomeAs_104_105 (q k : Nat) : Bool := pvfp fpL_eX6_becomeAs_104_105 q k
theorem fp_eX6_becomeAs_104_105_fp_eX6_append_104_x_x (a b : Nat) (h : fp_eX6_append_104_x_x a b = true) : fp_eX6_becomeAs_104_105 a b = true := pvfp_sub (l1 := fpL_eX6_append_104_x_x) (l2 := fpL_eX6_becomeAs_104_105) (by decide) a b h
theorem fp_eX6_becomeAs_104_105_fp_eX6_clear_104 (a b : Nat) (h : fp_eX6_clear_104 a b = true) : fp_eX6_becomeAs_104_105 a b = true := pvfp_sub (l1 := fpL_eX6_clear_104) (l2 := fpL_eX6_becomeAs_104_105) (by decide) a b h
set_option maxHeartbeats 4000000 in
set_option maxRecDepth 10000 in
theorem se_X6_becomeAs_104_105 (M : pvM) (hok : pvOk M) (d : Nat) : PW 152 d (0, [some (pvR 104), some (pvR 105), none], [], M) (fun r X => r = none ∧ pvOk X ∧ pvFr fp_eX6_becomeAs_104_105 M X ∧ X.1 104 0 = (M.1 105 0) ∧ zC1 112 113 (Int32.toNatClampNeg (M.1 105 0)) M X ∧ zC1 120 121 (Int32.toNatClampNeg (M.1 105 0)) M X) := by
  have hT : pvdom 152 = pvD_152 := rfl
  refine pw_blk hT 1 (S' := (1, [some (pvR 104), some (pvR 105), none], [pvR 104], M)) rfl ⟨trivial, trivial⟩ ?_
  refine pw_callGd hT (as := [pvR 104]) (lo1 := [some (pvR 104)]) (d1 := d) (rest := []) rfl rfl rfl rfl rfl (fun _ => rfl) (Nat.zero_le _) rfl rfl rfl (se_X6_clear_104 M hok d) (fun x2_ M3_ b4_ o5_ g6_ d1_ => ?_)
  have f7_ : pvFr fp_eX6_becomeAs_104_105 M M3_ := pvfr_t g6_ pvfr_0 fp_eX6_becomeAs_104_105_fp_eX6_clear_104
  obtain ⟨b8_, d9_⟩ := b4_
  subst d9_
  refine pw_blk hT 3 (S' := (7, [some (pvR 104), some (pvR 105), some (pvI 0)], [], M3_)) rfl ⟨trivial, trivial, trivial, trivial⟩ ?_
  have hlz90_ : ∀ (nz90_ : Nat) (i2z90_ : Int32) (Mz90_ : pvM), (pvOk Mz90_) → (pvFr fp_eX6_becomeAs_104_105 M Mz90_) → (0 ≤ Int32.toInt i2z90_ ∧ Int32.toInt i2z90_ ≤ 8) → (Mz90_.1 104 0 = i2z90_) → (Int32.toInt i2z90_ ≤ Int32.toInt (M.1 105 0)) → (zC1 112 113 (Int32.toNatClampNeg i2z90_) M Mz90_) → (zC1 120 121 (Int32.toNatClampNeg i2z90_) M Mz90_) → (zhide ((9 - Int32.toInt i2z90_).toNat < nz90_)) → PW 152 d (7, [some (pvR 104), some (pvR 105), some (pvI i2z90_)], [], Mz90_) (fun r X => r = none ∧ pvOk X ∧ pvFr fp_eX6_becomeAs_104_105 M X ∧ X.1 104 0 = (M.1 105 0) ∧ zC1 112 113 (Int32.toNatClampNeg (M.1 105 0)) M X ∧ zC1 120 121 (Int32.toNatClampNeg (M.1 105 0)) M X) := by
    intro nz90_
    induction nz90_ with
    | zero => intro i2z90_ Mz90_ oz90_ fz90_ h2z90_ j0z90_ j1z90_ j2z90_ j3z90_ hmz90_; exact absurd (zshow hmz90_) (Nat.not_lt_zero _)
    | succ nz90_ ihz90_ =>
      intro i2z90_ Mz90_ oz90_ fz90_ h2z90_ j0z90_ j1z90_ j2z90_ j3z90_ hmz90_
      have b91_ : 0 ≤ Int32.toInt (Mz90_.1 105 0) ∧ Int32.toInt (Mz90_.1 105 0) ≤ 8 := pvok_r oz90_ 105 0 rfl
      refine pw_blk hT 3 (S' := (12, [some (pvR 104), some (pvR 105), some (pvI i2z90_)], [pvI (Mz90_.1 105 0), pvI i2z90_], Mz90_)) rfl ⟨trivial, trivial, rfl, trivial⟩ ?_
      refine pw_ic hT (c := (Mz90_.1 105 0) ≤ i2z90_) rfl rfl (fun c92_ => ?_) (fun c92_ => ?_)
      · have d93_ : Int32.toInt (Mz90_.1 105 0) ≤ Int32.toInt i2z90_ := (zi_le _ _).mp c92_
        exact pw_ret hT rfl (r := none) (M' := Mz90_) ⟨rfl, rfl⟩ ⟨rfl, oz90_, fz90_, (Int32.toInt_inj.mp (by have z3 : Mz90_.1 105 0 = M.1 105 0 := fz90_ 105 0 rfl; have z4 := congrArg Int32.toInt z3; have z5 := congrArg Int32.toInt j0z90_; omega)), (zC1_n (show Int32.toNatClampNeg (M.1 105 0) = Int32.toNatClampNeg i2z90_ from by have z3 : Mz90_.1 105 0 = M.1 105 0 := fz90_ 105 0 rfl; have z4 := congrArg Int32.toInt z3; show (M.1 105 0).toInt.toNat = i2z90_.toInt.toNat; omega) j2z90_), (zC1_n (show Int32.toNatClampNeg (M.1 105 0) = Int32.toNatClampNeg i2z90_ from by have z3 : Mz90_.1 105 0 = M.1 105 0 := fz90_ 105 0 rfl; have z4 := congrArg Int32.toInt z3; show (M.1 105 0).toInt.toNat = i2z90_.toInt.toNat; omega) j3z90_)⟩
      · have b94_ : 1 ≤ Int32.toInt (Mz90_.1 105 0) ∧ Int32.toInt (Mz90_.1 105 0) ≤ 8 := zr_nle_l 1 c92_ b91_ h2z90_ (by decide)
        have b95_ : 0 ≤ Int32.toInt i2z90_ ∧ Int32.toInt i2z90_ ≤ 7 := zr_nle_r 7 c92_ h2z90_ b94_ (by decide)
        have d96_ : Int32.toInt (Mz90_.1 105 0) > Int32.toInt i2z90_ := Int.not_le.mp ((not_congr (zi_le _ _)).mp c92_)
        have b97_ : 0 ≤ Int32.toInt (Mz90_.1 113 (Int32.toNatClampNeg i2z90_)) ∧ Int32.toInt (Mz90_.1 113 (Int32.toNatClampNeg i2z90_)) ≤ 6 := pvok_r oz90_ 113 (Int32.toNatClampNeg i2z90_) rfl
        have b98_ : 0 ≤ Int32.toInt (Mz90_.1 121 (Int32.toNatClampNeg i2z90_)) ∧ Int32.toInt (Mz90_.1 121 (Int32.toNatClampNeg i2z90_)) ≤ 9999 := pvok_r oz90_ 121 (Int32.toNatClampNeg i2z90_) rfl
        refine pw_blk hT 9 (S' := (28, [some (pvR 104), some (pvR 105), some (pvI i2z90_)], [pvI (Mz90_.1 121 (Int32.toNatClampNeg i2z90_)), pvI (Mz90_.1 113 (Int32.toNatClampNeg i2z90_)), pvR 104], Mz90_)) rfl ⟨trivial, trivial, rfl, trivial, ⟨rfl, (zr_in (n := 8) b95_ (by decide) (by decide))⟩, trivial, rfl, trivial, ⟨rfl, (zr_in (n := 8) b95_ (by decide) (by decide))⟩, trivial⟩ ?_
        refine pw_callGd hT (as := [pvR 104, pvI (Mz90_.1 113 (Int32.toNatClampNeg i2z90_)), pvI (Mz90_.1 121 (Int32.toNatClampNeg i2z90_))]) (lo1 := [some (pvR 104), some (pvI (Mz90_.1 113 (Int32.toNatClampNeg i2z90_))), some (pvI (Mz90_.1 121 (Int32.toNatClampNeg i2z90_)))]) (d1 := d) (rest := []) rfl rfl rfl rfl rfl (fun _ => rfl) (Nat.zero_le _) rfl rfl rfl (se_X6_append_104_x_x Mz90_ oz90_ (Mz90_.1 113 (Int32.toNatClampNeg i2z90_)) (Mz90_.1 121 (Int32.toNatClampNeg i2z90_)) b97_ b98_ d) (fun x100_ M101_ b102_ o103_ g104_ d99_ => ?_)
        have f105_ : pvFr fp_eX6_becomeAs_104_105 M M101_ := pvfr_t g104_ fz90_ fp_eX6_becomeAs_104_105_fp_eX6_append_104_x_x
        obtain ⟨b106_, d107_⟩ := b102_
        subst d107_
        obtain ⟨q109_, b108_⟩ : (Int32.toInt (i2z90_ + 1) = Int32.toInt i2z90_ + 1) ∧ (1 ≤ Int32.toInt (i2z90_ + 1) ∧ Int32.toInt (i2z90_ + 1) ≤ 8) := zadd_k i2z90_ 1 1 1 8 b95_ (by decide) (by decide) (by decide) (by decide) (by decide)
        refine pw_blk hT 3 (S' := (7, [some (pvR 104), some (pvR 105), some (pvI (i2z90_ + 1))], [], M101_)) rfl ⟨trivial, trivial, trivial, trivial⟩ ?_
        have j110_ : M101_.1 104 0 = (i2z90_ + 1) := (by have z1 : Int32.toInt (Int32.ofNat 8) = 8 := (by decide); have z2 := pvok_r oz90_ 105 0 rfl; have z3 : Mz90_.1 105 0 = M.1 105 0 := fz90_ 105 0 rfl; have z4 := congrArg Int32.toInt z3; rw [d99_.2, j0z90_, if_pos ((zi_lt _ _).mpr (by omega))])
        have j111_ : Int32.toInt (i2z90_ + 1) ≤ Int32.toInt (M.1 105 0) := (by have z3 : Mz90_.1 105 0 = M.1 105 0 := fz90_ 105 0 rfl; have z4 := congrArg Int32.toInt z3; omega)
        have j112_ : zC1 112 113 (Int32.toNatClampNeg (i2z90_ + 1)) M M101_ := (zC1_n (znp1 b95_ (by decide) (by decide)) (zC1_ap j2z90_ d99_.1 j0z90_ (by have u := b95_; omega) (fz90_ 113 (Int32.toNatClampNeg i2z90_) rfl)))
        have j113_ : zC1 120 121 (Int32.toNatClampNeg (i2z90_ + 1)) M M101_ := (zC1_n (znp1 b95_ (by decide) (by decide)) (zC1_bp j3z90_ d99_.1 j0z90_ (by have u := b95_; omega) (fz90_ 121 (Int32.toNatClampNeg i2z90_) rfl)))
        exact ihz90_ (i2z90_ + 1) M101_ o103_ f105_ (zr_wide b108_ (by decide) (by decide)) j110_ j111_ j112_ j113_ (zhid (pvms_up (zshow hmz90_) h2z90_ q109_ (by decide) (by decide)))
  have u114_ : Int32.toInt 0 = 0 := by decide
  have j115_ : M3_.1 104 0 = 0 := d1_
  have j116_ : Int32.toInt 0 ≤ Int32.toInt (M.1 105 0) := (by have z := pvok_r hok 105 0 rfl; have u : Int32.toInt 0 = 0 := (by decide); omega)
  have j117_ : zC1 112 113 (Int32.toNatClampNeg 0) M M3_ := (zC1_0 112 113 M M3_)
  have j118_ : zC1 120 121 (Int32.toNatClampNeg 0) M M3_ := (zC1_0 120 121 M M3_)
  exact hlz90_ _ 0 M3_ o5_ f7_ (zr_wide (show 0 ≤ Int32.toInt 0 ∧ Int32.toInt 0 ≤ 0 from (by decide)) (by decide) (by decide)) j115_ j116_ j117_ j118_ (zhid (Nat.lt_succ_self _))
def fpL_eX4_becomeNew_60_x_x_x_x_x : List (Nat × Nat × Nat) := [(0, 60, 1), (0, 60, 2), (0, 60, 3), (0, 60, 4), (0, 60, 5), (0, 60, 6), (0, 67, 0)]
def fp_eX4_becomeNew_60_x_x_x_x_x (q k : Nat) : Bool := pvfp fpL_eX4_becomeNew_60_x_x_x_x_x q k
set_option maxHeartbeats 4000000 in
set_option maxRecDepth 10000 in
theorem se_X4_becomeNew_60_x_x_x_x_x (M : pvM) (hok : pvOk M) (n1 : Int32) (n2 : Int32) (n3 : Int32) (n4 : Int32) (n5 : Int32) (hn1 : 0 ≤ Int32.toInt n1 ∧ Int32.toInt n1 ≤ 6) (hn2 : 0 ≤ Int32.toInt n2 ∧ Int32.toInt n2 ≤ 9) (hn3 : 0 ≤ Int32.toInt n3 ∧ Int32.toInt n3 ≤ 3) (hn4 : 0 ≤ Int32.toInt n4 ∧ Int32.toInt n4 ≤ 4) (hn5 : 0 ≤ Int32.toInt n5 ∧ Int32.toInt n5 ≤ 9) (d : Nat) : PW 134 d (0, [some (pvR 60), some (pvI n1), some (pvI n2), some (pvI n3), some (pvI n4), some (pvI n5), none], [], M) (fun r X => r = none ∧ pvOk X ∧ pvFr fp_eX4_becomeNew_60_x_x_x_x_x M X ∧ X.1 60 0 = n1 ∧ X.1 60 1 = n2 ∧ X.1 60 2 = n3 ∧ X.1 60 3 = n4 ∧ X.1 60 4 = n5 ∧ X.1 67 0 = 0 ∧ X.1 67 1 = 0 ∧ X.1 67 2 = 0 ∧ X.1 67 3 = 0 ∧ X.1 60 5 = 0) := by
  have hT : pvdom 134 = pvD_134 := rfl
  refine pw_blkw hT 3 (pc := 5) (lo := [some (pvR 60), some (pvI n1), some (pvI n2), some (pvI n3), some (pvI n4), some (pvI n5), none]) (st := []) (M := pvu M 60 0 n1) rfl ⟨trivial, trivial, rfl, trivial⟩ (fun M1_ e2_ => ?_)
  have o3_ : pvOk M1_ := pvok_u2 e2_ hok rfl hn1
  have f4_ : pvFr fp_eX4_becomeNew_60_x_x_x_x_x M M1_ := pvfr_u e2_ pvfr_0 rfl
  refine pw_blkw hT 3 (pc := 10) (lo := [some (pvR 60), some (pvI n1), some (pvI n2), some (pvI n3), some (pvI n4), some (pvI n5), none]) (st := []) (M := pvu M1_ 60 1 n2) rfl ⟨trivial, trivial, rfl, trivial⟩ (fun M5_ e6_ => ?_)
  have o7_ : pvOk M5_ := pvok_u2 e6_ o3_ rfl hn2
  have f8_ : pvFr fp_eX4_becomeNew_60_x_x_x_x_x M M5_ := pvfr_u e6_ f4_ rfl
  refine pw_blkw hT 3 (pc := 15) (lo := [some (pvR 60), some (pvI n1), some (pvI n2), some (pvI n3), some (pvI n4), some (pvI n5), none]) (st := []) (M := pvu M5_ 60 2 n3) rfl ⟨trivial, trivial, rfl, trivial⟩ (fun M9_ e10_ => ?_)
  have o11_ : pvOk M9_ := pvok_u2 e10_ o7_ rfl hn3
  have f12_ : pvFr fp_eX4_becomeNew_60_x_x_x_x_x M M9_ := pvfr_u e10_ f8_ rfl
  refine pw_blkw hT 3 (pc := 21) (lo := [some (pvR 60), some (pvI n1), some (pvI n2), some (pvI n3), some (pvI n4), some (pvI n5), none]) (st := []) (M := pvu M9_ 60 3 n4) rfl ⟨trivial, trivial, rfl, trivial⟩ (fun M13_ e14_ => ?_)
  have o15_ : pvOk M13_ := pvok_u2 e14_ o11_ rfl hn4
  have f16_ : pvFr fp_eX4_becomeNew_60_x_x_x_x_x M M13_ := pvfr_u e14_ f12_ rfl
  refine pw_blkw hT 3 (pc := 27) (lo := [some (pvR 60), some (pvI n1), some (pvI n2), some (pvI n3), some (pvI n4), some (pvI n5), none]) (st := []) (M := pvu M13_ 60 4 n5) rfl ⟨trivial, trivial, rfl, trivial⟩ (fun M17_ e18_ => ?_)
  have o19_ : pvOk M17_ := pvok_u2 e18_ o15_ rfl hn5
  have f20_ : pvFr fp_eX4_becomeNew_60_x_x_x_x_x M M17_ := pvfr_u e18_ f16_ rfl
  refine pw_blkw hT 3 (pc := 32) (lo := [some (pvR 60), some (pvI n1), some (pvI n2), some (pvI n3), some (pvI n4), some (pvI n5), none]) (st := []) (M := pvu M17_ 60 5 0) rfl ⟨trivial, trivial, ⟨rfl, Or.inl rfl⟩, trivial⟩ (fun M21_ e22_ => ?_)
  have o23_ : pvOk M21_ := pvok_u2 e22_ o19_ rfl (zr_wide (show 0 ≤ Int32.toInt 0 ∧ Int32.toInt 0 ≤ 0 from (by decide)) (by decide) (by decide))
  have f24_ : pvFr fp_eX4_becomeNew_60_x_x_x_x_x M M21_ := pvfr_u e22_ f20_ rfl
  refine pw_blk hT 2 (S' := (35, [some (pvR 60), some (pvI n1), some (pvI n2), some (pvI n3), some (pvI n4), some (pvI n5), some (pvI 0)], [], M21_)) rfl ⟨trivial, trivial, trivial⟩ ?_
  refine pw_blk hT 2 (S' := (38, [some (pvR 60), some (pvI n1), some (pvI n2), some (pvI n3), some (pvI n4), some (pvI n5), some (pvI 0)], [pvI 4, pvI 0], M21_)) rfl ⟨trivial, trivial, trivial⟩ ?_
  refine pw_ic hT (c := 4 ≤ 0) rfl rfl (fun c25_ => absurd c25_ (by decide)) (fun c25_ => ?_)
  refine pw_blkw hT 5 (pc := 49) (lo := [some (pvR 60), some (pvI n1), some (pvI n2), some (pvI n3), some (pvI n4), some (pvI n5), some (pvI 0)]) (st := []) (M := pvu M21_ 67 0 0) rfl ⟨trivial, rfl, trivial, trivial, ⟨rfl, (zr_in (n := 4) (show 0 ≤ Int32.toInt 0 ∧ Int32.toInt 0 ≤ 0 from (by decide)) (by decide) (by decide))⟩, trivial⟩ (fun M26_ e27_ => ?_)
  have o28_ : pvOk M26_ := pvok_u2 e27_ o23_ rfl (zr_wide (show 0 ≤ Int32.toInt 0 ∧ Int32.toInt 0 ≤ 0 from (by decide)) (by decide) (by decide))
  have f29_ : pvFr fp_eX4_becomeNew_60_x_x_x_x_x M M26_ := pvfr_u e27_ f24_ rfl
  refine pw_blk hT 2 (S' := (35, [some (pvR 60), some (pvI n1), some (pvI n2), some (pvI n3), some (pvI n4), some (pvI n5), some (pvI (0 + 1))], [], M26_)) rfl ⟨trivial, trivial, trivial⟩ ?_
  refine pw_blk hT 2 (S' := (38, [some (pvR 60), some (pvI n1), some (pvI n2), some (pvI n3), some (pvI n4), some (pvI n5), some (pvI (0 + 1))], [pvI 4, pvI (0 + 1)], M26_)) rfl ⟨trivial, trivial, trivial⟩ ?_
  refine pw_ic hT (c := 4 ≤ (0 + 1)) rfl rfl (fun c30_ => absurd c30_ (by decide)) (fun c30_ => ?_)
  refine pw_blkw hT 5 (pc := 49) (lo := [some (pvR 60), some (pvI n1), some (pvI n2), some (pvI n3), some (pvI n4), some (pvI n5), some (pvI (0 + 1))]) (st := []) (M := pvu M26_ 67 1 0) rfl ⟨trivial, rfl, trivial, trivial, ⟨rfl, (zr_in (n := 4) (show 1 ≤ Int32.toInt (0 + 1) ∧ Int32.toInt (0 + 1) ≤ 1 from (by decide)) (by decide) (by decide))⟩, trivial⟩ (fun M31_ e32_ => ?_)
  have o33_ : pvOk M31_ := pvok_u2 e32_ o28_ rfl (zr_wide (show 0 ≤ Int32.toInt 0 ∧ Int32.toInt 0 ≤ 0 from (by decide)) (by decide) (by decide))
  have f34_ : pvFr fp_eX4_becomeNew_60_x_x_x_x_x M M31_ := pvfr_u e32_ f29_ rfl
  refine pw_blk hT 2 (S' := (35, [some (pvR 60), some (pvI n1), some (pvI n2), some (pvI n3), some (pvI n4), some (pvI n5), some (pvI ((0 + 1) + 1))], [], M31_)) rfl ⟨trivial, trivial, trivial⟩ ?_
  refine pw_blk hT 2 (S' := (38, [some (pvR 60), some (pvI n1), some (pvI n2), some (pvI n3), some (pvI n4), some (pvI n5), some (pvI ((0 + 1) + 1))], [pvI 4, pvI ((0 + 1) + 1)], M31_)) rfl ⟨trivial, trivial, trivial⟩ ?_
  refine pw_ic hT (c := 4 ≤ ((0 + 1) + 1)) rfl rfl (fun c35_ => absurd c35_ (by decide)) (fun c35_ => ?_)
  refine pw_blkw hT 5 (pc := 49) (lo := [some (pvR 60), some (pvI n1), some (pvI n2), some (pvI n3), some (pvI n4), some (pvI n5), some (pvI ((0 + 1) + 1))]) (st := []) (M := pvu M31_ 67 2 0) rfl ⟨trivial, rfl, trivial, trivial, ⟨rfl, (zr_in (n := 4) (show 2 ≤ Int32.toInt ((0 + 1) + 1) ∧ Int32.toInt ((0 + 1) + 1) ≤ 2 from (by decide)) (by decide) (by decide))⟩, trivial⟩ (fun M36_ e37_ => ?_)
  have o38_ : pvOk M36_ := pvok_u2 e37_ o33_ rfl (zr_wide (show 0 ≤ Int32.toInt 0 ∧ Int32.toInt 0 ≤ 0 from (by decide)) (by decide) (by decide))
  have f39_ : pvFr fp_eX4_becomeNew_60_x_x_x_x_x M M36_ := pvfr_u e37_ f34_ rfl
  refine pw_blk hT 2 (S' := (35, [some (pvR 60), some (pvI n1), some (pvI n2), some (pvI n3), some (pvI n4), some (pvI n5), some (pvI (((0 + 1) + 1) + 1))], [], M36_)) rfl ⟨trivial, trivial, trivial⟩ ?_
  refine pw_blk hT 2 (S' := (38, [some (pvR 60), some (pvI n1), some (pvI n2), some (pvI n3), some (pvI n4), some (pvI n5), some (pvI (((0 + 1) + 1) + 1))], [pvI 4, pvI (((0 + 1) + 1) + 1)], M36_)) rfl ⟨trivial, trivial, trivial⟩ ?_
  refine pw_ic hT (c := 4 ≤ (((0 + 1) + 1) + 1)) rfl rfl (fun c40_ => absurd c40_ (by decide)) (fun c40_ => ?_)
  refine pw_blkw hT 5 (pc := 49) (lo := [some (pvR 60), some (pvI n1), some (pvI n2), some (pvI n3), some (pvI n4), some (pvI n5), some (pvI (((0 + 1) + 1) + 1))]) (st := []) (M := pvu M36_ 67 3 0) rfl ⟨trivial, rfl, trivial, trivial, ⟨rfl, (zr_in (n := 4) (show 3 ≤ Int32.toInt (((0 + 1) + 1) + 1) ∧ Int32.toInt (((0 + 1) + 1) + 1) ≤ 3 from (by decide)) (by decide) (by decide))⟩, trivial⟩ (fun M41_ e42_ => ?_)
  have o43_ : pvOk M41_ := pvok_u2 e42_ o38_ rfl (zr_wide (show 0 ≤ Int32.toInt 0 ∧ Int32.toInt 0 ≤ 0 from (by decide)) (by decide) (by decide))
  have f44_ : pvFr fp_eX4_becomeNew_60_x_x_x_x_x M M41_ := pvfr_u e42_ f39_ rfl
  refine pw_blk hT 2 (S' := (35, [some (pvR 60), some (pvI n1), some (pvI n2), some (pvI n3), some (pvI n4), some (pvI n5), some (pvI ((((0 + 1) + 1) + 1) + 1))], [], M41_)) rfl ⟨trivial, trivial, trivial⟩ ?_
  refine pw_blk hT 2 (S' := (38, [some (pvR 60), some (pvI n1), some (pvI n2), some (pvI n3), some (pvI n4), some (pvI n5), some (pvI ((((0 + 1) + 1) + 1) + 1))], [pvI 4, pvI ((((0 + 1) + 1) + 1) + 1)], M41_)) rfl ⟨trivial, trivial, trivial⟩ ?_
  refine pw_ic hT (c := 4 ≤ ((((0 + 1) + 1) + 1) + 1)) rfl rfl (fun c45_ => ?_) (fun c45_ => absurd (by decide) c45_)
  exact pw_ret hT rfl (r := none) (M' := M41_) ⟨rfl, rfl⟩ ⟨rfl, o43_, f44_, ((((((((((pvu_n e42_ 60 0 (Or.inl (by decide))).trans (pvu_n e37_ 60 0 (Or.inl (by decide)))).trans (pvu_n e32_ 60 0 (Or.inl (by decide)))).trans (pvu_n e27_ 60 0 (Or.inl (by decide)))).trans (pvu_n e22_ 60 0 (Or.inr (by decide)))).trans (pvu_n e18_ 60 0 (Or.inr (by decide)))).trans (pvu_n e14_ 60 0 (Or.inr (by decide)))).trans (pvu_n e10_ 60 0 (Or.inr (by decide)))).trans (pvu_n e6_ 60 0 (Or.inr (by decide)))).trans (pvu_s e2_)), (((((((((pvu_n e42_ 60 1 (Or.inl (by decide))).trans (pvu_n e37_ 60 1 (Or.inl (by decide)))).trans (pvu_n e32_ 60 1 (Or.inl (by decide)))).trans (pvu_n e27_ 60 1 (Or.inl (by decide)))).trans (pvu_n e22_ 60 1 (Or.inr (by decide)))).trans (pvu_n e18_ 60 1 (Or.inr (by decide)))).trans (pvu_n e14_ 60 1 (Or.inr (by decide)))).trans (pvu_n e10_ 60 1 (Or.inr (by decide)))).trans (pvu_s e6_)), ((((((((pvu_n e42_ 60 2 (Or.inl (by decide))).trans (pvu_n e37_ 60 2 (Or.inl (by decide)))).trans (pvu_n e32_ 60 2 (Or.inl (by decide)))).trans (pvu_n e27_ 60 2 (Or.inl (by decide)))).trans (pvu_n e22_ 60 2 (Or.inr (by decide)))).trans (pvu_n e18_ 60 2 (Or.inr (by decide)))).trans (pvu_n e14_ 60 2 (Or.inr (by decide)))).trans (pvu_s e10_)), (((((((pvu_n e42_ 60 3 (Or.inl (by decide))).trans (pvu_n e37_ 60 3 (Or.inl (by decide)))).trans (pvu_n e32_ 60 3 (Or.inl (by decide)))).trans (pvu_n e27_ 60 3 (Or.inl (by decide)))).trans (pvu_n e22_ 60 3 (Or.inr (by decide)))).trans (pvu_n e18_ 60 3 (Or.inr (by decide)))).trans (pvu_s e14_)), ((((((pvu_n e42_ 60 4 (Or.inl (by decide))).trans (pvu_n e37_ 60 4 (Or.inl (by decide)))).trans (pvu_n e32_ 60 4 (Or.inl (by decide)))).trans (pvu_n e27_ 60 4 (Or.inl (by decide)))).trans (pvu_n e22_ 60 4 (Or.inr (by decide)))).trans (pvu_s e18_)), ((((pvu_n e42_ 67 0 (Or.inr (by decide))).trans (pvu_n e37_ 67 0 (Or.inr (by decide)))).trans (pvu_n e32_ 67 0 (Or.inr (by decide)))).trans (pvu_s e27_)), (((pvu_n e42_ 67 1 (Or.inr (by decide))).trans (pvu_n e37_ 67 1 (Or.inr (by decide)))).trans (pvu_s e32_)), ((pvu_n e42_ 67 2 (Or.inr (by decide))).trans (pvu_s e37_)), (pvu_s e42_), (((((pvu_n e42_ 60 5 (Or.inl (by decide))).trans (pvu_n e37_ 60 5 (Or.inl (by decide)))).trans (pvu_n e32_ 60 5 (Or.inl (by decide)))).trans (pvu_n e27_ 60 5 (Or.inl (by decide)))).trans (pvu_s e22_))⟩
def fpL_eX4_becomeAs_60_74 : List (Nat × Nat × Nat) := [(0, 60, 1), (0, 60, 2), (0, 60, 3), (0, 60, 4), (0, 60, 5), (0, 60, 6), (0, 67, 0)]
def fp_eX4_becomeAs_60_74 (q k : Nat) : Bool := pvfp fpL_eX4_becomeAs_60_74 q k
theorem fp_eX4_becomeAs_60_74_fp_eX4_becomeNew_60_x_x_x_x_x (a b : Nat) (h : fp_eX4_becomeNew_60_x_x_x_x_x a b = true) : fp_eX4_becomeAs_60_74 a b = true := pvfp_sub (l1 := fpL_eX4_becomeNew_60_x_x_x_x_x) (l2 := fpL_eX4_becomeAs_60_74) (by decide) a b h
set_option maxHeartbeats 4000000 in
set_option maxRecDepth 10000 in
theorem se_X4_becomeAs_60_74 (M : pvM) (hok : pvOk M) (d : Nat) : PW 133 d (0, [some (pvR 60), some (pvR 74)], [], M) (fun r X => r = none ∧ pvOk X ∧ pvFr fp_eX4_becomeAs_60_74 M X ∧ X.1 60 0 = (M.1 74 0) ∧ X.1 60 1 = (M.1 74 1) ∧ X.1 60 2 = (M.1 74 2) ∧ X.1 60 3 = (M.1 74 3) ∧ X.1 60 4 = (M.1 74 4) ∧ X.1 67 0 = (M.1 81 0) ∧ X.1 67 1 = (M.1 81 1) ∧ X.1 67 2 = (M.1 81 2) ∧ X.1 67 3 = (M.1 81 3) ∧ X.1 60 5 = (M.1 74 5)) := by
  have hT : pvdom 133 = pvD_133 := rfl
  have b1_ : 0 ≤ Int32.toInt (M.1 74 0) ∧ Int32.toInt (M.1 74 0) ≤ 6 := pvok_r hok 74 0 rfl
  have b2_ : 0 ≤ Int32.toInt (M.1 74 1) ∧ Int32.toInt (M.1 74 1) ≤ 9 := pvok_r hok 74 1 rfl
  have b3_ : 0 ≤ Int32.toInt (M.1 74 2) ∧ Int32.toInt (M.1 74 2) ≤ 3 := pvok_r hok 74 2 rfl
  have b4_ : 0 ≤ Int32.toInt (M.1 74 3) ∧ Int32.toInt (M.1 74 3) ≤ 4 := pvok_r hok 74 3 rfl
  have b5_ : 0 ≤ Int32.toInt (M.1 74 4) ∧ Int32.toInt (M.1 74 4) ≤ 9 := pvok_r hok 74 4 rfl
  refine pw_blk hT 11 (S' := (21, [some (pvR 60), some (pvR 74)], [pvI (M.1 74 4), pvI (M.1 74 3), pvI (M.1 74 2), pvI (M.1 74 1), pvI (M.1 74 0), pvR 60], M)) rfl ⟨trivial, trivial, rfl, trivial, rfl, trivial, rfl, trivial, rfl, trivial, rfl, trivial⟩ ?_
  refine pw_callVd hT (as := [pvR 60, pvI (M.1 74 0), pvI (M.1 74 1), pvI (M.1 74 2), pvI (M.1 74 3), pvI (M.1 74 4)]) (lo1 := [some (pvR 60), some (pvI (M.1 74 0)), some (pvI (M.1 74 1)), some (pvI (M.1 74 2)), some (pvI (M.1 74 3)), some (pvI (M.1 74 4)), none]) (d1 := d) (rest := []) rfl rfl rfl rfl rfl (fun _ => rfl) (Nat.zero_le _) rfl rfl rfl (se_X4_becomeNew_60_x_x_x_x_x M hok (M.1 74 0) (M.1 74 1) (M.1 74 2) (M.1 74 3) (M.1 74 4) b1_ b2_ b3_ b4_ b5_ d) (fun M8_ o10_ g11_ d6_ => ?_)
  have f12_ : pvFr fp_eX4_becomeAs_60_74 M M8_ := pvfr_t g11_ pvfr_0 fp_eX4_becomeAs_60_74_fp_eX4_becomeNew_60_x_x_x_x_x
  have b13_ : 0 ≤ Int32.toInt (M8_.1 74 5) ∧ Int32.toInt (M8_.1 74 5) ≤ 1 := pvok_r o10_ 74 5 rfl
  refine pw_blkw hT 4 (pc := 32) (lo := [some (pvR 60), some (pvR 74)]) (st := []) (M := pvu M8_ 60 5 (M8_.1 74 5)) rfl ⟨trivial, trivial, rfl, ⟨rfl, pv01 b13_⟩, trivial⟩ (fun M14_ e15_ => ?_)
  have o16_ : pvOk M14_ := pvok_u2 e15_ o10_ rfl b13_
  have f17_ : pvFr fp_eX4_becomeAs_60_74 M M14_ := pvfr_u e15_ f12_ rfl
  refine pw_blkw hT 8 (pc := 46) (lo := [some (pvR 60), some (pvR 74)]) (st := []) (M := pvr M14_ 67 (va_cpy (M14_.1 81) (M14_.1 67) (Int32.toNatClampNeg 0) (Int32.toNatClampNeg 0) (Int32.toNatClampNeg 4))) rfl ⟨trivial, rfl, trivial, trivial, rfl, trivial, trivial, ⟨rfl, rfl, (pvnneg (b := 0) (show 0 ≤ Int32.toInt 0 ∧ Int32.toInt 0 ≤ 0 from (by decide))), (pvnneg (b := 0) (show 0 ≤ Int32.toInt 0 ∧ Int32.toInt 0 ≤ 0 from (by decide))), (pvnneg (b := 4) (zr_wide (show 4 ≤ Int32.toInt 4 ∧ Int32.toInt 4 ≤ 4 from (by decide)) (by decide) (by decide))), (show _ ≤ 4 from (by have u0 := (show 0 ≤ Int32.toInt 0 ∧ Int32.toInt 0 ≤ 0 from (by decide)); have u1 := (show 4 ≤ Int32.toInt 4 ∧ Int32.toInt 4 ≤ 4 from (by decide)); have u2 := ztn 0 (by omega); have u3 := ztn 4 (by omega); omega)), (show _ ≤ 4 from (by have u0 := (show 0 ≤ Int32.toInt 0 ∧ Int32.toInt 0 ≤ 0 from (by decide)); have u1 := (show 4 ≤ Int32.toInt 4 ∧ Int32.toInt 4 ≤ 4 from (by decide)); have u2 := ztn 0 (by omega); have u3 := ztn 4 (by omega); omega)), Nat.le_of_ble_eq_true rfl⟩, trivial⟩ (fun M18_ e19_ => ?_)
  have o20_ : pvOk M18_ := pvok_rr e19_ o16_ (fun _ => rfl) (pvcpy_r (fun k => pvok_r o16_ 81 k rfl) (fun k => pvok_r o16_ 67 k rfl))
  have f21_ : pvFr fp_eX4_becomeAs_60_74 M M18_ := pvfr_rr e19_ f17_ (fun _ => rfl)
  exact pw_ret hT rfl (r := none) (M' := M18_) ⟨rfl, rfl⟩ ⟨rfl, o20_, f21_, (((show M18_.1 60 0 = M14_.1 60 0 from by rw [e19_]; rfl).trans (pvu_n e15_ 60 0 (Or.inr (by decide)))).trans (d6_.1)), (((show M18_.1 60 1 = M14_.1 60 1 from by rw [e19_]; rfl).trans (pvu_n e15_ 60 1 (Or.inr (by decide)))).trans (d6_.2.1)), (((show M18_.1 60 2 = M14_.1 60 2 from by rw [e19_]; rfl).trans (pvu_n e15_ 60 2 (Or.inr (by decide)))).trans (d6_.2.2.1)), (((show M18_.1 60 3 = M14_.1 60 3 from by rw [e19_]; rfl).trans (pvu_n e15_ 60 3 (Or.inr (by decide)))).trans (d6_.2.2.2.1)), (((show M18_.1 60 4 = M14_.1 60 4 from by rw [e19_]; rfl).trans (pvu_n e15_ 60 4 (Or.inr (by decide)))).trans (d6_.2.2.2.2.1)), ((show M18_.1 67 0 = (M14_.1 81 0) from by rw [e19_]; rfl).trans ((pvu_n e15_ 81 0 (Or.inl (by decide))).trans (g11_ 81 0 rfl))), ((show M18_.1 67 1 = (M14_.1 81 1) from by rw [e19_]; rfl).trans ((pvu_n e15_ 81 1 (Or.inl (by decide))).trans (g11_ 81 1 rfl))), ((show M18_.1 67 2 = (M14_.1 81 2) from by rw [e19_]; rfl).trans ((pvu_n e15_ 81 2 (Or.inl (by decide))).trans (g11_ 81 2 rfl))), ((show M18_.1 67 3 = (M14_.1 81 3) from by rw [e19_]; rfl).trans ((pvu_n e15_ 81 3 (Or.inl (by decide))).trans (g11_ 81 3 rfl))), (((show M18_.1 60 5 = M14_.1 60 5 from by rw [e19_]; rfl).trans (pvu_s e15_)).trans (g11_ 74 5 rfl))⟩
def fpL_eX4_becomeNew_61_x_x_x_x_x : List (Nat × Nat × Nat) := [(0, 61, 1), (0, 61, 2), (0, 61, 3), (0, 61, 4), (0, 61, 5), (0, 61, 6), (0, 68, 0)]
def fp_eX4_becomeNew_61_x_x_x_x_x (q k : Nat) : Bool := pvfp fpL_eX4_becomeNew_61_x_x_x_x_x q k
set_option maxHeartbeats 4000000 in
set_option maxRecDepth 10000 in
theorem se_X4_becomeNew_61_x_x_x_x_x (M : pvM) (hok : pvOk M) (n1 : Int32) (n2 : Int32) (n3 : Int32) (n4 : Int32) (n5 : Int32) (hn1 : 0 ≤ Int32.toInt n1 ∧ Int32.toInt n1 ≤ 6) (hn2 : 0 ≤ Int32.toInt n2 ∧ Int32.toInt n2 ≤ 9) (hn3 : 0 ≤ Int32.toInt n3 ∧ Int32.toInt n3 ≤ 3) (hn4 : 0 ≤ Int32.toInt n4 ∧ Int32.toInt n4 ≤ 4) (hn5 : 0 ≤ Int32.toInt n5 ∧ Int32.toInt n5 ≤ 9) (d : Nat) : PW 134 d (0, [some (pvR 61), some (pvI n1), some (pvI n2), some (pvI n3), some (pvI n4), some (pvI n5), none], [], M) (fun r X => r = none ∧ pvOk X ∧ pvFr fp_eX4_becomeNew_61_x_x_x_x_x M X ∧ X.1 61 0 = n1 ∧ X.1 61 1 = n2 ∧ X.1 61 2 = n3 ∧ X.1 61 3 = n4 ∧ X.1 61 4 = n5 ∧ X.1 68 0 = 0 ∧ X.1 68 1 = 0 ∧ X.1 68 2 = 0 ∧ X.1 68 3 = 0 ∧ X.1 61 5 = 0) := by
  have hT : pvdom 134 = pvD_134 := rfl
  refine pw_blkw hT 3 (pc := 5) (lo := [some (pvR 61), some (pvI n1), some (pvI n2), some (pvI n3), some (pvI n4), some (pvI n5), none]) (st := []) (M := pvu M 61 0 n1) rfl ⟨trivial, trivial, rfl, trivial⟩ (fun M1_ e2_ => ?_)
  have o3_ : pvOk M1_ := pvok_u2 e2_ hok rfl hn1
  have f4_ : pvFr fp_eX4_becomeNew_61_x_x_x_x_x M M1_ := pvfr_u e2_ pvfr_0 rfl
  refine pw_blkw hT 3 (pc := 10) (lo := [some (pvR 61), some (pvI n1), some (pvI n2), some (pvI n3), some (pvI n4), some (pvI n5), none]) (st := []) (M := pvu M1_ 61 1 n2) rfl ⟨trivial, trivial, rfl, trivial⟩ (fun M5_ e6_ => ?_)
  have o7_ : pvOk M5_ := pvok_u2 e6_ o3_ rfl hn2
  have f8_ : pvFr fp_eX4_becomeNew_61_x_x_x_x_x M M5_ := pvfr_u e6_ f4_ rfl
  refine pw_blkw hT 3 (pc := 15) (lo := [some (pvR 61), some (pvI n1), some (pvI n2), some (pvI n3), some (pvI n4), some (pvI n5), none]) (st := []) (M := pvu M5_ 61 2 n3) rfl ⟨trivial, trivial, rfl, trivial⟩ (fun M9_ e10_ => ?_)
  have o11_ : pvOk M9_ := pvok_u2 e10_ o7_ rfl hn3
  have f12_ : pvFr fp_eX4_becomeNew_61_x_x_x_x_x M M9_ := pvfr_u e10_ f8_ rfl
  refine pw_blkw hT 3 (pc := 21) (lo := [some (pvR 61), some (pvI n1), some (pvI n2), some (pvI n3), some (pvI n4), some (pvI n5), none]) (st := []) (M := pvu M9_ 61 3 n4) rfl ⟨trivial, trivial, rfl, trivial⟩ (fun M13_ e14_ => ?_)
  have o15_ : pvOk M13_ := pvok_u2 e14_ o11_ rfl hn4
  have f16_ : pvFr fp_eX4_becomeNew_61_x_x_x_x_x M M13_ := pvfr_u e14_ f12_ rfl
  refine pw_blkw hT 3 (pc := 27) (lo := [some (pvR 61), some (pvI n1), some (pvI n2), some (pvI n3), some (pvI n4), some (pvI n5), none]) (st := []) (M := pvu M13_ 61 4 n5) rfl ⟨trivial, trivial, rfl, trivial⟩ (fun M17_ e18_ => ?_)
  have o19_ : pvOk M17_ := pvok_u2 e18_ o15_ rfl hn5
  have f20_ : pvFr fp_eX4_becomeNew_61_x_x_x_x_x M M17_ := pvfr_u e18_ f16_ rfl
  refine pw_blkw hT 3 (pc := 32) (lo := [some (pvR 61), some (pvI n1), some (pvI n2), some (pvI n3), some (pvI n4), some (pvI n5), none]) (st := []) (M := pvu M17_ 61 5 0) rfl ⟨trivial, trivial, ⟨rfl, Or.inl rfl⟩, trivial⟩ (fun M21_ e22_ => ?_)
  have o23_ : pvOk M21_ := pvok_u2 e22_ o19_ rfl (zr_wide (show 0 ≤ Int32.toInt 0 ∧ Int32.toInt 0 ≤ 0 from (by decide)) (by decide) (by decide))
  have f24_ : pvFr fp_eX4_becomeNew_61_x_x_x_x_x M M21_ := pvfr_u e22_ f20_ rfl
  refine pw_blk hT 2 (S' := (35, [some (pvR 61), some (pvI n1), some (pvI n2), some (pvI n3), some (pvI n4), some (pvI n5), some (pvI 0)], [], M21_)) rfl ⟨trivial, trivial, trivial⟩ ?_
  refine pw_blk hT 2 (S' := (38, [some (pvR 61), some (pvI n1), some (pvI n2), some (pvI n3), some (pvI n4), some (pvI n5), some (pvI 0)], [pvI 4, pvI 0], M21_)) rfl ⟨trivial, trivial, trivial⟩ ?_
  refine pw_ic hT (c := 4 ≤ 0) rfl rfl (fun c25_ => absurd c25_ (by decide)) (fun c25_ => ?_)
  refine pw_blkw hT 5 (pc := 49) (lo := [some (pvR 61), some (pvI n1), some (pvI n2), some (pvI n3), some (pvI n4), some (pvI n5), some (pvI 0)]) (st := []) (M := pvu M21_ 68 0 0) rfl ⟨trivial, rfl, trivial, trivial, ⟨rfl, (zr_in (n := 4) (show 0 ≤ Int32.toInt 0 ∧ Int32.toInt 0 ≤ 0 from (by decide)) (by decide) (by decide))⟩, trivial⟩ (fun M26_ e27_ => ?_)
  have o28_ : pvOk M26_ := pvok_u2 e27_ o23_ rfl (zr_wide (show 0 ≤ Int32.toInt 0 ∧ Int32.toInt 0 ≤ 0 from (by decide)) (by decide) (by decide))
  have f29_ : pvFr fp_eX4_becomeNew_61_x_x_x_x_x M M26_ := pvfr_u e27_ f24_ rfl
  refine pw_blk hT 2 (S' := (35, [some (pvR 61), some (pvI n1), some (pvI n2), some (pvI n3), some (pvI n4), some (pvI n5), some (pvI (0 + 1))], [], M26_)) rfl ⟨trivial, trivial, trivial⟩ ?_
  refine pw_blk hT 2 (S' := (38, [some (pvR 61), some (pvI n1), some (pvI n2), some (pvI n3), some (pvI n4), some (pvI n5), some (pvI (0 + 1))], [pvI 4, pvI (0 + 1)], M26_)) rfl ⟨trivial, trivial, trivial⟩ ?_
  refine pw_ic hT (c := 4 ≤ (0 + 1)) rfl rfl (fun c30_ => absurd c30_ (by decide)) (fun c30_ => ?_)
  refine pw_blkw hT 5 (pc := 49) (lo := [some (pvR 61), some (pvI n1), some (pvI n2), some (pvI n3), some (pvI n4), some (pvI n5), some (pvI (0 + 1))]) (st := []) (M := pvu M26_ 68 1 0) rfl ⟨trivial, rfl, trivial, trivial, ⟨rfl, (zr_in (n := 4) (show 1 ≤ Int32.toInt (0 + 1) ∧ Int32.toInt (0 + 1) ≤ 1 from (by decide)) (by decide) (by decide))⟩, trivial⟩ (fun M31_ e32_ => ?_)
  have o33_ : pvOk M31_ := pvok_u2 e32_ o28_ rfl (zr_wide (show 0 ≤ Int32.toInt 0 ∧ Int32.toInt 0 ≤ 0 from (by decide)) (by decide) (by decide))
  have f34_ : pvFr fp_eX4_becomeNew_61_x_x_x_x_x M M31_ := pvfr_u e32_ f29_ rfl
  refine pw_blk hT 2 (S' := (35, [some (pvR 61), some (pvI n1), some (pvI n2), some (pvI n3), some (pvI n4), some (pvI n5), some (pvI ((0 + 1) + 1))], [], M31_)) rfl ⟨trivial, trivial, trivial⟩ ?_
  refine pw_blk hT 2 (S' := (38, [some (pvR 61), some (pvI n1), some (pvI n2), some (pvI n3), some (pvI n4), some (pvI n5), some (pvI ((0 + 1) + 1))], [pvI 4, pvI ((0 + 1) + 1)], M31_)) rfl ⟨trivial, trivial, trivial⟩ ?_
  refine pw_ic hT (c := 4 ≤ ((0 + 1) + 1)) rfl rfl (fun c35_ => absurd c35_ (by decide)) (fun c35_ => ?_)
  refine pw_blkw hT 5 (pc := 49) (lo := [some (pvR 61), some (pvI n1), some (pvI n2), some (pvI n3), some (pvI n4), some (pvI n5), some (pvI ((0 + 1) + 1))]) (st := []) (M := pvu M31_ 68 2 0) rfl ⟨trivial, rfl, trivial, trivial, ⟨rfl, (zr_in (n := 4) (show 2 ≤ Int32.toInt ((0 + 1) + 1) ∧ Int32.toInt ((0 + 1) + 1) ≤ 2 from (by decide)) (by decide) (by decide))⟩, trivial⟩ (fun M36_ e37_ => ?_)
  have o38_ : pvOk M36_ := pvok_u2 e37_ o33_ rfl (zr_wide (show 0 ≤ Int32.toInt 0 ∧ Int32.toInt 0 ≤ 0 from (by decide)) (by decide) (by decide))
  have f39_ : pvFr fp_eX4_becomeNew_61_x_x_x_x_x M M36_ := pvfr_u e37_ f34_ rfl
  refine pw_blk hT 2 (S' := (35, [some (pvR 61), some (pvI n1), some (pvI n2), some (pvI n3), some (pvI n4), some (pvI n5), some (pvI (((0 + 1) + 1) + 1))], [], M36_)) rfl ⟨trivial, trivial, trivial⟩ ?_
  refine pw_blk hT 2 (S' := (38, [some (pvR 61), some (pvI n1), some (pvI n2), some (pvI n3), some (pvI n4), some (pvI n5), some (pvI (((0 + 1) + 1) + 1))], [pvI 4, pvI (((0 + 1) + 1) + 1)], M36_)) rfl ⟨trivial, trivial, trivial⟩ ?_
  refine pw_ic hT (c := 4 ≤ (((0 + 1) + 1) + 1)) rfl rfl (fun c40_ => absurd c40_ (by decide)) (fun c40_ => ?_)
  refine pw_blkw hT 5 (pc := 49) (lo := [some (pvR 61), some (pvI n1), some (pvI n2), some (pvI n3), some (pvI n4), some (pvI n5), some (pvI (((0 + 1) + 1) + 1))]) (st := []) (M := pvu M36_ 68 3 0) rfl ⟨trivial, rfl, trivial, trivial, ⟨rfl, (zr_in (n := 4) (show 3 ≤ Int32.toInt (((0 + 1) + 1) + 1) ∧ Int32.toInt (((0 + 1) + 1) + 1) ≤ 3 from (by decide)) (by decide) (by decide))⟩, trivial⟩ (fun M41_ e42_ => ?_)
  have o43_ : pvOk M41_ := pvok_u2 e42_ o38_ rfl (zr_wide (show 0 ≤ Int32.toInt 0 ∧ Int32.toInt 0 ≤ 0 from (by decide)) (by decide) (by decide))
  have f44_ : pvFr fp_eX4_becomeNew_61_x_x_x_x_x M M41_ := pvfr_u e42_ f39_ rfl
  refine pw_blk hT 2 (S' := (35, [some (pvR 61), some (pvI n1), some (pvI n2), some (pvI n3), some (pvI n4), some (pvI n5), some (pvI ((((0 + 1) + 1) + 1) + 1))], [], M41_)) rfl ⟨trivial, trivial, trivial⟩ ?_
  refine pw_blk hT 2 (S' := (38, [some (pvR 61), some (pvI n1), some (pvI n2), some (pvI n3), some (pvI n4), some (pvI n5), some (pvI ((((0 + 1) + 1) + 1) + 1))], [pvI 4, pvI ((((0 + 1) + 1) + 1) + 1)], M41_)) rfl ⟨trivial, trivial, trivial⟩ ?_
  refine pw_ic hT (c := 4 ≤ ((((0 + 1) + 1) + 1) + 1)) rfl rfl (fun c45_ => ?_) (fun c45_ => absurd (by decide) c45_)
  exact pw_ret hT rfl (r := none) (M' := M41_) ⟨rfl, rfl⟩ ⟨rfl, o43_, f44_, ((((((((((pvu_n e42_ 61 0 (Or.inl (by decide))).trans (pvu_n e37_ 61 0 (Or.inl (by decide)))).trans (pvu_n e32_ 61 0 (Or.inl (by decide)))).trans (pvu_n e27_ 61 0 (Or.inl (by decide)))).trans (pvu_n e22_ 61 0 (Or.inr (by decide)))).trans (pvu_n e18_ 61 0 (Or.inr (by decide)))).trans (pvu_n e14_ 61 0 (Or.inr (by decide)))).trans (pvu_n e10_ 61 0 (Or.inr (by decide)))).trans (pvu_n e6_ 61 0 (Or.inr (by decide)))).trans (pvu_s e2_)), (((((((((pvu_n e42_ 61 1 (Or.inl (by decide))).trans (pvu_n e37_ 61 1 (Or.inl (by decide)))).trans (pvu_n e32_ 61 1 (Or.inl (by decide)))).trans (pvu_n e27_ 61 1 (Or.inl (by decide)))).trans (pvu_n e22_ 61 1 (Or.inr (by decide)))).trans (pvu_n e18_ 61 1 (Or.inr (by decide)))).trans (pvu_n e14_ 61 1 (Or.inr (by decide)))).trans (pvu_n e10_ 61 1 (Or.inr (by decide)))).trans (pvu_s e6_)), ((((((((pvu_n e42_ 61 2 (Or.inl (by decide))).trans (pvu_n e37_ 61 2 (Or.inl (by decide)))).trans (pvu_n e32_ 61 2 (Or.inl (by decide)))).trans (pvu_n e27_ 61 2 (Or.inl (by decide)))).trans (pvu_n e22_ 61 2 (Or.inr (by decide)))).trans (pvu_n e18_ 61 2 (Or.inr (by decide)))).trans (pvu_n e14_ 61 2 (Or.inr (by decide)))).trans (pvu_s e10_)), (((((((pvu_n e42_ 61 3 (Or.inl (by decide))).trans (pvu_n e37_ 61 3 (Or.inl (by decide)))).trans (pvu_n e32_ 61 3 (Or.inl (by decide)))).trans (pvu_n e27_ 61 3 (Or.inl (by decide)))).trans (pvu_n e22_ 61 3 (Or.inr (by decide)))).trans (pvu_n e18_ 61 3 (Or.inr (by decide)))).trans (pvu_s e14_)), ((((((pvu_n e42_ 61 4 (Or.inl (by decide))).trans (pvu_n e37_ 61 4 (Or.inl (by decide)))).trans (pvu_n e32_ 61 4 (Or.inl (by decide)))).trans (pvu_n e27_ 61 4 (Or.inl (by decide)))).trans (pvu_n e22_ 61 4 (Or.inr (by decide)))).trans (pvu_s e18_)), ((((pvu_n e42_ 68 0 (Or.inr (by decide))).trans (pvu_n e37_ 68 0 (Or.inr (by decide)))).trans (pvu_n e32_ 68 0 (Or.inr (by decide)))).trans (pvu_s e27_)), (((pvu_n e42_ 68 1 (Or.inr (by decide))).trans (pvu_n e37_ 68 1 (Or.inr (by decide)))).trans (pvu_s e32_)), ((pvu_n e42_ 68 2 (Or.inr (by decide))).trans (pvu_s e37_)), (pvu_s e42_), (((((pvu_n e42_ 61 5 (Or.inl (by decide))).trans (pvu_n e37_ 61 5 (Or.inl (by decide)))).trans (pvu_n e32_ 61 5 (Or.inl (by decide)))).trans (pvu_n e27_ 61 5 (Or.inl (by decide)))).trans (pvu_s e22_))⟩
def fpL_eX4_becomeAs_61_75 : List (Nat × Nat × Nat) := [(0, 61, 1), (0, 61, 2), (0, 61, 3), (0, 61, 4), (0, 61, 5), (0, 61, 6), (0, 68, 0)]
def fp_eX4_becomeAs_61_75 (q k : Nat) : Bool := pvfp fpL_eX4_becomeAs_61_75 q k
theorem fp_eX4_becomeAs_61_75_fp_eX4_becomeNew_61_x_x_x_x_x (a b : Nat) (h : fp_eX4_becomeNew_61_x_x_x_x_x a b = true) : fp_eX4_becomeAs_61_75 a b = true := pvfp_sub (l1 := fpL_eX4_becomeNew_61_x_x_x_x_x) (l2 := fpL_eX4_becomeAs_61_75) (by decide) a b h
set_option maxHeartbeats 4000000 in
set_option maxRecDepth 10000 in
theorem se_X4_becomeAs_61_75 (M : pvM) (hok : pvOk M) (d : Nat) : PW 133 d (0, [some (pvR 61), some (pvR 75)], [], M) (fun r X => r = none ∧ pvOk X ∧ pvFr fp_eX4_becomeAs_61_75 M X ∧ X.1 61 0 = (M.1 75 0) ∧ X.1 61 1 = (M.1 75 1) ∧ X.1 61 2 = (M.1 75 2) ∧ X.1 61 3 = (M.1 75 3) ∧ X.1 61 4 = (M.1 75 4) ∧ X.1 68 0 = (M.1 82 0) ∧ X.1 68 1 = (M.1 82 1) ∧ X.1 68 2 = (M.1 82 2) ∧ X.1 68 3 = (M.1 82 3) ∧ X.1 61 5 = (M.1 75 5)) := by
  have hT : pvdom 133 = pvD_133 := rfl
  have b1_ : 0 ≤ Int32.toInt (M.1 75 0) ∧ Int32.toInt (M.1 75 0) ≤ 6 := pvok_r hok 75 0 rfl
  have b2_ : 0 ≤ Int32.toInt (M.1 75 1) ∧ Int32.toInt (M.1 75 1) ≤ 9 := pvok_r hok 75 1 rfl
  have b3_ : 0 ≤ Int32.toInt (M.1 75 2) ∧ Int32.toInt (M.1 75 2) ≤ 3 := pvok_r hok 75 2 rfl
  have b4_ : 0 ≤ Int32.toInt (M.1 75 3) ∧ Int32.toInt (M.1 75 3) ≤ 4 := pvok_r hok 75 3 rfl
  have b5_ : 0 ≤ Int32.toInt (M.1 75 4) ∧ Int32.toInt (M.1 75 4) ≤ 9 := pvok_r hok 75 4 rfl
  refine pw_blk hT 11 (S' := (21, [some (pvR 61), some (pvR 75)], [pvI (M.1 75 4), pvI (M.1 75 3), pvI (M.1 75 2), pvI (M.1 75 1), pvI (M.1 75 0), pvR 61], M)) rfl ⟨trivial, trivial, rfl, trivial, rfl, trivial, rfl, trivial, rfl, trivial, rfl, trivial⟩ ?_
  refine pw_callVd hT (as := [pvR 61, pvI (M.1 75 0), pvI (M.1 75 1), pvI (M.1 75 2), pvI (M.1 75 3), pvI (M.1 75 4)]) (lo1 := [some (pvR 61), some (pvI (M.1 75 0)), some (pvI (M.1 75 1)), some (pvI (M.1 75 2)), some (pvI (M.1 75 3)), some (pvI (M.1 75 4)), none]) (d1 := d) (rest := []) rfl rfl rfl rfl rfl (fun _ => rfl) (Nat.zero_le _) rfl rfl rfl (se_X4_becomeNew_61_x_x_x_x_x M hok (M.1 75 0) (M.1 75 1) (M.1 75 2) (M.1 75 3) (M.1 75 4) b1_ b2_ b3_ b4_ b5_ d) (fun M8_ o10_ g11_ d6_ => ?_)
  have f12_ : pvFr fp_eX4_becomeAs_61_75 M M8_ := pvfr_t g11_ pvfr_0 fp_eX4_becomeAs_61_75_fp_eX4_becomeNew_61_x_x_x_x_x
  have b13_ : 0 ≤ Int32.toInt (M8_.1 75 5) ∧ Int32.toInt (M8_.1 75 5) ≤ 1 := pvok_r o10_ 75 5 rfl
  refine pw_blkw hT 4 (pc := 32) (lo := [some (pvR 61), some (pvR 75)]) (st := []) (M := pvu M8_ 61 5 (M8_.1 75 5)) rfl ⟨trivial, trivial, rfl, ⟨rfl, pv01 b13_⟩, trivial⟩ (fun M14_ e15_ => ?_)
  have o16_ : pvOk M14_ := pvok_u2 e15_ o10_ rfl b13_
  have f17_ : pvFr fp_eX4_becomeAs_61_75 M M14_ := pvfr_u e15_ f12_ rfl
  refine pw_blkw hT 8 (pc := 46) (lo := [some (pvR 61), some (pvR 75)]) (st := []) (M := pvr M14_ 68 (va_cpy (M14_.1 82) (M14_.1 68) (Int32.toNatClampNeg 0) (Int32.toNatClampNeg 0) (Int32.toNatClampNeg 4))) rfl ⟨trivial, rfl, trivial, trivial, rfl, trivial, trivial, ⟨rfl, rfl, (pvnneg (b := 0) (show 0 ≤ Int32.toInt 0 ∧ Int32.toInt 0 ≤ 0 from (by decide))), (pvnneg (b := 0) (show 0 ≤ Int32.toInt 0 ∧ Int32.toInt 0 ≤ 0 from (by decide))), (pvnneg (b := 4) (zr_wide (show 4 ≤ Int32.toInt 4 ∧ Int32.toInt 4 ≤ 4 from (by decide)) (by decide) (by decide))), (show _ ≤ 4 from (by have u0 := (show 0 ≤ Int32.toInt 0 ∧ Int32.toInt 0 ≤ 0 from (by decide)); have u1 := (show 4 ≤ Int32.toInt 4 ∧ Int32.toInt 4 ≤ 4 from (by decide)); have u2 := ztn 0 (by omega); have u3 := ztn 4 (by omega); omega)), (show _ ≤ 4 from (by have u0 := (show 0 ≤ Int32.toInt 0 ∧ Int32.toInt 0 ≤ 0 from (by decide)); have u1 := (show 4 ≤ Int32.toInt 4 ∧ Int32.toInt 4 ≤ 4 from (by decide)); have u2 := ztn 0 (by omega); have u3 := ztn 4 (by omega); omega)), Nat.le_of_ble_eq_true rfl⟩, trivial⟩ (fun M18_ e19_ => ?_)
  have o20_ : pvOk M18_ := pvok_rr e19_ o16_ (fun _ => rfl) (pvcpy_r (fun k => pvok_r o16_ 82 k rfl) (fun k => pvok_r o16_ 68 k rfl))
  have f21_ : pvFr fp_eX4_becomeAs_61_75 M M18_ := pvfr_rr e19_ f17_ (fun _ => rfl)
  exact pw_ret hT rfl (r := none) (M' := M18_) ⟨rfl, rfl⟩ ⟨rfl, o20_, f21_, (((show M18_.1 61 0 = M14_.1 61 0 from by rw [e19_]; rfl).trans (pvu_n e15_ 61 0 (Or.inr (by decide)))).trans (d6_.1)), (((show M18_.1 61 1 = M14_.1 61 1 from by rw [e19_]; rfl).trans (pvu_n e15_ 61 1 (Or.inr (by decide)))).trans (d6_.2.1)), (((show M18_.1 61 2 = M14_.1 61 2 from by rw [e19_]; rfl).trans (pvu_n e15_ 61 2 (Or.inr (by decide)))).trans (d6_.2.2.1)), (((show M18_.1 61 3 = M14_.1 61 3 from by rw [e19_]; rfl).trans (pvu_n e15_ 61 3 (Or.inr (by decide)))).trans (d6_.2.2.2.1)), (((show M18_.1 61 4 = M14_.1 61 4 from by rw [e19_]; rfl).trans (pvu_n e15_ 61 4 (Or.inr (by decide)))).trans (d6_.2.2.2.2.1)), ((show M18_.1 68 0 = (M14_.1 82 0) from by rw [e19_]; rfl).trans ((pvu_n e15_ 82 0 (Or.inl (by decide))).trans (g11_ 82 0 rfl))), ((show M18_.1 68 1 = (M14_.1 82 1) from by rw [e19_]; rfl).trans ((pvu_n e15_ 82 1 (Or.inl (by decide))).trans (g11_ 82 1 rfl))), ((show M18_.1 68 2 = (M14_.1 82 2) from by rw [e19_]; rfl).trans ((pvu_n e15_ 82 2 (Or.inl (by decide))).trans (g11_ 82 2 rfl))), ((show M18_.1 68 3 = (M14_.1 82 3) from by rw [e19_]; rfl).trans ((pvu_n e15_ 82 3 (Or.inl (by decide))).trans (g11_ 82 3 rfl))), (((show M18_.1 61 5 = M14_.1 61 5 from by rw [e19_]; rfl).trans (pvu_s e15_)).trans (g11_ 75 5 rfl))⟩
