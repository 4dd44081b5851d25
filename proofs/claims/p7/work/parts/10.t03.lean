def fp_X10_best_124_x (q k : Nat) : Bool := (Nat.beq q 124 && Nat.beq k 32) || (Nat.beq q 124 && Nat.beq k 35) || Nat.beq q 141 || Nat.beq q 142 || Nat.beq q 143 || Nat.beq q 144 || Nat.beq q 146
theorem fp_X10_best_124_x_fp_X10_costOfPath_124_x (a b : Nat) (h : fp_X10_costOfPath_124_x a b = true) : fp_X10_best_124_x a b = true := by unfold fp_X10_costOfPath_124_x at h; unfold fp_X10_best_124_x; revert h; simp <;> omega
theorem fp_X10_best_124_x_fp_X10_layOrder_124_x_x (a b : Nat) (h : fp_X10_layOrder_124_x_x a b = true) : fp_X10_best_124_x a b = true := by unfold fp_X10_layOrder_124_x_x at h; unfold fp_X10_best_124_x; revert h; simp <;> omega
theorem fp_X10_best_124_x_fp_X10_layRain_124 (a b : Nat) (h : fp_X10_layRain_124 a b = true) : fp_X10_best_124_x a b = true := by unfold fp_X10_layRain_124 at h; unfold fp_X10_best_124_x; revert h; simp <;> omega
set_option maxHeartbeats 4000000 in
set_option maxRecDepth 10000 in
theorem sf_X10_best_124_x (M : pvM) (hok : pvOk M) (n1 : Int32) (d : Nat) : PW 10 d (0, [some (pvR 124), some (pvI n1), none, none, none, none, none], [], M) (fun r X => (∃ x : Int32, r = some (pvI x) ∧ (-9) ≤ Int32.toInt x ∧ Int32.toInt x ≤ 9000000) ∧ pvOk X ∧ pvFr fp_X10_best_124_x M X) := by
  have hT : pvdom 10 = pvD_10 := rfl
  refine pw_blk hT 4 (S' := (4, [some (pvR 124), some (pvI n1), none, none, none, none, none], [pvI 4, pvI (-1), pvI n1, pvR 124], M)) rfl ⟨trivial, trivial, trivial, trivial, trivial⟩ ?_
  refine pw_callT hT (as := [pvR 124, pvI n1, pvI (-1), pvI 4]) (lo1 := [some (pvR 124), some (pvI n1), some (pvI (-1)), some (pvI 4)]) (d1 := d) (rest := []) rfl rfl rfl rfl rfl (fun _ => rfl) (Nat.zero_le _) rfl rfl rfl (sf_X10_in_124_x_x_x M hok n1 (-1) 4 d) ?_
  by_cases c6_ : n1 < (-1)
  · refine pw_eqI (if_pos c6_) ?_
    have b7_ : (-2147483648) ≤ Int32.toInt n1 ∧ Int32.toInt n1 ≤ (-2) := zr_lt_l (-2) c6_ (zbnd n1) (show (-1) ≤ Int32.toInt (-1) ∧ Int32.toInt (-1) ≤ (-1) from (by decide)) (by decide)
    show PW 10 d (7, [some (pvR 124), some (pvI n1), none, none, none, none, none], [pvI 0], M) _
    refine pw_ifn hT (c := 0 = 0) rfl rfl (fun c8_ => absurd (by decide) c8_) (fun c8_ => ?_)
    refine pw_blk hT 1 (S' := (11, [some (pvR 124), some (pvI n1), none, none, none, none, none], [pvI (-1)], M)) rfl ⟨trivial, trivial⟩ ?_
    exact pw_ret hT rfl (r := some (pvI (-1))) (M' := M) ⟨rfl, rfl⟩ ⟨⟨_, rfl, (zr_wide (show (-1) ≤ Int32.toInt (-1) ∧ Int32.toInt (-1) ≤ (-1) from (by decide)) (by decide) (by decide))⟩, hok, pvfr_0⟩
  · refine pw_eqI (if_neg c6_) ?_
    have b9_ : (-1) ≤ Int32.toInt n1 ∧ Int32.toInt n1 ≤ 2147483647 := zr_nlt_l (-1) c6_ (zbnd n1) (show (-1) ≤ Int32.toInt (-1) ∧ Int32.toInt (-1) ≤ (-1) from (by decide)) (by decide)
    by_cases c10_ : 4 < n1
    · refine pw_eqI (if_pos c10_) ?_
      have b11_ : 5 ≤ Int32.toInt n1 ∧ Int32.toInt n1 ≤ 2147483647 := zr_lt_r 5 c10_ b9_ (show 4 ≤ Int32.toInt 4 ∧ Int32.toInt 4 ≤ 4 from (by decide)) (by decide)
      show PW 10 d (7, [some (pvR 124), some (pvI n1), none, none, none, none, none], [pvI 0], M) _
      refine pw_ifn hT (c := 0 = 0) rfl rfl (fun c12_ => absurd (by decide) c12_) (fun c12_ => ?_)
      refine pw_blk hT 1 (S' := (11, [some (pvR 124), some (pvI n1), none, none, none, none, none], [pvI (-1)], M)) rfl ⟨trivial, trivial⟩ ?_
      exact pw_ret hT rfl (r := some (pvI (-1))) (M' := M) ⟨rfl, rfl⟩ ⟨⟨_, rfl, (zr_wide (show (-1) ≤ Int32.toInt (-1) ∧ Int32.toInt (-1) ≤ (-1) from (by decide)) (by decide) (by decide))⟩, hok, pvfr_0⟩
    · refine pw_eqI (if_neg c10_) ?_
      have b13_ : (-1) ≤ Int32.toInt n1 ∧ Int32.toInt n1 ≤ 4 := zr_nlt_r 4 c10_ b9_ (show 4 ≤ Int32.toInt 4 ∧ Int32.toInt 4 ≤ 4 from (by decide)) (by decide)
      show PW 10 d (7, [some (pvR 124), some (pvI n1), none, none, none, none, none], [pvI 1], M) _
      refine pw_ifn hT (c := 1 = 0) rfl rfl (fun c14_ => ?_) (fun c14_ => absurd c14_ (by decide))
      refine pw_blk hT 1 (S' := (13, [some (pvR 124), some (pvI n1), none, none, none, none, none], [pvR 124], M)) rfl ⟨trivial, trivial⟩ ?_
      refine pw_callGp hT (as := [pvR 124]) (lo1 := [some (pvR 124), none, none]) (d1 := d) (rest := []) rfl rfl rfl rfl rfl (fun _ => rfl) (Nat.zero_le _) rfl rfl rfl (sf_X10_openSet_124 M hok d) (fun x15_ b17_ => ?_)
      refine pw_blkw hT 4 (pc := 22) (lo := [some (pvR 124), some (pvI n1), some (pvI x15_), none, none, none, none]) (st := []) (M := pvu M 124 35 0) rfl ⟨trivial, trivial, trivial, rfl, trivial⟩ (fun M20_ e21_ => ?_)
      have o22_ : pvOk M20_ := pvok_u2 e21_ hok rfl (zr_wide (show 0 ≤ Int32.toInt 0 ∧ Int32.toInt 0 ≤ 0 from (by decide)) (by decide) (by decide))
      have f23_ : pvFr fp_X10_best_124_x M M20_ := pvfr_u e21_ pvfr_0 rfl
      refine pw_blk hT 2 (S' := (24, [some (pvR 124), some (pvI n1), some (pvI x15_), some (pvI 0), none, none, none], [], M20_)) rfl ⟨trivial, trivial, trivial⟩ ?_
      have hlz3103_ : ∀ (nz3103_ : Nat) (i3z3103_ : Int32) (Mz3103_ : pvM), (pvOk Mz3103_) → (pvFr fp_X10_best_124_x M Mz3103_) → (0 ≤ Int32.toInt i3z3103_ ∧ Int32.toInt i3z3103_ ≤ 7) → (Int32.toInt (Mz3103_.1 124 35) ≤ Int32.toInt i3z3103_) → ((8 - Int32.toInt i3z3103_).toNat < nz3103_) → PW 10 d (24, [some (pvR 124), some (pvI n1), some (pvI x15_), some (pvI i3z3103_), none, none, none], [], Mz3103_) (fun r X => (∃ x : Int32, r = some (pvI x) ∧ (-9) ≤ Int32.toInt x ∧ Int32.toInt x ≤ 9000000) ∧ pvOk X ∧ pvFr fp_X10_best_124_x M X) := by
        intro nz3103_
        induction nz3103_ with
        | zero => intro i3z3103_ Mz3103_ oz3103_ fz3103_ h3z3103_ j0z3103_ hmz3103_; exact absurd hmz3103_ (Nat.not_lt_zero _)
        | succ nz3103_ ihz3103_ =>
          intro i3z3103_ Mz3103_ oz3103_ fz3103_ h3z3103_ j0z3103_ hmz3103_
          have b3104_ : 0 ≤ Int32.toInt (Mz3103_.1 124 35) ∧ Int32.toInt (Mz3103_.1 124 35) ≤ 7 := pvok_r oz3103_ 124 35 rfl
          have b3105_ : 0 ≤ Int32.toInt (Mz3103_.1 124 0) ∧ Int32.toInt (Mz3103_.1 124 0) ≤ 7 := pvok_r oz3103_ 124 0 rfl
          refine pw_blk hT 3 (S' := (29, [some (pvR 124), some (pvI n1), some (pvI x15_), some (pvI i3z3103_), none, none, none], [pvI (Mz3103_.1 124 0), pvI i3z3103_], Mz3103_)) rfl ⟨trivial, trivial, rfl, trivial⟩ ?_
          refine pw_ic hT (c := (Mz3103_.1 124 0) ≤ i3z3103_) rfl rfl (fun c3106_ => ?_) (fun c3106_ => ?_)
          · have d3107_ : Int32.toInt (Mz3103_.1 124 0) ≤ Int32.toInt i3z3103_ := (zi_le _ _).mp c3106_
            refine pw_blk hT 3 (S' := (66, [some (pvR 124), some (pvI n1), some (pvI x15_), some (pvI i3z3103_), none, none, none], [pvI 5, pvI (Mz3103_.1 124 35)], Mz3103_)) rfl ⟨trivial, rfl, trivial, trivial⟩ ?_
            refine pw_ic hT (c := (Mz3103_.1 124 35) ≤ 5) rfl rfl (fun c3108_ => ?_) (fun c3108_ => ?_)
            · have b3109_ : 0 ≤ Int32.toInt (Mz3103_.1 124 35) ∧ Int32.toInt (Mz3103_.1 124 35) ≤ 5 := zr_le_l 5 c3108_ b3104_ (show 5 ≤ Int32.toInt 5 ∧ Int32.toInt 5 ≤ 5 from (by decide)) (by decide)
              refine pw_blk hT 1 (S' := (73, [some (pvR 124), some (pvI n1), some (pvI x15_), some (pvI i3z3103_), none, none, none], [pvR 124], Mz3103_)) rfl ⟨trivial, trivial⟩ ?_
              refine pw_callV hT (as := [pvR 124]) (lo1 := [some (pvR 124), none, none]) (d1 := d) (rest := []) rfl rfl rfl rfl rfl (fun _ => rfl) (Nat.zero_le _) rfl rfl rfl (sf_X10_layRain_124 Mz3103_ oz3103_ d) (fun M3111_ o3113_ g3114_ => ?_)
              have f3115_ : pvFr fp_X10_best_124_x M M3111_ := pvfr_t g3114_ fz3103_ fp_X10_best_124_x_fp_X10_layRain_124
              refine pw_blk hT 4 (S' := (81, [some (pvR 124), some (pvI n1), some (pvI x15_), some (pvI (-1)), some (pvI 0), none, none], [], M3111_)) rfl ⟨trivial, trivial, trivial, trivial, trivial⟩ ?_
              have e3116_ : (M3111_.1 124 35) = (Mz3103_.1 124 35) := (g3114_ 124 35 rfl)
              have b3117_ : 0 ≤ Int32.toInt (M3111_.1 124 35) ∧ Int32.toInt (M3111_.1 124 35) ≤ 5 := (by rw [e3116_]; exact b3109_)
              have d3118_ : Int32.toInt (M3111_.1 124 35) = Int32.toInt (Mz3103_.1 124 35) := congrArg Int32.toInt e3116_
              have hlz3666_ : ∀ (nz3666_ : Nat) (i3z3666_ : Int32) (i4z3666_ : Int32) (v5z3666_ : Option pvV) (v6z3666_ : Option pvV) (Mz3666_ : pvM), (pvOk Mz3666_) → (pvFr fp_X10_best_124_x M Mz3666_) → (Mz3666_.1 124 35 = M3111_.1 124 35) → ((-1) ≤ Int32.toInt i3z3666_ ∧ Int32.toInt i3z3666_ ≤ 9000000) → (0 ≤ Int32.toInt i4z3666_ ∧ Int32.toInt i4z3666_ ≤ 5040) → ((5041 - Int32.toInt i4z3666_).toNat < nz3666_) → PW 10 d (81, [some (pvR 124), some (pvI n1), some (pvI x15_), some (pvI i3z3666_), some (pvI i4z3666_), v5z3666_, v6z3666_], [], Mz3666_) (fun r X => (∃ x : Int32, r = some (pvI x) ∧ (-9) ≤ Int32.toInt x ∧ Int32.toInt x ≤ 9000000) ∧ pvOk X ∧ pvFr fp_X10_best_124_x M X) := by
                intro nz3666_
                induction nz3666_ with
                | zero => intro i3z3666_ i4z3666_ v5z3666_ v6z3666_ Mz3666_ oz3666_ fz3666_ k124_35z3666_ h3z3666_ h4z3666_ hmz3666_; exact absurd hmz3666_ (Nat.not_lt_zero _)
                | succ nz3666_ ihz3666_ =>
                  intro i3z3666_ i4z3666_ v5z3666_ v6z3666_ Mz3666_ oz3666_ fz3666_ k124_35z3666_ h3z3666_ h4z3666_ hmz3666_
                  refine pw_blk hT 3 (S' := (85, [some (pvR 124), some (pvI n1), some (pvI x15_), some (pvI i3z3666_), some (pvI i4z3666_), v5z3666_, v6z3666_], [pvI i4z3666_, pvI x15_, pvR 124], Mz3666_)) rfl ⟨trivial, trivial, trivial, trivial⟩ ?_
                  refine pw_callG hT (as := [pvR 124, pvI x15_, pvI i4z3666_]) (lo1 := [some (pvR 124), some (pvI x15_), some (pvI i4z3666_), none, none, none, none, none, none]) (d1 := d) (rest := []) rfl rfl rfl rfl rfl (fun _ => rfl) (Nat.zero_le _) rfl rfl rfl (sf_X10_layOrder_124_x_x Mz3666_ oz3666_ x15_ i4z3666_ (show 0 ≤ Int32.toInt i4z3666_ ∧ Int32.toInt i4z3666_ ≤ 5040 from (by omega)) d) (fun x3667_ M3668_ b3669_ o3670_ g3671_ => ?_)
                  have f3672_ : pvFr fp_X10_best_124_x M M3668_ := pvfr_t g3671_ fz3666_ fp_X10_best_124_x_fp_X10_layOrder_124_x_x
                  refine pw_if hT (c := x3667_ = 0) rfl rfl (fun c3673_ => ?_) (fun c3673_ => ?_)
                  · have b3674_ : 0 ≤ Int32.toInt x3667_ ∧ Int32.toInt x3667_ ≤ 0 := (by have u0 := b3669_; have u1 := (zi_eq _ _).mp c3673_; have u2 := (show 0 ≤ Int32.toInt 0 ∧ Int32.toInt 0 ≤ 0 from (by decide)); omega)
                    refine pw_blk hT 1 (S' := (151, [some (pvR 124), some (pvI n1), some (pvI x15_), some (pvI i3z3666_), some (pvI i4z3666_), v5z3666_, v6z3666_], [pvI n1], M3668_)) rfl ⟨trivial, trivial⟩ ?_
                    refine pw_if hT (c := 0 ≤ n1) rfl rfl (fun c3675_ => ?_) (fun c3675_ => ?_)
                    · have b3676_ : 0 ≤ Int32.toInt n1 ∧ Int32.toInt n1 ≤ 4 := zr_le_r 0 c3675_ b13_ (show 0 ≤ Int32.toInt 0 ∧ Int32.toInt 0 ≤ 0 from (by decide)) (by decide)
                      have e3677_ : (M3668_.1 124 35) = (M3111_.1 124 35) := ((g3671_ 124 35 rfl).trans (k124_35z3666_))
                      have b3678_ : 0 ≤ Int32.toInt (M3668_.1 124 35) ∧ Int32.toInt (M3668_.1 124 35) ≤ 5 := (by rw [e3677_]; exact b3117_)
                      have d3679_ : Int32.toInt (M3668_.1 124 35) = Int32.toInt (M3111_.1 124 35) := congrArg Int32.toInt e3677_
                      refine pw_blk hT 3 (S' := (163, [some (pvR 124), some (pvI n1), some (pvI x15_), some (pvI i3z3666_), some (pvI i4z3666_), v5z3666_, v6z3666_], [pvI (M3668_.1 124 35), pvI n1], M3668_)) rfl ⟨trivial, trivial, rfl, trivial⟩ ?_
                      refine pw_ic hT (c := (M3668_.1 124 35) ≤ n1) rfl rfl (fun c3680_ => ?_) (fun c3680_ => ?_)
                      · have b3681_ : 0 ≤ Int32.toInt (M3668_.1 124 35) ∧ Int32.toInt (M3668_.1 124 35) ≤ 4 := zr_le_l 4 c3680_ b3678_ b3676_ (by decide)
                        have d3682_ : Int32.toInt (M3668_.1 124 35) ≤ Int32.toInt n1 := (zi_le _ _).mp c3680_
                        refine pw_blk hT 1 (S' := (177, [some (pvR 124), some (pvI n1), some (pvI x15_), some (pvI i3z3666_), some (pvI i4z3666_), v5z3666_, v6z3666_], [pvI (-5)], M3668_)) rfl ⟨trivial, trivial⟩ ?_
                        exact pw_ret hT rfl (r := some (pvI (-5))) (M' := M3668_) ⟨rfl, rfl⟩ ⟨⟨_, rfl, (zr_wide (show (-5) ≤ Int32.toInt (-5) ∧ Int32.toInt (-5) ≤ (-5) from (by decide)) (by decide) (by decide))⟩, o3670_, f3672_⟩
                      · have b3683_ : 1 ≤ Int32.toInt (M3668_.1 124 35) ∧ Int32.toInt (M3668_.1 124 35) ≤ 5 := zr_nle_l 1 c3680_ b3678_ b3676_ (by decide)
                        have d3684_ : Int32.toInt (M3668_.1 124 35) > Int32.toInt n1 := Int.not_le.mp ((not_congr (zi_le _ _)).mp c3680_)
                        have b3685_ : 0 ≤ Int32.toInt (M3668_.1 146 (Int32.toNatClampNeg n1)) ∧ Int32.toInt (M3668_.1 146 (Int32.toNatClampNeg n1)) ≤ 6 := pvok_r o3670_ 146 (Int32.toNatClampNeg n1) rfl
                        refine pw_blk hT 5 (S' := (177, [some (pvR 124), some (pvI n1), some (pvI x15_), some (pvI i3z3666_), some (pvI i4z3666_), v5z3666_, v6z3666_], [pvI (M3668_.1 146 (Int32.toNatClampNeg n1))], M3668_)) rfl ⟨trivial, rfl, trivial, ⟨rfl, (zr_in (n := 7) b3676_ (by decide) (by decide))⟩, trivial, trivial⟩ ?_
                        exact pw_ret hT rfl (r := some (pvI (M3668_.1 146 (Int32.toNatClampNeg n1)))) (M' := M3668_) ⟨rfl, rfl⟩ ⟨⟨_, rfl, (zr_wide b3685_ (by decide) (by decide))⟩, o3670_, f3672_⟩
                    · have b3686_ : (-1) ≤ Int32.toInt n1 ∧ Int32.toInt n1 ≤ (-1) := zr_nle_r (-1) c3675_ b13_ (show 0 ≤ Int32.toInt 0 ∧ Int32.toInt 0 ≤ 0 from (by decide)) (by decide)
                      refine pw_blk hT 2 (S' := (177, [some (pvR 124), some (pvI n1), some (pvI x15_), some (pvI i3z3666_), some (pvI i4z3666_), v5z3666_, v6z3666_], [pvI i3z3666_], M3668_)) rfl ⟨trivial, trivial, trivial⟩ ?_
                      exact pw_ret hT rfl (r := some (pvI i3z3666_)) (M' := M3668_) ⟨rfl, rfl⟩ ⟨⟨_, rfl, (zr_wide h3z3666_ (by decide) (by decide))⟩, o3670_, f3672_⟩
                  · have b3687_ : 1 ≤ Int32.toInt x3667_ ∧ Int32.toInt x3667_ ≤ 1 := (by have u0 := b3669_; have u1 := (not_congr (zi_eq _ _)).mp c3673_; have u2 := (show 0 ≤ Int32.toInt 0 ∧ Int32.toInt 0 ≤ 0 from (by decide)); omega)
                    refine pw_blk hT 2 (S' := (93, [some (pvR 124), some (pvI n1), some (pvI x15_), some (pvI i3z3666_), some (pvI i4z3666_), v5z3666_, v6z3666_], [pvI 0, pvR 124], M3668_)) rfl ⟨trivial, trivial, trivial⟩ ?_
                    refine pw_callG hT (as := [pvR 124, pvI 0]) (lo1 := [some (pvR 124), some (pvI 0), none]) (d1 := d) (rest := []) rfl rfl rfl rfl rfl (fun _ => rfl) (Nat.zero_le _) rfl rfl rfl (sf_X10_costOfPath_124_x M3668_ o3670_ 0 (zr_wide (show 0 ≤ Int32.toInt 0 ∧ Int32.toInt 0 ≤ 0 from (by decide)) (by decide) (by decide)) d) (fun x3688_ M3689_ b3690_ o3691_ g3692_ => ?_)
                    have f3693_ : pvFr fp_X10_best_124_x M M3689_ := pvfr_t g3692_ f3672_ fp_X10_best_124_x_fp_X10_costOfPath_124_x
                    refine pw_blk hT 2 (S' := (99, [some (pvR 124), some (pvI n1), some (pvI x15_), some (pvI i3z3666_), some (pvI i4z3666_), some (pvI x3688_), v6z3666_], [pvI i3z3666_], M3689_)) rfl ⟨trivial, trivial, trivial⟩ ?_
                    refine pw_if hT (c := i3z3666_ < 0) rfl rfl (fun c3694_ => ?_) (fun c3694_ => ?_)
                    · have b3695_ : (-1) ≤ Int32.toInt i3z3666_ ∧ Int32.toInt i3z3666_ ≤ (-1) := zr_lt_l (-1) c3694_ h3z3666_ (show 0 ≤ Int32.toInt 0 ∧ Int32.toInt 0 ≤ 0 from (by decide)) (by decide)
                      refine pw_blk hT 4 (S' := (117, [some (pvR 124), some (pvI n1), some (pvI x15_), some (pvI x3688_), some (pvI i4z3666_), some (pvI x3688_), some (pvI 0)], [], M3689_)) rfl ⟨trivial, trivial, trivial, trivial, trivial⟩ ?_
                      have e3696_ : (M3689_.1 124 35) = (M3111_.1 124 35) := (((g3692_ 124 35 rfl).trans (g3671_ 124 35 rfl)).trans (k124_35z3666_))
                      have b3697_ : 0 ≤ Int32.toInt (M3689_.1 124 35) ∧ Int32.toInt (M3689_.1 124 35) ≤ 5 := (by rw [e3696_]; exact b3117_)
                      have d3698_ : Int32.toInt (M3689_.1 124 35) = Int32.toInt (M3111_.1 124 35) := congrArg Int32.toInt e3696_
                      have hlz3754_ : ∀ (nz3754_ : Nat) (i6z3754_ : Int32) (Mz3754_ : pvM), (pvOk Mz3754_) → (pvFr fp_X10_best_124_x M Mz3754_) → (Mz3754_.1 124 35 = M3689_.1 124 35) → (0 ≤ Int32.toInt i6z3754_ ∧ Int32.toInt i6z3754_ ≤ 7) → ((8 - Int32.toInt i6z3754_).toNat < nz3754_) → PW 10 d (117, [some (pvR 124), some (pvI n1), some (pvI x15_), some (pvI x3688_), some (pvI i4z3666_), some (pvI x3688_), some (pvI i6z3754_)], [], Mz3754_) (fun r X => (∃ x : Int32, r = some (pvI x) ∧ (-9) ≤ Int32.toInt x ∧ Int32.toInt x ≤ 9000000) ∧ pvOk X ∧ pvFr fp_X10_best_124_x M X) := by
                        intro nz3754_
                        induction nz3754_ with
                        | zero => intro i6z3754_ Mz3754_ oz3754_ fz3754_ k124_35z3754_ h6z3754_ hmz3754_; exact absurd hmz3754_ (Nat.not_lt_zero _)
                        | succ nz3754_ ihz3754_ =>
                          intro i6z3754_ Mz3754_ oz3754_ fz3754_ k124_35z3754_ h6z3754_ hmz3754_
                          refine pw_blk hT 2 (S' := (121, [some (pvR 124), some (pvI n1), some (pvI x15_), some (pvI x3688_), some (pvI i4z3666_), some (pvI x3688_), some (pvI i6z3754_)], [pvI 7, pvI i6z3754_], Mz3754_)) rfl ⟨trivial, trivial, trivial⟩ ?_
                          refine pw_ic hT (c := 7 ≤ i6z3754_) rfl rfl (fun c3755_ => ?_) (fun c3755_ => ?_)
                          · have b3756_ : 7 ≤ Int32.toInt i6z3754_ ∧ Int32.toInt i6z3754_ ≤ 7 := zr_le_r 7 c3755_ h6z3754_ (show 7 ≤ Int32.toInt 7 ∧ Int32.toInt 7 ≤ 7 from (by decide)) (by decide)
                            obtain ⟨q3758_, b3757_⟩ : (Int32.toInt (i4z3666_ + 1) = Int32.toInt i4z3666_ + Int32.toInt 1) ∧ (1 ≤ Int32.toInt (i4z3666_ + 1) ∧ Int32.toInt (i4z3666_ + 1) ≤ 5041) := zadd_r i4z3666_ 1 1 5041 h4z3666_ (show 1 ≤ Int32.toInt 1 ∧ Int32.toInt 1 ≤ 1 from (by decide)) (by decide) (by decide) (by decide) (by decide)
                            have u3759_ : Int32.toInt 1 = 1 := by decide
                            refine pw_blk hT 2 (S' := (81, [some (pvR 124), some (pvI n1), some (pvI x15_), some (pvI x3688_), some (pvI (i4z3666_ + 1)), some (pvI x3688_), some (pvI i6z3754_)], [], Mz3754_)) rfl ⟨trivial, trivial, trivial⟩ ?_
                            exact ihz3666_ x3688_ (i4z3666_ + 1) (some (pvI x3688_)) (some (pvI i6z3754_)) Mz3754_ oz3754_ fz3754_ ((((k124_35z3754_).trans (g3692_ 124 35 rfl)).trans (g3671_ 124 35 rfl)).trans (k124_35z3666_)) (zr_wide b3690_ (by decide) (by decide)) (by have u0 := b3757_; omega) (by omega)
                          · have b3760_ : 0 ≤ Int32.toInt i6z3754_ ∧ Int32.toInt i6z3754_ ≤ 6 := zr_nle_r 6 c3755_ h6z3754_ (show 7 ≤ Int32.toInt 7 ∧ Int32.toInt 7 ≤ 7 from (by decide)) (by decide)
                            have b3761_ : 0 ≤ Int32.toInt (Mz3754_.1 144 (Int32.toNatClampNeg i6z3754_)) ∧ Int32.toInt (Mz3754_.1 144 (Int32.toNatClampNeg i6z3754_)) ≤ 6 := pvok_r oz3754_ 144 (Int32.toNatClampNeg i6z3754_) rfl
                            refine pw_blkw hT 8 (pc := 138) (lo := [some (pvR 124), some (pvI n1), some (pvI x15_), some (pvI x3688_), some (pvI i4z3666_), some (pvI x3688_), some (pvI i6z3754_)]) (st := []) (M := pvu Mz3754_ 146 (Int32.toNatClampNeg i6z3754_) (Mz3754_.1 144 (Int32.toNatClampNeg i6z3754_))) rfl ⟨trivial, rfl, trivial, trivial, rfl, trivial, ⟨rfl, (zr_in (n := 7) b3760_ (by decide) (by decide))⟩, ⟨rfl, (zr_in (n := 7) b3760_ (by decide) (by decide))⟩, trivial⟩ (fun M3762_ e3763_ => ?_)
                            have o3764_ : pvOk M3762_ := pvok_u2 e3763_ oz3754_ rfl b3761_
                            have f3765_ : pvFr fp_X10_best_124_x M M3762_ := pvfr_u e3763_ fz3754_ rfl
                            obtain ⟨q3767_, b3766_⟩ : (Int32.toInt (i6z3754_ + 1) = Int32.toInt i6z3754_ + Int32.toInt 1) ∧ (1 ≤ Int32.toInt (i6z3754_ + 1) ∧ Int32.toInt (i6z3754_ + 1) ≤ 7) := zadd_r i6z3754_ 1 1 7 b3760_ (show 1 ≤ Int32.toInt 1 ∧ Int32.toInt 1 ≤ 1 from (by decide)) (by decide) (by decide) (by decide) (by decide)
                            have u3768_ : Int32.toInt 1 = 1 := by decide
                            refine pw_blk hT 2 (S' := (117, [some (pvR 124), some (pvI n1), some (pvI x15_), some (pvI x3688_), some (pvI i4z3666_), some (pvI x3688_), some (pvI (i6z3754_ + 1))], [], M3762_)) rfl ⟨trivial, trivial, trivial⟩ ?_
                            exact ihz3754_ (i6z3754_ + 1) M3762_ o3764_ f3765_ ((pvu_n e3763_ 124 35 (Or.inl (by decide))).trans (k124_35z3754_)) (zr_wide b3766_ (by decide) (by decide)) (by omega)
                      exact hlz3754_ _ 0 M3689_ o3691_ f3693_ rfl (zr_wide (show 0 ≤ Int32.toInt 0 ∧ Int32.toInt 0 ≤ 0 from (by decide)) (by decide) (by decide)) (Nat.lt_succ_self _)
                    · have b3769_ : 0 ≤ Int32.toInt i3z3666_ ∧ Int32.toInt i3z3666_ ≤ 9000000 := zr_nlt_l 0 c3694_ h3z3666_ (show 0 ≤ Int32.toInt 0 ∧ Int32.toInt 0 ≤ 0 from (by decide)) (by decide)
                      refine pw_blk hT 2 (S' := (105, [some (pvR 124), some (pvI n1), some (pvI x15_), some (pvI i3z3666_), some (pvI i4z3666_), some (pvI x3688_), v6z3666_], [pvI i3z3666_, pvI x3688_], M3689_)) rfl ⟨trivial, trivial, trivial⟩ ?_
                      refine pw_ic hT (c := x3688_ < i3z3666_) rfl rfl (fun c3770_ => ?_) (fun c3770_ => ?_)
                      · have b3771_ : 0 ≤ Int32.toInt x3688_ ∧ Int32.toInt x3688_ ≤ 8999999 := zr_lt_l 8999999 c3770_ b3690_ b3769_ (by decide)
                        have b3772_ : 1 ≤ Int32.toInt i3z3666_ ∧ Int32.toInt i3z3666_ ≤ 9000000 := zr_lt_r 1 c3770_ b3769_ b3771_ (by decide)
                        have d3773_ : Int32.toInt x3688_ < Int32.toInt i3z3666_ := (zi_lt _ _).mp c3770_
                        refine pw_blk hT 4 (S' := (117, [some (pvR 124), some (pvI n1), some (pvI x15_), some (pvI x3688_), some (pvI i4z3666_), some (pvI x3688_), some (pvI 0)], [], M3689_)) rfl ⟨trivial, trivial, trivial, trivial, trivial⟩ ?_
                        have e3774_ : (M3689_.1 124 35) = (M3111_.1 124 35) := (((g3692_ 124 35 rfl).trans (g3671_ 124 35 rfl)).trans (k124_35z3666_))
                        have b3775_ : 0 ≤ Int32.toInt (M3689_.1 124 35) ∧ Int32.toInt (M3689_.1 124 35) ≤ 5 := (by rw [e3774_]; exact b3117_)
                        have d3776_ : Int32.toInt (M3689_.1 124 35) = Int32.toInt (M3111_.1 124 35) := congrArg Int32.toInt e3774_
                        have hlz3832_ : ∀ (nz3832_ : Nat) (i6z3832_ : Int32) (Mz3832_ : pvM), (pvOk Mz3832_) → (pvFr fp_X10_best_124_x M Mz3832_) → (Mz3832_.1 124 35 = M3689_.1 124 35) → (0 ≤ Int32.toInt i6z3832_ ∧ Int32.toInt i6z3832_ ≤ 7) → ((8 - Int32.toInt i6z3832_).toNat < nz3832_) → PW 10 d (117, [some (pvR 124), some (pvI n1), some (pvI x15_), some (pvI x3688_), some (pvI i4z3666_), some (pvI x3688_), some (pvI i6z3832_)], [], Mz3832_) (fun r X => (∃ x : Int32, r = some (pvI x) ∧ (-9) ≤ Int32.toInt x ∧ Int32.toInt x ≤ 9000000) ∧ pvOk X ∧ pvFr fp_X10_best_124_x M X) := by
                          intro nz3832_
                          induction nz3832_ with
                          | zero => intro i6z3832_ Mz3832_ oz3832_ fz3832_ k124_35z3832_ h6z3832_ hmz3832_; exact absurd hmz3832_ (Nat.not_lt_zero _)
                          | succ nz3832_ ihz3832_ =>
                            intro i6z3832_ Mz3832_ oz3832_ fz3832_ k124_35z3832_ h6z3832_ hmz3832_
                            refine pw_blk hT 2 (S' := (121, [some (pvR 124), some (pvI n1), some (pvI x15_), some (pvI x3688_), some (pvI i4z3666_), some (pvI x3688_), some (pvI i6z3832_)], [pvI 7, pvI i6z3832_], Mz3832_)) rfl ⟨trivial, trivial, trivial⟩ ?_
                            refine pw_ic hT (c := 7 ≤ i6z3832_) rfl rfl (fun c3833_ => ?_) (fun c3833_ => ?_)
                            · have b3834_ : 7 ≤ Int32.toInt i6z3832_ ∧ Int32.toInt i6z3832_ ≤ 7 := zr_le_r 7 c3833_ h6z3832_ (show 7 ≤ Int32.toInt 7 ∧ Int32.toInt 7 ≤ 7 from (by decide)) (by decide)
                              obtain ⟨q3836_, b3835_⟩ : (Int32.toInt (i4z3666_ + 1) = Int32.toInt i4z3666_ + Int32.toInt 1) ∧ (1 ≤ Int32.toInt (i4z3666_ + 1) ∧ Int32.toInt (i4z3666_ + 1) ≤ 5041) := zadd_r i4z3666_ 1 1 5041 h4z3666_ (show 1 ≤ Int32.toInt 1 ∧ Int32.toInt 1 ≤ 1 from (by decide)) (by decide) (by decide) (by decide) (by decide)
                              have u3837_ : Int32.toInt 1 = 1 := by decide
                              refine pw_blk hT 2 (S' := (81, [some (pvR 124), some (pvI n1), some (pvI x15_), some (pvI x3688_), some (pvI (i4z3666_ + 1)), some (pvI x3688_), some (pvI i6z3832_)], [], Mz3832_)) rfl ⟨trivial, trivial, trivial⟩ ?_
                              exact ihz3666_ x3688_ (i4z3666_ + 1) (some (pvI x3688_)) (some (pvI i6z3832_)) Mz3832_ oz3832_ fz3832_ ((((k124_35z3832_).trans (g3692_ 124 35 rfl)).trans (g3671_ 124 35 rfl)).trans (k124_35z3666_)) (zr_wide b3771_ (by decide) (by decide)) (by have u0 := b3835_; omega) (by omega)
                            · have b3838_ : 0 ≤ Int32.toInt i6z3832_ ∧ Int32.toInt i6z3832_ ≤ 6 := zr_nle_r 6 c3833_ h6z3832_ (show 7 ≤ Int32.toInt 7 ∧ Int32.toInt 7 ≤ 7 from (by decide)) (by decide)
                              have b3839_ : 0 ≤ Int32.toInt (Mz3832_.1 144 (Int32.toNatClampNeg i6z3832_)) ∧ Int32.toInt (Mz3832_.1 144 (Int32.toNatClampNeg i6z3832_)) ≤ 6 := pvok_r oz3832_ 144 (Int32.toNatClampNeg i6z3832_) rfl
                              refine pw_blkw hT 8 (pc := 138) (lo := [some (pvR 124), some (pvI n1), some (pvI x15_), some (pvI x3688_), some (pvI i4z3666_), some (pvI x3688_), some (pvI i6z3832_)]) (st := []) (M := pvu Mz3832_ 146 (Int32.toNatClampNeg i6z3832_) (Mz3832_.1 144 (Int32.toNatClampNeg i6z3832_))) rfl ⟨trivial, rfl, trivial, trivial, rfl, trivial, ⟨rfl, (zr_in (n := 7) b3838_ (by decide) (by decide))⟩, ⟨rfl, (zr_in (n := 7) b3838_ (by decide) (by decide))⟩, trivial⟩ (fun M3840_ e3841_ => ?_)
                              have o3842_ : pvOk M3840_ := pvok_u2 e3841_ oz3832_ rfl b3839_
                              have f3843_ : pvFr fp_X10_best_124_x M M3840_ := pvfr_u e3841_ fz3832_ rfl
                              obtain ⟨q3845_, b3844_⟩ : (Int32.toInt (i6z3832_ + 1) = Int32.toInt i6z3832_ + Int32.toInt 1) ∧ (1 ≤ Int32.toInt (i6z3832_ + 1) ∧ Int32.toInt (i6z3832_ + 1) ≤ 7) := zadd_r i6z3832_ 1 1 7 b3838_ (show 1 ≤ Int32.toInt 1 ∧ Int32.toInt 1 ≤ 1 from (by decide)) (by decide) (by decide) (by decide) (by decide)
                              have u3846_ : Int32.toInt 1 = 1 := by decide
                              refine pw_blk hT 2 (S' := (117, [some (pvR 124), some (pvI n1), some (pvI x15_), some (pvI x3688_), some (pvI i4z3666_), some (pvI x3688_), some (pvI (i6z3832_ + 1))], [], M3840_)) rfl ⟨trivial, trivial, trivial⟩ ?_
                              exact ihz3832_ (i6z3832_ + 1) M3840_ o3842_ f3843_ ((pvu_n e3841_ 124 35 (Or.inl (by decide))).trans (k124_35z3832_)) (zr_wide b3844_ (by decide) (by decide)) (by omega)
                        exact hlz3832_ _ 0 M3689_ o3691_ f3693_ rfl (zr_wide (show 0 ≤ Int32.toInt 0 ∧ Int32.toInt 0 ≤ 0 from (by decide)) (by decide) (by decide)) (Nat.lt_succ_self _)
                      · have d3847_ : Int32.toInt x3688_ ≥ Int32.toInt i3z3666_ := Int.not_lt.mp ((not_congr (zi_lt _ _)).mp c3770_)
                        obtain ⟨q3849_, b3848_⟩ : (Int32.toInt (i4z3666_ + 1) = Int32.toInt i4z3666_ + Int32.toInt 1) ∧ (1 ≤ Int32.toInt (i4z3666_ + 1) ∧ Int32.toInt (i4z3666_ + 1) ≤ 5041) := zadd_r i4z3666_ 1 1 5041 h4z3666_ (show 1 ≤ Int32.toInt 1 ∧ Int32.toInt 1 ≤ 1 from (by decide)) (by decide) (by decide) (by decide) (by decide)
                        have u3850_ : Int32.toInt 1 = 1 := by decide
                        refine pw_blk hT 3 (S' := (81, [some (pvR 124), some (pvI n1), some (pvI x15_), some (pvI i3z3666_), some (pvI (i4z3666_ + 1)), some (pvI x3688_), v6z3666_], [], M3689_)) rfl ⟨trivial, trivial, trivial, trivial⟩ ?_
                        exact ihz3666_ i3z3666_ (i4z3666_ + 1) (some (pvI x3688_)) v6z3666_ M3689_ o3691_ f3693_ (((g3692_ 124 35 rfl).trans (g3671_ 124 35 rfl)).trans (k124_35z3666_)) (zr_wide b3769_ (by decide) (by decide)) (by have u0 := b3848_; omega) (by omega)
              exact hlz3666_ _ (-1) 0 none none M3111_ o3113_ f3115_ rfl (zr_wide (show (-1) ≤ Int32.toInt (-1) ∧ Int32.toInt (-1) ≤ (-1) from (by decide)) (by decide) (by decide)) (zr_wide (show 0 ≤ Int32.toInt 0 ∧ Int32.toInt 0 ≤ 0 from (by decide)) (by decide) (by decide)) (Nat.lt_succ_self _)
            · have b3851_ : 6 ≤ Int32.toInt (Mz3103_.1 124 35) ∧ Int32.toInt (Mz3103_.1 124 35) ≤ 7 := zr_nle_l 6 c3108_ b3104_ (show 5 ≤ Int32.toInt 5 ∧ Int32.toInt 5 ≤ 5 from (by decide)) (by decide)
              refine pw_blk hT 1 (S' := (71, [some (pvR 124), some (pvI n1), some (pvI x15_), some (pvI i3z3103_), none, none, none], [pvI (-9)], Mz3103_)) rfl ⟨trivial, trivial⟩ ?_
              exact pw_ret hT rfl (r := some (pvI (-9))) (M' := Mz3103_) ⟨rfl, rfl⟩ ⟨⟨_, rfl, (zr_wide (show (-9) ≤ Int32.toInt (-9) ∧ Int32.toInt (-9) ≤ (-9) from (by decide)) (by decide) (by decide))⟩, oz3103_, fz3103_⟩
          · have b3852_ : 1 ≤ Int32.toInt (Mz3103_.1 124 0) ∧ Int32.toInt (Mz3103_.1 124 0) ≤ 7 := zr_nle_l 1 c3106_ b3105_ h3z3103_ (by decide)
            have b3853_ : 0 ≤ Int32.toInt i3z3103_ ∧ Int32.toInt i3z3103_ ≤ 6 := zr_nle_r 6 c3106_ h3z3103_ b3852_ (by decide)
            have d3854_ : Int32.toInt (Mz3103_.1 124 0) > Int32.toInt i3z3103_ := Int.not_le.mp ((not_congr (zi_le _ _)).mp c3106_)
            refine pw_blk hT 6 (S' := (40, [some (pvR 124), some (pvI n1), some (pvI x15_), some (pvI i3z3103_), none, none, none], [pvI i3z3103_, pvI x15_, pvR 124, pvI (Mz3103_.1 124 35), pvR 124], Mz3103_)) rfl ⟨trivial, trivial, rfl, trivial, trivial, trivial, trivial⟩ ?_
            refine pw_callT hT (as := [pvR 124, pvI x15_, pvI i3z3103_]) (lo1 := [some (pvR 124), some (pvI x15_), some (pvI i3z3103_)]) (d1 := d) (rest := [pvI (Mz3103_.1 124 35), pvR 124]) rfl rfl rfl rfl rfl (fun _ => rfl) (Nat.zero_le _) rfl rfl rfl (sf_X10_has_124_x_x Mz3103_ oz3103_ x15_ i3z3103_ d) ?_
            by_cases c3860_ : ((x15_ >>> (i3z3103_ &&& 31)) &&& 1) = 1
            · refine pw_eqI (if_pos c3860_) ?_
              have b3861_ : 1 ≤ Int32.toInt ((x15_ >>> (i3z3103_ &&& 31)) &&& 1) ∧ Int32.toInt ((x15_ >>> (i3z3103_ &&& 31)) &&& 1) ≤ 1 := (by have u0 := (zbnd ((x15_ >>> (i3z3103_ &&& 31)) &&& 1)); have u1 := (zi_eq _ _).mp c3860_; have u2 := (show 1 ≤ Int32.toInt 1 ∧ Int32.toInt 1 ≤ 1 from (by decide)); omega)
              show PW 10 d (43, [some (pvR 124), some (pvI n1), some (pvI x15_), some (pvI i3z3103_), none, none, none], [pvI 1, pvI (Mz3103_.1 124 35), pvR 124], Mz3103_) _
              refine pw_if hT (c := 1 = 0) rfl rfl (fun c3862_ => absurd c3862_ (by decide)) (fun c3862_ => ?_)
              obtain ⟨q3864_, b3863_⟩ : (Int32.toInt ((Mz3103_.1 124 35) + 1) = Int32.toInt (Mz3103_.1 124 35) + Int32.toInt 1) ∧ (1 ≤ Int32.toInt ((Mz3103_.1 124 35) + 1) ∧ Int32.toInt ((Mz3103_.1 124 35) + 1) ≤ 8) := zadd_r (Mz3103_.1 124 35) 1 1 8 b3104_ (show 1 ≤ Int32.toInt 1 ∧ Int32.toInt 1 ≤ 1 from (by decide)) (by decide) (by decide) (by decide) (by decide)
              have u3865_ : Int32.toInt 1 = 1 := by decide
              refine pw_blkw hT 4 (pc := 55) (lo := [some (pvR 124), some (pvI n1), some (pvI x15_), some (pvI i3z3103_), none, none, none]) (st := []) (M := pvu Mz3103_ 124 35 ((Mz3103_.1 124 35) + 1)) rfl ⟨trivial, trivial, trivial, rfl, trivial⟩ (fun M3866_ e3867_ => ?_)
              have o3868_ : pvOk M3866_ := pvok_u2 e3867_ oz3103_ rfl (by have u0 := b3863_; omega)
              have f3869_ : pvFr fp_X10_best_124_x M M3866_ := pvfr_u e3867_ fz3103_ rfl
              obtain ⟨q3871_, b3870_⟩ : (Int32.toInt (i3z3103_ + 1) = Int32.toInt i3z3103_ + Int32.toInt 1) ∧ (1 ≤ Int32.toInt (i3z3103_ + 1) ∧ Int32.toInt (i3z3103_ + 1) ≤ 7) := zadd_r i3z3103_ 1 1 7 b3853_ (show 1 ≤ Int32.toInt 1 ∧ Int32.toInt 1 ≤ 1 from (by decide)) (by decide) (by decide) (by decide) (by decide)
              refine pw_blk hT 2 (S' := (24, [some (pvR 124), some (pvI n1), some (pvI x15_), some (pvI (i3z3103_ + 1)), none, none, none], [], M3866_)) rfl ⟨trivial, trivial, trivial⟩ ?_
              have j3872_ : Int32.toInt (M3866_.1 124 35) ≤ Int32.toInt (i3z3103_ + 1) := by have y01 : Int32.toInt (M3866_.1 124 35) = Int32.toInt ((Mz3103_.1 124 35) + 1) := congrArg Int32.toInt (pvu_s e3867_); omega
              exact ihz3103_ (i3z3103_ + 1) M3866_ o3868_ f3869_ (zr_wide b3870_ (by decide) (by decide)) j3872_ (by have y01 : Int32.toInt (M3866_.1 124 35) = Int32.toInt ((Mz3103_.1 124 35) + 1) := congrArg Int32.toInt (pvu_s e3867_); omega)
            · refine pw_eqI (if_neg c3860_) ?_
              show PW 10 d (43, [some (pvR 124), some (pvI n1), some (pvI x15_), some (pvI i3z3103_), none, none, none], [pvI 0, pvI (Mz3103_.1 124 35), pvR 124], Mz3103_) _
              refine pw_if hT (c := 0 = 0) rfl rfl (fun c3873_ => ?_) (fun c3873_ => absurd (by decide) c3873_)
              obtain ⟨q3875_, b3874_⟩ : (Int32.toInt ((Mz3103_.1 124 35) + 0) = Int32.toInt (Mz3103_.1 124 35) + Int32.toInt 0) ∧ (0 ≤ Int32.toInt ((Mz3103_.1 124 35) + 0) ∧ Int32.toInt ((Mz3103_.1 124 35) + 0) ≤ 7) := zadd_r (Mz3103_.1 124 35) 0 0 7 b3104_ (show 0 ≤ Int32.toInt 0 ∧ Int32.toInt 0 ≤ 0 from (by decide)) (by decide) (by decide) (by decide) (by decide)
              have u3876_ : Int32.toInt 0 = 0 := by decide
              refine pw_blkw hT 3 (pc := 55) (lo := [some (pvR 124), some (pvI n1), some (pvI x15_), some (pvI i3z3103_), none, none, none]) (st := []) (M := pvu Mz3103_ 124 35 ((Mz3103_.1 124 35) + 0)) rfl ⟨trivial, trivial, rfl, trivial⟩ (fun M3877_ e3878_ => ?_)
              have o3879_ : pvOk M3877_ := pvok_u2 e3878_ oz3103_ rfl b3874_
              have f3880_ : pvFr fp_X10_best_124_x M M3877_ := pvfr_u e3878_ fz3103_ rfl
              obtain ⟨q3882_, b3881_⟩ : (Int32.toInt (i3z3103_ + 1) = Int32.toInt i3z3103_ + Int32.toInt 1) ∧ (1 ≤ Int32.toInt (i3z3103_ + 1) ∧ Int32.toInt (i3z3103_ + 1) ≤ 7) := zadd_r i3z3103_ 1 1 7 b3853_ (show 1 ≤ Int32.toInt 1 ∧ Int32.toInt 1 ≤ 1 from (by decide)) (by decide) (by decide) (by decide) (by decide)
              have u3883_ : Int32.toInt 1 = 1 := by decide
              refine pw_blk hT 2 (S' := (24, [some (pvR 124), some (pvI n1), some (pvI x15_), some (pvI (i3z3103_ + 1)), none, none, none], [], M3877_)) rfl ⟨trivial, trivial, trivial⟩ ?_
              have j3884_ : Int32.toInt (M3877_.1 124 35) ≤ Int32.toInt (i3z3103_ + 1) := by have y01 : Int32.toInt (M3877_.1 124 35) = Int32.toInt ((Mz3103_.1 124 35) + 0) := congrArg Int32.toInt (pvu_s e3878_); omega
              exact ihz3103_ (i3z3103_ + 1) M3877_ o3879_ f3880_ (zr_wide b3881_ (by decide) (by decide)) j3884_ (by have y01 : Int32.toInt (M3877_.1 124 35) = Int32.toInt ((Mz3103_.1 124 35) + 0) := congrArg Int32.toInt (pvu_s e3878_); omega)
      have u3885_ : Int32.toInt 0 = 0 := by decide
      have j3886_ : Int32.toInt (M20_.1 124 35) ≤ Int32.toInt 0 := by have y01 : Int32.toInt (M20_.1 124 35) = Int32.toInt 0 := congrArg Int32.toInt (pvu_s e21_); have y03 : Int32.toInt 0 = 0 := (by decide); omega
      exact hlz3103_ _ 0 M20_ o22_ f23_ (zr_wide (show 0 ≤ Int32.toInt 0 ∧ Int32.toInt 0 ≤ 0 from (by decide)) (by decide) (by decide)) j3886_ (Nat.lt_succ_self _)
