def fpL_eX10_best_124_x : List (Nat × Nat × Nat) := [(0, 124, 33), (0, 124, 36), (0, 141, 0), (0, 142, 0), (0, 143, 0), (0, 144, 0), (0, 146, 0)]
def fp_eX10_best_124_x (q k : Nat) : Bool := pvfp fpL_eX10_best_124_x q k
theorem fp_eX10_best_124_x_fp_eX10_costOfPath_124_x (a b : Nat) (h : fp_eX10_costOfPath_124_x a b = true) : fp_eX10_best_124_x a b = true := pvfp_sub (l1 := fpL_eX10_costOfPath_124_x) (l2 := fpL_eX10_best_124_x) (by decide) a b h
theorem fp_eX10_best_124_x_fp_eX10_layOrder_124_x_x (a b : Nat) (h : fp_eX10_layOrder_124_x_x a b = true) : fp_eX10_best_124_x a b = true := pvfp_sub (l1 := fpL_eX10_layOrder_124_x_x) (l2 := fpL_eX10_best_124_x) (by decide) a b h
theorem fp_eX10_best_124_x_fp_eX10_layRain_124 (a b : Nat) (h : fp_eX10_layRain_124 a b = true) : fp_eX10_best_124_x a b = true := pvfp_sub (l1 := fpL_eX10_layRain_124) (l2 := fpL_eX10_best_124_x) (by decide) a b h
set_option maxHeartbeats 4000000 in
set_option maxRecDepth 10000 in
theorem se_X10_best_124_x (M : pvM) (hok : pvOk M) (n1 : Int32) (hz : pvWF M) (d : Nat) : PW 10 d (0, [some (pvR 124), some (pvI n1), none, none, none, none, none], [], M) (fun r X => (∃ x : Int32, r = some (pvI x) ∧ (-9) ≤ Int32.toInt x ∧ Int32.toInt x ≤ 9000000) ∧ pvOk X ∧ pvFr fp_eX10_best_124_x M X ∧ yA0 (yGbe n1) r M) := by
  have hT : pvdom 10 = pvD_10 := rfl
  refine pw_blk hT 4 (S' := (4, [some (pvR 124), some (pvI n1), none, none, none, none, none], [pvI 4, pvI (-1), pvI n1, pvR 124], M)) rfl ⟨trivial, trivial, trivial, trivial, trivial⟩ ?_
  refine pw_callT hT (as := [pvR 124, pvI n1, pvI (-1), pvI 4]) (lo1 := [some (pvR 124), some (pvI n1), some (pvI (-1)), some (pvI 4)]) (d1 := d) (rest := []) rfl rfl rfl rfl rfl (fun _ => rfl) (Nat.zero_le _) rfl rfl rfl (sf_X10_in_124_x_x_x M hok n1 (-1) 4 d) ?_
  by_cases c6_ : n1 < (-1)
  · refine pw_eqI (if_pos c6_) ?_
    have b7_ : (-2147483648) ≤ Int32.toInt n1 ∧ Int32.toInt n1 ≤ (-2) := zr_lt_l (-2) c6_ (zbnd n1) (show (-1) ≤ Int32.toInt (-1) ∧ Int32.toInt (-1) ≤ (-1) from (by decide)) (by decide)
    show PW 10 d (7, [some (pvR 124), some (pvI n1), none, none, none, none, none], [pvI 0], M) _
    refine pw_ifn hT (c := 0 = 0) rfl rfl (fun c8_ => absurd (by decide) c8_) (fun c8_ => ?_)
    refine pw_blk hT 1 (S' := (11, [some (pvR 124), some (pvI n1), none, none, none, none, none], [pvI (-1)], M)) rfl ⟨trivial, trivial⟩ ?_
    exact pw_ret hT rfl (r := some (pvI (-1))) (M' := M) ⟨rfl, rfl⟩ ⟨⟨_, rfl, (zr_wide (show (-1) ≤ Int32.toInt (-1) ∧ Int32.toInt (-1) ≤ (-1) from (by decide)) (by decide) (by decide))⟩, hok, pvfr_0, (yGbe0_1 (by have u := b7_; omega) (by decide))⟩
  · refine pw_eqI (if_neg c6_) ?_
    have b9_ : (-1) ≤ Int32.toInt n1 ∧ Int32.toInt n1 ≤ 2147483647 := zr_nlt_l (-1) c6_ (zbnd n1) (show (-1) ≤ Int32.toInt (-1) ∧ Int32.toInt (-1) ≤ (-1) from (by decide)) (by decide)
    by_cases c10_ : 4 < n1
    · refine pw_eqI (if_pos c10_) ?_
      have b11_ : 5 ≤ Int32.toInt n1 ∧ Int32.toInt n1 ≤ 2147483647 := zr_lt_r 5 c10_ b9_ (show 4 ≤ Int32.toInt 4 ∧ Int32.toInt 4 ≤ 4 from (by decide)) (by decide)
      show PW 10 d (7, [some (pvR 124), some (pvI n1), none, none, none, none, none], [pvI 0], M) _
      refine pw_ifn hT (c := 0 = 0) rfl rfl (fun c12_ => absurd (by decide) c12_) (fun c12_ => ?_)
      refine pw_blk hT 1 (S' := (11, [some (pvR 124), some (pvI n1), none, none, none, none, none], [pvI (-1)], M)) rfl ⟨trivial, trivial⟩ ?_
      exact pw_ret hT rfl (r := some (pvI (-1))) (M' := M) ⟨rfl, rfl⟩ ⟨⟨_, rfl, (zr_wide (show (-1) ≤ Int32.toInt (-1) ∧ Int32.toInt (-1) ≤ (-1) from (by decide)) (by decide) (by decide))⟩, hok, pvfr_0, (yGbe0_1 (by have u := b11_; omega) (by decide))⟩
    · refine pw_eqI (if_neg c10_) ?_
      have b13_ : (-1) ≤ Int32.toInt n1 ∧ Int32.toInt n1 ≤ 4 := zr_nlt_r 4 c10_ b9_ (show 4 ≤ Int32.toInt 4 ∧ Int32.toInt 4 ≤ 4 from (by decide)) (by decide)
      show PW 10 d (7, [some (pvR 124), some (pvI n1), none, none, none, none, none], [pvI 1], M) _
      refine pw_ifn hT (c := 1 = 0) rfl rfl (fun c14_ => ?_) (fun c14_ => absurd c14_ (by decide))
      refine pw_blk hT 1 (S' := (13, [some (pvR 124), some (pvI n1), none, none, none, none, none], [pvR 124], M)) rfl ⟨trivial, trivial⟩ ?_
      refine pw_callGp hT (as := [pvR 124]) (lo1 := [some (pvR 124), none, none]) (d1 := d) (rest := []) rfl rfl rfl rfl rfl (fun _ => rfl) (Nat.zero_le _) rfl rfl rfl (se_X10_openSet_124 M hok d) (fun x15_ b17_ => ?_)
      obtain ⟨b20_, d21_⟩ := b17_
      refine pw_blkw hT 4 (pc := 22) (lo := [some (pvR 124), some (pvI n1), some (pvI x15_), none, none, none, none]) (st := []) (M := pvu M 124 35 0) rfl ⟨trivial, trivial, trivial, rfl, trivial⟩ (fun M22_ e23_ => ?_)
      have o24_ : pvOk M22_ := pvok_u2 e23_ hok rfl (zr_wide (show 0 ≤ Int32.toInt 0 ∧ Int32.toInt 0 ≤ 0 from (by decide)) (by decide) (by decide))
      have f25_ : pvFr fp_eX10_best_124_x M M22_ := pvfr_u e23_ pvfr_0 rfl
      refine pw_blk hT 2 (S' := (24, [some (pvR 124), some (pvI n1), some (pvI x15_), some (pvI 0), none, none, none], [], M22_)) rfl ⟨trivial, trivial, trivial⟩ ?_
      have hlz3037_ : ∀ (nz3037_ : Nat) (i3z3037_ : Int32) (Mz3037_ : pvM), (pvOk Mz3037_) → (pvFr fp_eX10_best_124_x M Mz3037_) → (0 ≤ Int32.toInt i3z3037_ ∧ Int32.toInt i3z3037_ ≤ 7) → (Int32.toInt (Mz3037_.1 124 35) ≤ Int32.toInt i3z3037_) → (Int32.toInt (Mz3037_.1 124 35) ≤ zlc x15_ (Int32.toNatClampNeg i3z3037_)) → (yBc x15_ Mz3037_ i3z3037_) → (zhide ((8 - Int32.toInt i3z3037_).toNat < nz3037_)) → PW 10 d (24, [some (pvR 124), some (pvI n1), some (pvI x15_), some (pvI i3z3037_), none, none, none], [], Mz3037_) (fun r X => (∃ x : Int32, r = some (pvI x) ∧ (-9) ≤ Int32.toInt x ∧ Int32.toInt x ≤ 9000000) ∧ pvOk X ∧ pvFr fp_eX10_best_124_x M X ∧ yA0 (yGbe n1) r M) := by
        intro nz3037_
        induction nz3037_ with
        | zero => intro i3z3037_ Mz3037_ oz3037_ fz3037_ h3z3037_ j0z3037_ j1z3037_ j2z3037_ hmz3037_; exact absurd (zshow hmz3037_) (Nat.not_lt_zero _)
        | succ nz3037_ ihz3037_ =>
          intro i3z3037_ Mz3037_ oz3037_ fz3037_ h3z3037_ j0z3037_ j1z3037_ j2z3037_ hmz3037_
          have b3038_ : 0 ≤ Int32.toInt (Mz3037_.1 124 35) ∧ Int32.toInt (Mz3037_.1 124 35) ≤ 7 := pvok_r oz3037_ 124 35 rfl
          have b3039_ : 0 ≤ Int32.toInt (Mz3037_.1 124 0) ∧ Int32.toInt (Mz3037_.1 124 0) ≤ 7 := pvok_r oz3037_ 124 0 rfl
          refine pw_blk hT 3 (S' := (29, [some (pvR 124), some (pvI n1), some (pvI x15_), some (pvI i3z3037_), none, none, none], [pvI (Mz3037_.1 124 0), pvI i3z3037_], Mz3037_)) rfl ⟨trivial, trivial, rfl, trivial⟩ ?_
          refine pw_ic hT (c := (Mz3037_.1 124 0) ≤ i3z3037_) rfl rfl (fun c3040_ => ?_) (fun c3040_ => ?_)
          · have d3041_ : Int32.toInt (Mz3037_.1 124 0) ≤ Int32.toInt i3z3037_ := (zi_le _ _).mp c3040_
            refine pw_blk hT 3 (S' := (66, [some (pvR 124), some (pvI n1), some (pvI x15_), some (pvI i3z3037_), none, none, none], [pvI 5, pvI (Mz3037_.1 124 35)], Mz3037_)) rfl ⟨trivial, rfl, trivial, trivial⟩ ?_
            refine pw_ic hT (c := (Mz3037_.1 124 35) ≤ 5) rfl rfl (fun c3042_ => ?_) (fun c3042_ => ?_)
            · have b3043_ : 0 ≤ Int32.toInt (Mz3037_.1 124 35) ∧ Int32.toInt (Mz3037_.1 124 35) ≤ 5 := zr_le_l 5 c3042_ b3038_ (show 5 ≤ Int32.toInt 5 ∧ Int32.toInt 5 ≤ 5 from (by decide)) (by decide)
              refine pw_blk hT 1 (S' := (73, [some (pvR 124), some (pvI n1), some (pvI x15_), some (pvI i3z3037_), none, none, none], [pvR 124], Mz3037_)) rfl ⟨trivial, trivial⟩ ?_
              refine pw_callVd hT (as := [pvR 124]) (lo1 := [some (pvR 124), none, none]) (d1 := d) (rest := []) rfl rfl rfl rfl rfl (fun _ => rfl) (Nat.zero_le _) rfl rfl rfl (se_X10_layRain_124 Mz3037_ oz3037_ (pvWF_fr (L := fpL_eX10_best_124_x) rfl fz3037_ hz) d) (fun M3046_ o3048_ g3049_ d3044_ => ?_)
              have f3050_ : pvFr fp_eX10_best_124_x M M3046_ := pvfr_t g3049_ fz3037_ fp_eX10_best_124_x_fp_eX10_layRain_124
              refine pw_blk hT 4 (S' := (81, [some (pvR 124), some (pvI n1), some (pvI x15_), some (pvI (-1)), some (pvI 0), none, none], [], M3046_)) rfl ⟨trivial, trivial, trivial, trivial, trivial⟩ ?_
              have e3051_ : (M3046_.1 124 35) = (Mz3037_.1 124 35) := (g3049_ 124 35 rfl)
              have b3052_ : 0 ≤ Int32.toInt (M3046_.1 124 35) ∧ Int32.toInt (M3046_.1 124 35) ≤ 5 := (by rw [e3051_]; exact b3043_)
              have d3053_ : Int32.toInt (M3046_.1 124 35) = Int32.toInt (Mz3037_.1 124 35) := congrArg Int32.toInt e3051_
              have hlz3591_ : ∀ (nz3591_ : Nat) (i3z3591_ : Int32) (i4z3591_ : Int32) (v5z3591_ : Option pvV) (v6z3591_ : Option pvV) (Mz3591_ : pvM), (pvOk Mz3591_) → (pvFr fp_eX10_best_124_x M Mz3591_) → (Mz3591_.1 124 35 = M3046_.1 124 35) → ((-1) ≤ Int32.toInt i3z3591_ ∧ Int32.toInt i3z3591_ ≤ 9000000) → (0 ≤ Int32.toInt i4z3591_ ∧ Int32.toInt i4z3591_ ≤ 5040) → (Int32.toInt (Mz3591_.1 124 35) ≤ zbc x15_ 7) → (yBq M Mz3591_ x15_ i3z3591_ i4z3591_) → (zhide ((5041 - Int32.toInt i4z3591_).toNat < nz3591_)) → PW 10 d (81, [some (pvR 124), some (pvI n1), some (pvI x15_), some (pvI i3z3591_), some (pvI i4z3591_), v5z3591_, v6z3591_], [], Mz3591_) (fun r X => (∃ x : Int32, r = some (pvI x) ∧ (-9) ≤ Int32.toInt x ∧ Int32.toInt x ≤ 9000000) ∧ pvOk X ∧ pvFr fp_eX10_best_124_x M X ∧ yA0 (yGbe n1) r M) := by
                intro nz3591_
                induction nz3591_ with
                | zero => intro i3z3591_ i4z3591_ v5z3591_ v6z3591_ Mz3591_ oz3591_ fz3591_ k124_35z3591_ h3z3591_ h4z3591_ j0z3591_ j1z3591_ hmz3591_; exact absurd (zshow hmz3591_) (Nat.not_lt_zero _)
                | succ nz3591_ ihz3591_ =>
                  intro i3z3591_ i4z3591_ v5z3591_ v6z3591_ Mz3591_ oz3591_ fz3591_ k124_35z3591_ h3z3591_ h4z3591_ j0z3591_ j1z3591_ hmz3591_
                  have e3592_ : (Mz3591_.1 124 35) = (M3046_.1 124 35) := (k124_35z3591_)
                  have b3593_ : 0 ≤ Int32.toInt (Mz3591_.1 124 35) ∧ Int32.toInt (Mz3591_.1 124 35) ≤ 5 := (by rw [e3592_]; exact b3052_)
                  have d3594_ : Int32.toInt (Mz3591_.1 124 35) = Int32.toInt (M3046_.1 124 35) := congrArg Int32.toInt e3592_
                  refine pw_blk hT 3 (S' := (85, [some (pvR 124), some (pvI n1), some (pvI x15_), some (pvI i3z3591_), some (pvI i4z3591_), v5z3591_, v6z3591_], [pvI i4z3591_, pvI x15_, pvR 124], Mz3591_)) rfl ⟨trivial, trivial, trivial, trivial⟩ ?_
                  refine pw_callGd hT (as := [pvR 124, pvI x15_, pvI i4z3591_]) (lo1 := [some (pvR 124), some (pvI x15_), some (pvI i4z3591_), none, none, none, none, none, none]) (d1 := d) (rest := []) rfl rfl rfl rfl rfl (fun _ => rfl) (Nat.zero_le _) rfl rfl rfl (se_X10_layOrder_124_x_x Mz3591_ oz3591_ x15_ i4z3591_ b20_ h4z3591_ (by have y01 : Int32.toInt (Mz3591_.1 124 35) = Int32.toInt (M3046_.1 124 35) := congrArg Int32.toInt (k124_35z3591_); omega) d) (fun x3596_ M3597_ b3598_ o3599_ g3600_ d3595_ => ?_)
                  have f3601_ : pvFr fp_eX10_best_124_x M M3597_ := pvfr_t g3600_ fz3591_ fp_eX10_best_124_x_fp_eX10_layOrder_124_x_x
                  obtain ⟨b3602_, d3603_⟩ := b3598_
                  refine pw_if hT (c := x3596_ = 0) rfl rfl (fun c3604_ => ?_) (fun c3604_ => ?_)
                  · have b3605_ : 0 ≤ Int32.toInt x3596_ ∧ Int32.toInt x3596_ ≤ 0 := (by have u0 := b3602_; have u1 := (zi_eq _ _).mp c3604_; have u2 := (show 0 ≤ Int32.toInt 0 ∧ Int32.toInt 0 ≤ 0 from (by decide)); omega)
                    refine pw_blk hT 1 (S' := (151, [some (pvR 124), some (pvI n1), some (pvI x15_), some (pvI i3z3591_), some (pvI i4z3591_), v5z3591_, v6z3591_], [pvI n1], M3597_)) rfl ⟨trivial, trivial⟩ ?_
                    refine pw_if hT (c := 0 ≤ n1) rfl rfl (fun c3606_ => ?_) (fun c3606_ => ?_)
                    · have b3607_ : 0 ≤ Int32.toInt n1 ∧ Int32.toInt n1 ≤ 4 := zr_le_r 0 c3606_ b13_ (show 0 ≤ Int32.toInt 0 ∧ Int32.toInt 0 ≤ 0 from (by decide)) (by decide)
                      have e3608_ : (M3597_.1 124 35) = (Mz3591_.1 124 35) := (g3600_ 124 35 rfl)
                      have b3609_ : 0 ≤ Int32.toInt (M3597_.1 124 35) ∧ Int32.toInt (M3597_.1 124 35) ≤ 5 := (by rw [e3608_]; exact b3593_)
                      have d3610_ : Int32.toInt (M3597_.1 124 35) = Int32.toInt (Mz3591_.1 124 35) := congrArg Int32.toInt e3608_
                      refine pw_blk hT 3 (S' := (163, [some (pvR 124), some (pvI n1), some (pvI x15_), some (pvI i3z3591_), some (pvI i4z3591_), v5z3591_, v6z3591_], [pvI (M3597_.1 124 35), pvI n1], M3597_)) rfl ⟨trivial, trivial, rfl, trivial⟩ ?_
                      refine pw_ic hT (c := (M3597_.1 124 35) ≤ n1) rfl rfl (fun c3611_ => ?_) (fun c3611_ => ?_)
                      · have b3612_ : 0 ≤ Int32.toInt (M3597_.1 124 35) ∧ Int32.toInt (M3597_.1 124 35) ≤ 4 := zr_le_l 4 c3611_ b3609_ b3607_ (by decide)
                        have d3613_ : Int32.toInt (M3597_.1 124 35) ≤ Int32.toInt n1 := (zi_le _ _).mp c3611_
                        refine pw_blk hT 1 (S' := (177, [some (pvR 124), some (pvI n1), some (pvI x15_), some (pvI i3z3591_), some (pvI i4z3591_), v5z3591_, v6z3591_], [pvI (-5)], M3597_)) rfl ⟨trivial, trivial⟩ ?_
                        exact pw_ret hT rfl (r := some (pvI (-5))) (M' := M3597_) ⟨rfl, rfl⟩ ⟨⟨_, rfl, (zr_wide (show (-5) ≤ Int32.toInt (-5) ∧ Int32.toInt (-5) ≤ (-5) from (by decide)) (by decide) (by decide))⟩, o3599_, f3601_, (yGbe0_5 oz3591_ o3599_ (show 0 ≤ Int32.toInt i4z3591_ ∧ Int32.toInt i4z3591_ ≤ 5040 from h4z3591_).1 (by have u := b3607_; omega) j1z3591_ d3595_ c3604_ c3611_ (by decide))⟩
                      · have b3614_ : 1 ≤ Int32.toInt (M3597_.1 124 35) ∧ Int32.toInt (M3597_.1 124 35) ≤ 5 := zr_nle_l 1 c3611_ b3609_ b3607_ (by decide)
                        have d3615_ : Int32.toInt (M3597_.1 124 35) > Int32.toInt n1 := Int.not_le.mp ((not_congr (zi_le _ _)).mp c3611_)
                        have b3616_ : 0 ≤ Int32.toInt (M3597_.1 146 (Int32.toNatClampNeg n1)) ∧ Int32.toInt (M3597_.1 146 (Int32.toNatClampNeg n1)) ≤ 6 := pvok_r o3599_ 146 (Int32.toNatClampNeg n1) rfl
                        refine pw_blk hT 5 (S' := (177, [some (pvR 124), some (pvI n1), some (pvI x15_), some (pvI i3z3591_), some (pvI i4z3591_), v5z3591_, v6z3591_], [pvI (M3597_.1 146 (Int32.toNatClampNeg n1))], M3597_)) rfl ⟨trivial, rfl, trivial, ⟨rfl, (zr_in (n := 7) b3607_ (by decide) (by decide))⟩, trivial, trivial⟩ ?_
                        exact pw_ret hT rfl (r := some (pvI (M3597_.1 146 (Int32.toNatClampNeg n1)))) (M' := M3597_) ⟨rfl, rfl⟩ ⟨⟨_, rfl, (zr_wide b3616_ (by decide) (by decide))⟩, o3599_, f3601_, (yGbe0_w oz3591_ o3599_ (show 0 ≤ Int32.toInt i4z3591_ ∧ Int32.toInt i4z3591_ ≤ 5040 from h4z3591_).1 (by have u := b3607_; omega) j1z3591_ d3595_ c3604_ c3611_)⟩
                    · have b3617_ : (-1) ≤ Int32.toInt n1 ∧ Int32.toInt n1 ≤ (-1) := zr_nle_r (-1) c3606_ b13_ (show 0 ≤ Int32.toInt 0 ∧ Int32.toInt 0 ≤ 0 from (by decide)) (by decide)
                      refine pw_blk hT 2 (S' := (177, [some (pvR 124), some (pvI n1), some (pvI x15_), some (pvI i3z3591_), some (pvI i4z3591_), v5z3591_, v6z3591_], [pvI i3z3591_], M3597_)) rfl ⟨trivial, trivial, trivial⟩ ?_
                      exact pw_ret hT rfl (r := some (pvI i3z3591_)) (M' := M3597_) ⟨rfl, rfl⟩ ⟨⟨_, rfl, (zr_wide h3z3591_ (by decide) (by decide))⟩, o3599_, f3601_, (yGbe0_c oz3591_ (show 0 ≤ Int32.toInt i4z3591_ ∧ Int32.toInt i4z3591_ ≤ 5040 from h4z3591_).1 (by have u := b3617_; omega) j1z3591_ d3595_ c3604_ (by have u := b3617_; omega))⟩
                  · have b3618_ : 1 ≤ Int32.toInt x3596_ ∧ Int32.toInt x3596_ ≤ 1 := (by have u0 := b3602_; have u1 := (not_congr (zi_eq _ _)).mp c3604_; have u2 := (show 0 ≤ Int32.toInt 0 ∧ Int32.toInt 0 ≤ 0 from (by decide)); omega)
                    refine pw_blk hT 2 (S' := (93, [some (pvR 124), some (pvI n1), some (pvI x15_), some (pvI i3z3591_), some (pvI i4z3591_), v5z3591_, v6z3591_], [pvI 0, pvR 124], M3597_)) rfl ⟨trivial, trivial, trivial⟩ ?_
                    refine pw_callGd hT (as := [pvR 124, pvI 0]) (lo1 := [some (pvR 124), some (pvI 0), none]) (d1 := d) (rest := []) rfl rfl rfl rfl rfl (fun _ => rfl) (Nat.zero_le _) rfl rfl rfl (se_X10_costOfPath_124_x M3597_ o3599_ 0 (zr_wide (show 0 ≤ Int32.toInt 0 ∧ Int32.toInt 0 ≤ 0 from (by decide)) (by decide) (by decide)) d) (fun x3620_ M3621_ b3622_ o3623_ g3624_ d3619_ => ?_)
                    have f3625_ : pvFr fp_eX10_best_124_x M M3621_ := pvfr_t g3624_ f3601_ fp_eX10_best_124_x_fp_eX10_costOfPath_124_x
                    refine pw_blk hT 2 (S' := (99, [some (pvR 124), some (pvI n1), some (pvI x15_), some (pvI i3z3591_), some (pvI i4z3591_), some (pvI x3620_), v6z3591_], [pvI i3z3591_], M3621_)) rfl ⟨trivial, trivial, trivial⟩ ?_
                    refine pw_if hT (c := i3z3591_ < 0) rfl rfl (fun c3626_ => ?_) (fun c3626_ => ?_)
                    · have b3627_ : (-1) ≤ Int32.toInt i3z3591_ ∧ Int32.toInt i3z3591_ ≤ (-1) := zr_lt_l (-1) c3626_ h3z3591_ (show 0 ≤ Int32.toInt 0 ∧ Int32.toInt 0 ≤ 0 from (by decide)) (by decide)
                      refine pw_blk hT 4 (S' := (117, [some (pvR 124), some (pvI n1), some (pvI x15_), some (pvI x3620_), some (pvI i4z3591_), some (pvI x3620_), some (pvI 0)], [], M3621_)) rfl ⟨trivial, trivial, trivial, trivial, trivial⟩ ?_
                      have e3628_ : (M3621_.1 124 35) = (Mz3591_.1 124 35) := ((g3624_ 124 35 rfl).trans (g3600_ 124 35 rfl))
                      have b3629_ : 0 ≤ Int32.toInt (M3621_.1 124 35) ∧ Int32.toInt (M3621_.1 124 35) ≤ 5 := (by rw [e3628_]; exact b3593_)
                      have d3630_ : Int32.toInt (M3621_.1 124 35) = Int32.toInt (Mz3591_.1 124 35) := congrArg Int32.toInt e3628_
                      have hlz3679_ : ∀ (nz3679_ : Nat) (i6z3679_ : Int32) (Mz3679_ : pvM), (pvOk Mz3679_) → (pvFr fp_eX10_best_124_x M Mz3679_) → (Mz3679_.1 124 35 = M3621_.1 124 35) → (0 ≤ Int32.toInt i6z3679_ ∧ Int32.toInt i6z3679_ ≤ 7) → (yBz M Mz3679_ x15_ x3620_ i4z3591_ i6z3679_) → (zhide ((8 - Int32.toInt i6z3679_).toNat < nz3679_)) → PW 10 d (117, [some (pvR 124), some (pvI n1), some (pvI x15_), some (pvI x3620_), some (pvI i4z3591_), some (pvI x3620_), some (pvI i6z3679_)], [], Mz3679_) (fun r X => (∃ x : Int32, r = some (pvI x) ∧ (-9) ≤ Int32.toInt x ∧ Int32.toInt x ≤ 9000000) ∧ pvOk X ∧ pvFr fp_eX10_best_124_x M X ∧ yA0 (yGbe n1) r M) := by
                        intro nz3679_
                        induction nz3679_ with
                        | zero => intro i6z3679_ Mz3679_ oz3679_ fz3679_ k124_35z3679_ h6z3679_ j0z3679_ hmz3679_; exact absurd (zshow hmz3679_) (Nat.not_lt_zero _)
                        | succ nz3679_ ihz3679_ =>
                          intro i6z3679_ Mz3679_ oz3679_ fz3679_ k124_35z3679_ h6z3679_ j0z3679_ hmz3679_
                          refine pw_blk hT 2 (S' := (121, [some (pvR 124), some (pvI n1), some (pvI x15_), some (pvI x3620_), some (pvI i4z3591_), some (pvI x3620_), some (pvI i6z3679_)], [pvI 7, pvI i6z3679_], Mz3679_)) rfl ⟨trivial, trivial, trivial⟩ ?_
                          refine pw_ic hT (c := 7 ≤ i6z3679_) rfl rfl (fun c3680_ => ?_) (fun c3680_ => ?_)
                          · have b3681_ : 7 ≤ Int32.toInt i6z3679_ ∧ Int32.toInt i6z3679_ ≤ 7 := zr_le_r 7 c3680_ h6z3679_ (show 7 ≤ Int32.toInt 7 ∧ Int32.toInt 7 ≤ 7 from (by decide)) (by decide)
                            obtain ⟨q3683_, b3682_⟩ : (Int32.toInt (i4z3591_ + 1) = Int32.toInt i4z3591_ + 1) ∧ (1 ≤ Int32.toInt (i4z3591_ + 1) ∧ Int32.toInt (i4z3591_ + 1) ≤ 5041) := zadd_k i4z3591_ 1 1 1 5041 h4z3591_ (by decide) (by decide) (by decide) (by decide) (by decide)
                            refine pw_blk hT 2 (S' := (81, [some (pvR 124), some (pvI n1), some (pvI x15_), some (pvI x3620_), some (pvI (i4z3591_ + 1)), some (pvI x3620_), some (pvI i6z3679_)], [], Mz3679_)) rfl ⟨trivial, trivial, trivial⟩ ?_
                            have j3684_ : Int32.toInt (Mz3679_.1 124 35) ≤ zbc x15_ 7 := (by have y01 : Int32.toInt (Mz3679_.1 124 35) = Int32.toInt (M3621_.1 124 35) := congrArg Int32.toInt (k124_35z3679_); have y02 : Int32.toInt (M3621_.1 124 35) = Int32.toInt (Mz3591_.1 124 35) := congrArg Int32.toInt ((g3624_ 124 35 rfl).trans (g3600_ 124 35 rfl)); omega)
                            have j3685_ : yBq M Mz3679_ x15_ x3620_ (i4z3591_ + 1) := (yBq_y j0z3679_ c3680_ (show 0 ≤ Int32.toInt i4z3591_ ∧ Int32.toInt i4z3591_ ≤ 5040 from h4z3591_).2 rfl)
                            exact ihz3591_ x3620_ (i4z3591_ + 1) (some (pvI x3620_)) (some (pvI i6z3679_)) Mz3679_ oz3679_ fz3679_ ((((k124_35z3679_).trans (g3624_ 124 35 rfl)).trans (g3600_ 124 35 rfl)).trans (k124_35z3591_)) (zr_wide b3622_ (by decide) (by decide)) (by have u0 := b3682_; omega) j3684_ j3685_ (zhid (by have hm0 := zshow hmz3591_; have y01 : Int32.toInt (Mz3679_.1 124 35) = Int32.toInt (M3621_.1 124 35) := congrArg Int32.toInt (k124_35z3679_); have y02 : Int32.toInt (M3621_.1 124 35) = Int32.toInt (Mz3591_.1 124 35) := congrArg Int32.toInt ((g3624_ 124 35 rfl).trans (g3600_ 124 35 rfl)); omega))
                          · have b3686_ : 0 ≤ Int32.toInt i6z3679_ ∧ Int32.toInt i6z3679_ ≤ 6 := zr_nle_r 6 c3680_ h6z3679_ (show 7 ≤ Int32.toInt 7 ∧ Int32.toInt 7 ≤ 7 from (by decide)) (by decide)
                            have b3687_ : 0 ≤ Int32.toInt (Mz3679_.1 144 (Int32.toNatClampNeg i6z3679_)) ∧ Int32.toInt (Mz3679_.1 144 (Int32.toNatClampNeg i6z3679_)) ≤ 6 := pvok_r oz3679_ 144 (Int32.toNatClampNeg i6z3679_) rfl
                            refine pw_blkw hT 8 (pc := 138) (lo := [some (pvR 124), some (pvI n1), some (pvI x15_), some (pvI x3620_), some (pvI i4z3591_), some (pvI x3620_), some (pvI i6z3679_)]) (st := []) (M := pvu Mz3679_ 146 (Int32.toNatClampNeg i6z3679_) (Mz3679_.1 144 (Int32.toNatClampNeg i6z3679_))) rfl ⟨trivial, rfl, trivial, trivial, rfl, trivial, ⟨rfl, (zr_in (n := 7) b3686_ (by decide) (by decide))⟩, ⟨rfl, (zr_in (n := 7) b3686_ (by decide) (by decide))⟩, trivial⟩ (fun M3688_ e3689_ => ?_)
                            have o3690_ : pvOk M3688_ := pvok_u2 e3689_ oz3679_ rfl b3687_
                            have f3691_ : pvFr fp_eX10_best_124_x M M3688_ := pvfr_u e3689_ fz3679_ rfl
                            obtain ⟨q3693_, b3692_⟩ : (Int32.toInt (i6z3679_ + 1) = Int32.toInt i6z3679_ + 1) ∧ (1 ≤ Int32.toInt (i6z3679_ + 1) ∧ Int32.toInt (i6z3679_ + 1) ≤ 7) := zadd_k i6z3679_ 1 1 1 7 b3686_ (by decide) (by decide) (by decide) (by decide) (by decide)
                            refine pw_blk hT 2 (S' := (117, [some (pvR 124), some (pvI n1), some (pvI x15_), some (pvI x3620_), some (pvI i4z3591_), some (pvI x3620_), some (pvI (i6z3679_ + 1))], [], M3688_)) rfl ⟨trivial, trivial, trivial⟩ ?_
                            have j3694_ : yBz M M3688_ x15_ x3620_ i4z3591_ (i6z3679_ + 1) := (yBz_s j0z3679_ (show 0 ≤ Int32.toInt i6z3679_ ∧ Int32.toInt i6z3679_ ≤ 6 from b3686_) e3689_ rfl)
                            exact ihz3679_ (i6z3679_ + 1) M3688_ o3690_ f3691_ ((pvu_n e3689_ 124 35 (Or.inl (by decide))).trans (k124_35z3679_)) (zr_wide b3692_ (by decide) (by decide)) j3694_ (zhid (pvms_up (zshow hmz3679_) h6z3679_ q3693_ (by decide) (by decide)))
                      have u3695_ : Int32.toInt 0 = 0 := by decide
                      have j3696_ : yBz M M3621_ x15_ x3620_ i4z3591_ 0 := (yBz_0 oz3591_ (show 0 ≤ Int32.toInt i4z3591_ ∧ Int32.toInt i4z3591_ ≤ 5040 from h4z3591_).1 j1z3591_ d3595_ c3604_ d3619_ rfl (show 0 ≤ Int32.toInt x3620_ ∧ Int32.toInt x3620_ ≤ 9000000 from b3622_).1 (Or.inl (by have v := (zi_lt _ _).mp c3626_; have u0 : (0 : Int32).toInt = 0 := (by decide); omega)) rfl)
                      exact hlz3679_ _ 0 M3621_ o3623_ f3625_ rfl (zr_wide (show 0 ≤ Int32.toInt 0 ∧ Int32.toInt 0 ≤ 0 from (by decide)) (by decide) (by decide)) j3696_ (zhid (Nat.lt_succ_self _))
                    · have b3697_ : 0 ≤ Int32.toInt i3z3591_ ∧ Int32.toInt i3z3591_ ≤ 9000000 := zr_nlt_l 0 c3626_ h3z3591_ (show 0 ≤ Int32.toInt 0 ∧ Int32.toInt 0 ≤ 0 from (by decide)) (by decide)
                      refine pw_blk hT 2 (S' := (105, [some (pvR 124), some (pvI n1), some (pvI x15_), some (pvI i3z3591_), some (pvI i4z3591_), some (pvI x3620_), v6z3591_], [pvI i3z3591_, pvI x3620_], M3621_)) rfl ⟨trivial, trivial, trivial⟩ ?_
                      refine pw_ic hT (c := x3620_ < i3z3591_) rfl rfl (fun c3698_ => ?_) (fun c3698_ => ?_)
                      · have b3699_ : 0 ≤ Int32.toInt x3620_ ∧ Int32.toInt x3620_ ≤ 8999999 := zr_lt_l 8999999 c3698_ b3622_ b3697_ (by decide)
                        have b3700_ : 1 ≤ Int32.toInt i3z3591_ ∧ Int32.toInt i3z3591_ ≤ 9000000 := zr_lt_r 1 c3698_ b3697_ b3699_ (by decide)
                        have d3701_ : Int32.toInt x3620_ < Int32.toInt i3z3591_ := (zi_lt _ _).mp c3698_
                        refine pw_blk hT 4 (S' := (117, [some (pvR 124), some (pvI n1), some (pvI x15_), some (pvI x3620_), some (pvI i4z3591_), some (pvI x3620_), some (pvI 0)], [], M3621_)) rfl ⟨trivial, trivial, trivial, trivial, trivial⟩ ?_
                        have e3702_ : (M3621_.1 124 35) = (Mz3591_.1 124 35) := ((g3624_ 124 35 rfl).trans (g3600_ 124 35 rfl))
                        have b3703_ : 0 ≤ Int32.toInt (M3621_.1 124 35) ∧ Int32.toInt (M3621_.1 124 35) ≤ 5 := (by rw [e3702_]; exact b3593_)
                        have d3704_ : Int32.toInt (M3621_.1 124 35) = Int32.toInt (Mz3591_.1 124 35) := congrArg Int32.toInt e3702_
                        have hlz3753_ : ∀ (nz3753_ : Nat) (i6z3753_ : Int32) (Mz3753_ : pvM), (pvOk Mz3753_) → (pvFr fp_eX10_best_124_x M Mz3753_) → (Mz3753_.1 124 35 = M3621_.1 124 35) → (0 ≤ Int32.toInt i6z3753_ ∧ Int32.toInt i6z3753_ ≤ 7) → (yBz M Mz3753_ x15_ x3620_ i4z3591_ i6z3753_) → (zhide ((8 - Int32.toInt i6z3753_).toNat < nz3753_)) → PW 10 d (117, [some (pvR 124), some (pvI n1), some (pvI x15_), some (pvI x3620_), some (pvI i4z3591_), some (pvI x3620_), some (pvI i6z3753_)], [], Mz3753_) (fun r X => (∃ x : Int32, r = some (pvI x) ∧ (-9) ≤ Int32.toInt x ∧ Int32.toInt x ≤ 9000000) ∧ pvOk X ∧ pvFr fp_eX10_best_124_x M X ∧ yA0 (yGbe n1) r M) := by
                          intro nz3753_
                          induction nz3753_ with
                          | zero => intro i6z3753_ Mz3753_ oz3753_ fz3753_ k124_35z3753_ h6z3753_ j0z3753_ hmz3753_; exact absurd (zshow hmz3753_) (Nat.not_lt_zero _)
                          | succ nz3753_ ihz3753_ =>
                            intro i6z3753_ Mz3753_ oz3753_ fz3753_ k124_35z3753_ h6z3753_ j0z3753_ hmz3753_
                            refine pw_blk hT 2 (S' := (121, [some (pvR 124), some (pvI n1), some (pvI x15_), some (pvI x3620_), some (pvI i4z3591_), some (pvI x3620_), some (pvI i6z3753_)], [pvI 7, pvI i6z3753_], Mz3753_)) rfl ⟨trivial, trivial, trivial⟩ ?_
                            refine pw_ic hT (c := 7 ≤ i6z3753_) rfl rfl (fun c3754_ => ?_) (fun c3754_ => ?_)
                            · have b3755_ : 7 ≤ Int32.toInt i6z3753_ ∧ Int32.toInt i6z3753_ ≤ 7 := zr_le_r 7 c3754_ h6z3753_ (show 7 ≤ Int32.toInt 7 ∧ Int32.toInt 7 ≤ 7 from (by decide)) (by decide)
                              obtain ⟨q3757_, b3756_⟩ : (Int32.toInt (i4z3591_ + 1) = Int32.toInt i4z3591_ + 1) ∧ (1 ≤ Int32.toInt (i4z3591_ + 1) ∧ Int32.toInt (i4z3591_ + 1) ≤ 5041) := zadd_k i4z3591_ 1 1 1 5041 h4z3591_ (by decide) (by decide) (by decide) (by decide) (by decide)
                              refine pw_blk hT 2 (S' := (81, [some (pvR 124), some (pvI n1), some (pvI x15_), some (pvI x3620_), some (pvI (i4z3591_ + 1)), some (pvI x3620_), some (pvI i6z3753_)], [], Mz3753_)) rfl ⟨trivial, trivial, trivial⟩ ?_
                              have j3758_ : Int32.toInt (Mz3753_.1 124 35) ≤ zbc x15_ 7 := (by have y01 : Int32.toInt (Mz3753_.1 124 35) = Int32.toInt (M3621_.1 124 35) := congrArg Int32.toInt (k124_35z3753_); have y02 : Int32.toInt (M3621_.1 124 35) = Int32.toInt (Mz3591_.1 124 35) := congrArg Int32.toInt ((g3624_ 124 35 rfl).trans (g3600_ 124 35 rfl)); omega)
                              have j3759_ : yBq M Mz3753_ x15_ x3620_ (i4z3591_ + 1) := (yBq_y j0z3753_ c3754_ (show 0 ≤ Int32.toInt i4z3591_ ∧ Int32.toInt i4z3591_ ≤ 5040 from h4z3591_).2 rfl)
                              exact ihz3591_ x3620_ (i4z3591_ + 1) (some (pvI x3620_)) (some (pvI i6z3753_)) Mz3753_ oz3753_ fz3753_ ((((k124_35z3753_).trans (g3624_ 124 35 rfl)).trans (g3600_ 124 35 rfl)).trans (k124_35z3591_)) (zr_wide b3699_ (by decide) (by decide)) (by have u0 := b3756_; omega) j3758_ j3759_ (zhid (by have hm0 := zshow hmz3591_; have y01 : Int32.toInt (Mz3753_.1 124 35) = Int32.toInt (M3621_.1 124 35) := congrArg Int32.toInt (k124_35z3753_); have y02 : Int32.toInt (M3621_.1 124 35) = Int32.toInt (Mz3591_.1 124 35) := congrArg Int32.toInt ((g3624_ 124 35 rfl).trans (g3600_ 124 35 rfl)); omega))
                            · have b3760_ : 0 ≤ Int32.toInt i6z3753_ ∧ Int32.toInt i6z3753_ ≤ 6 := zr_nle_r 6 c3754_ h6z3753_ (show 7 ≤ Int32.toInt 7 ∧ Int32.toInt 7 ≤ 7 from (by decide)) (by decide)
                              have b3761_ : 0 ≤ Int32.toInt (Mz3753_.1 144 (Int32.toNatClampNeg i6z3753_)) ∧ Int32.toInt (Mz3753_.1 144 (Int32.toNatClampNeg i6z3753_)) ≤ 6 := pvok_r oz3753_ 144 (Int32.toNatClampNeg i6z3753_) rfl
                              refine pw_blkw hT 8 (pc := 138) (lo := [some (pvR 124), some (pvI n1), some (pvI x15_), some (pvI x3620_), some (pvI i4z3591_), some (pvI x3620_), some (pvI i6z3753_)]) (st := []) (M := pvu Mz3753_ 146 (Int32.toNatClampNeg i6z3753_) (Mz3753_.1 144 (Int32.toNatClampNeg i6z3753_))) rfl ⟨trivial, rfl, trivial, trivial, rfl, trivial, ⟨rfl, (zr_in (n := 7) b3760_ (by decide) (by decide))⟩, ⟨rfl, (zr_in (n := 7) b3760_ (by decide) (by decide))⟩, trivial⟩ (fun M3762_ e3763_ => ?_)
                              have o3764_ : pvOk M3762_ := pvok_u2 e3763_ oz3753_ rfl b3761_
                              have f3765_ : pvFr fp_eX10_best_124_x M M3762_ := pvfr_u e3763_ fz3753_ rfl
                              obtain ⟨q3767_, b3766_⟩ : (Int32.toInt (i6z3753_ + 1) = Int32.toInt i6z3753_ + 1) ∧ (1 ≤ Int32.toInt (i6z3753_ + 1) ∧ Int32.toInt (i6z3753_ + 1) ≤ 7) := zadd_k i6z3753_ 1 1 1 7 b3760_ (by decide) (by decide) (by decide) (by decide) (by decide)
                              refine pw_blk hT 2 (S' := (117, [some (pvR 124), some (pvI n1), some (pvI x15_), some (pvI x3620_), some (pvI i4z3591_), some (pvI x3620_), some (pvI (i6z3753_ + 1))], [], M3762_)) rfl ⟨trivial, trivial, trivial⟩ ?_
                              have j3768_ : yBz M M3762_ x15_ x3620_ i4z3591_ (i6z3753_ + 1) := (yBz_s j0z3753_ (show 0 ≤ Int32.toInt i6z3753_ ∧ Int32.toInt i6z3753_ ≤ 6 from b3760_) e3763_ rfl)
                              exact ihz3753_ (i6z3753_ + 1) M3762_ o3764_ f3765_ ((pvu_n e3763_ 124 35 (Or.inl (by decide))).trans (k124_35z3753_)) (zr_wide b3766_ (by decide) (by decide)) j3768_ (zhid (pvms_up (zshow hmz3753_) h6z3753_ q3767_ (by decide) (by decide)))
                        have u3769_ : Int32.toInt 0 = 0 := by decide
                        have j3770_ : yBz M M3621_ x15_ x3620_ i4z3591_ 0 := (yBz_0 oz3591_ (show 0 ≤ Int32.toInt i4z3591_ ∧ Int32.toInt i4z3591_ ≤ 5040 from h4z3591_).1 j1z3591_ d3595_ c3604_ d3619_ rfl (show 0 ≤ Int32.toInt x3620_ ∧ Int32.toInt x3620_ ≤ 9000000 from (zr_wide b3699_ (by decide) (by decide))).1 (Or.inr ((zi_lt _ _).mp c3698_)) rfl)
                        exact hlz3753_ _ 0 M3621_ o3623_ f3625_ rfl (zr_wide (show 0 ≤ Int32.toInt 0 ∧ Int32.toInt 0 ≤ 0 from (by decide)) (by decide) (by decide)) j3770_ (zhid (Nat.lt_succ_self _))
                      · have d3771_ : Int32.toInt x3620_ ≥ Int32.toInt i3z3591_ := Int.not_lt.mp ((not_congr (zi_lt _ _)).mp c3698_)
                        obtain ⟨q3773_, b3772_⟩ : (Int32.toInt (i4z3591_ + 1) = Int32.toInt i4z3591_ + 1) ∧ (1 ≤ Int32.toInt (i4z3591_ + 1) ∧ Int32.toInt (i4z3591_ + 1) ≤ 5041) := zadd_k i4z3591_ 1 1 1 5041 h4z3591_ (by decide) (by decide) (by decide) (by decide) (by decide)
                        refine pw_blk hT 3 (S' := (81, [some (pvR 124), some (pvI n1), some (pvI x15_), some (pvI i3z3591_), some (pvI (i4z3591_ + 1)), some (pvI x3620_), v6z3591_], [], M3621_)) rfl ⟨trivial, trivial, trivial, trivial⟩ ?_
                        have j3774_ : Int32.toInt (M3621_.1 124 35) ≤ zbc x15_ 7 := (by have y01 : Int32.toInt (M3621_.1 124 35) = Int32.toInt (Mz3591_.1 124 35) := congrArg Int32.toInt ((g3624_ 124 35 rfl).trans (g3600_ 124 35 rfl)); omega)
                        have j3775_ : yBq M M3621_ x15_ i3z3591_ (i4z3591_ + 1) := (yBq_n oz3591_ (show 0 ≤ Int32.toInt i4z3591_ ∧ Int32.toInt i4z3591_ ≤ 5040 from h4z3591_) j1z3591_ d3595_ c3604_ d3619_ rfl (fun z => c3626_ ((zi_lt _ _).mpr (by have u0 : (0 : Int32).toInt = 0 := (by decide); omega))) ((not_congr (zi_lt _ _)).mp c3698_) rfl)
                        exact ihz3591_ i3z3591_ (i4z3591_ + 1) (some (pvI x3620_)) v6z3591_ M3621_ o3623_ f3625_ (((g3624_ 124 35 rfl).trans (g3600_ 124 35 rfl)).trans (k124_35z3591_)) (zr_wide b3697_ (by decide) (by decide)) (by have u0 := b3772_; omega) j3774_ j3775_ (zhid (by have hm0 := zshow hmz3591_; have y01 : Int32.toInt (M3621_.1 124 35) = Int32.toInt (Mz3591_.1 124 35) := congrArg Int32.toInt ((g3624_ 124 35 rfl).trans (g3600_ 124 35 rfl)); omega))
              have u3776_ : Int32.toInt (-1) = (-1) := by decide
              have u3777_ : Int32.toInt 0 = 0 := by decide
              have j3778_ : Int32.toInt (M3046_.1 124 35) ≤ zbc x15_ 7 := (by have z0 := j1z3037_; have z1 := ztn i3z3037_ (by omega); have z := zlc_le (x := x15_) b20_ (k := Int32.toNatClampNeg i3z3037_) (by omega); have y01 : Int32.toInt (M3046_.1 124 35) = Int32.toInt (Mz3037_.1 124 35) := congrArg Int32.toInt (g3049_ 124 35 rfl); omega)
              have j3779_ : yBq M M3046_ x15_ (-1) 0 := (yBq_0 (yL0_b (L := fpL_eX10_best_124_x) fz3037_ rfl) (fz3037_ 124 4 rfl) (fz3037_ 124 3 rfl) d3044_ (g3049_ 124 35 rfl) j2z3037_ c3040_ c3042_ d21_ (by decide) rfl)
              exact hlz3591_ _ (-1) 0 none none M3046_ o3048_ f3050_ rfl (zr_wide (show (-1) ≤ Int32.toInt (-1) ∧ Int32.toInt (-1) ≤ (-1) from (by decide)) (by decide) (by decide)) (zr_wide (show 0 ≤ Int32.toInt 0 ∧ Int32.toInt 0 ≤ 0 from (by decide)) (by decide) (by decide)) j3778_ j3779_ (zhid (Nat.lt_succ_self _))
            · have b3780_ : 6 ≤ Int32.toInt (Mz3037_.1 124 35) ∧ Int32.toInt (Mz3037_.1 124 35) ≤ 7 := zr_nle_l 6 c3042_ b3038_ (show 5 ≤ Int32.toInt 5 ∧ Int32.toInt 5 ≤ 5 from (by decide)) (by decide)
              refine pw_blk hT 1 (S' := (71, [some (pvR 124), some (pvI n1), some (pvI x15_), some (pvI i3z3037_), none, none, none], [pvI (-9)], Mz3037_)) rfl ⟨trivial, trivial⟩ ?_
              exact pw_ret hT rfl (r := some (pvI (-9))) (M' := Mz3037_) ⟨rfl, rfl⟩ ⟨⟨_, rfl, (zr_wide (show (-9) ≤ Int32.toInt (-9) ∧ Int32.toInt (-9) ≤ (-9) from (by decide)) (by decide) (by decide))⟩, oz3037_, fz3037_, (yGbe0_9 oz3037_ (yL0_b (L := fpL_eX10_best_124_x) fz3037_ rfl) (by have u := b13_; omega) j2z3037_ c3040_ c3042_ d21_ (by decide))⟩
          · have b3781_ : 1 ≤ Int32.toInt (Mz3037_.1 124 0) ∧ Int32.toInt (Mz3037_.1 124 0) ≤ 7 := zr_nle_l 1 c3040_ b3039_ h3z3037_ (by decide)
            have b3782_ : 0 ≤ Int32.toInt i3z3037_ ∧ Int32.toInt i3z3037_ ≤ 6 := zr_nle_r 6 c3040_ h3z3037_ b3781_ (by decide)
            have d3783_ : Int32.toInt (Mz3037_.1 124 0) > Int32.toInt i3z3037_ := Int.not_le.mp ((not_congr (zi_le _ _)).mp c3040_)
            refine pw_blk hT 6 (S' := (40, [some (pvR 124), some (pvI n1), some (pvI x15_), some (pvI i3z3037_), none, none, none], [pvI i3z3037_, pvI x15_, pvR 124, pvI (Mz3037_.1 124 35), pvR 124], Mz3037_)) rfl ⟨trivial, trivial, rfl, trivial, trivial, trivial, trivial⟩ ?_
            refine pw_callT hT (as := [pvR 124, pvI x15_, pvI i3z3037_]) (lo1 := [some (pvR 124), some (pvI x15_), some (pvI i3z3037_)]) (d1 := d) (rest := [pvI (Mz3037_.1 124 35), pvR 124]) rfl rfl rfl rfl rfl (fun _ => rfl) (Nat.zero_le _) rfl rfl rfl (sf_X10_has_124_x_x Mz3037_ oz3037_ x15_ i3z3037_ d) ?_
            by_cases c3789_ : ((x15_ >>> (i3z3037_ &&& 31)) &&& 1) = 1
            · refine pw_eqI (if_pos c3789_) ?_
              have b3790_ : 1 ≤ Int32.toInt ((x15_ >>> (i3z3037_ &&& 31)) &&& 1) ∧ Int32.toInt ((x15_ >>> (i3z3037_ &&& 31)) &&& 1) ≤ 1 := (by have u0 := (zbnd ((x15_ >>> (i3z3037_ &&& 31)) &&& 1)); have u1 := (zi_eq _ _).mp c3789_; have u2 := (show 1 ≤ Int32.toInt 1 ∧ Int32.toInt 1 ≤ 1 from (by decide)); omega)
              show PW 10 d (43, [some (pvR 124), some (pvI n1), some (pvI x15_), some (pvI i3z3037_), none, none, none], [pvI 1, pvI (Mz3037_.1 124 35), pvR 124], Mz3037_) _
              refine pw_if hT (c := 1 = 0) rfl rfl (fun c3791_ => absurd c3791_ (by decide)) (fun c3791_ => ?_)
              obtain ⟨q3793_, b3792_⟩ : (Int32.toInt ((Mz3037_.1 124 35) + 1) = Int32.toInt (Mz3037_.1 124 35) + 1) ∧ (1 ≤ Int32.toInt ((Mz3037_.1 124 35) + 1) ∧ Int32.toInt ((Mz3037_.1 124 35) + 1) ≤ 8) := zadd_k (Mz3037_.1 124 35) 1 1 1 8 b3038_ (by decide) (by decide) (by decide) (by decide) (by decide)
              refine pw_blkw hT 4 (pc := 55) (lo := [some (pvR 124), some (pvI n1), some (pvI x15_), some (pvI i3z3037_), none, none, none]) (st := []) (M := pvu Mz3037_ 124 35 ((Mz3037_.1 124 35) + 1)) rfl ⟨trivial, trivial, trivial, rfl, trivial⟩ (fun M3794_ e3795_ => ?_)
              have o3796_ : pvOk M3794_ := pvok_u2 e3795_ oz3037_ rfl (by have u0 := b3792_; omega)
              have f3797_ : pvFr fp_eX10_best_124_x M M3794_ := pvfr_u e3795_ fz3037_ rfl
              obtain ⟨q3799_, b3798_⟩ : (Int32.toInt (i3z3037_ + 1) = Int32.toInt i3z3037_ + 1) ∧ (1 ≤ Int32.toInt (i3z3037_ + 1) ∧ Int32.toInt (i3z3037_ + 1) ≤ 7) := zadd_k i3z3037_ 1 1 1 7 b3782_ (by decide) (by decide) (by decide) (by decide) (by decide)
              refine pw_blk hT 2 (S' := (24, [some (pvR 124), some (pvI n1), some (pvI x15_), some (pvI (i3z3037_ + 1)), none, none, none], [], M3794_)) rfl ⟨trivial, trivial, trivial⟩ ?_
              have j3800_ : Int32.toInt (M3794_.1 124 35) ≤ Int32.toInt (i3z3037_ + 1) := by have y01 : Int32.toInt (M3794_.1 124 35) = Int32.toInt ((Mz3037_.1 124 35) + 1) := congrArg Int32.toInt (pvu_s e3795_); omega
              have j3801_ : Int32.toInt (M3794_.1 124 35) ≤ zlc x15_ (Int32.toNatClampNeg (i3z3037_ + 1)) := (zlc_s j1z3037_ (by omega) (by omega) (fun _ => by have y01 : Int32.toInt (M3794_.1 124 35) = Int32.toInt ((Mz3037_.1 124 35) + 1) := congrArg Int32.toInt (pvu_s e3795_); omega) (fun z => absurd c3789_ z))
              have j3802_ : yBc x15_ M3794_ (i3z3037_ + 1) := (yBc_s oz3037_ j2z3037_ (show 0 ≤ Int32.toInt x15_ ∧ Int32.toInt x15_ ≤ 127 from b20_) (show 0 ≤ Int32.toInt i3z3037_ ∧ Int32.toInt i3z3037_ ≤ 6 from b3782_) e3795_ (Or.inl ⟨c3789_, rfl⟩) rfl)
              exact ihz3037_ (i3z3037_ + 1) M3794_ o3796_ f3797_ (zr_wide b3798_ (by decide) (by decide)) j3800_ j3801_ j3802_ (zhid (by have hm0 := zshow hmz3037_; have y01 : Int32.toInt (M3794_.1 124 35) = Int32.toInt ((Mz3037_.1 124 35) + 1) := congrArg Int32.toInt (pvu_s e3795_); omega))
            · refine pw_eqI (if_neg c3789_) ?_
              show PW 10 d (43, [some (pvR 124), some (pvI n1), some (pvI x15_), some (pvI i3z3037_), none, none, none], [pvI 0, pvI (Mz3037_.1 124 35), pvR 124], Mz3037_) _
              refine pw_if hT (c := 0 = 0) rfl rfl (fun c3803_ => ?_) (fun c3803_ => absurd (by decide) c3803_)
              obtain ⟨q3805_, b3804_⟩ : (Int32.toInt ((Mz3037_.1 124 35) + 0) = Int32.toInt (Mz3037_.1 124 35) + 0) ∧ (0 ≤ Int32.toInt ((Mz3037_.1 124 35) + 0) ∧ Int32.toInt ((Mz3037_.1 124 35) + 0) ≤ 7) := zadd_k (Mz3037_.1 124 35) 0 0 0 7 b3038_ (by decide) (by decide) (by decide) (by decide) (by decide)
              refine pw_blkw hT 3 (pc := 55) (lo := [some (pvR 124), some (pvI n1), some (pvI x15_), some (pvI i3z3037_), none, none, none]) (st := []) (M := pvu Mz3037_ 124 35 ((Mz3037_.1 124 35) + 0)) rfl ⟨trivial, trivial, rfl, trivial⟩ (fun M3806_ e3807_ => ?_)
              have o3808_ : pvOk M3806_ := pvok_u2 e3807_ oz3037_ rfl b3804_
              have f3809_ : pvFr fp_eX10_best_124_x M M3806_ := pvfr_u e3807_ fz3037_ rfl
              obtain ⟨q3811_, b3810_⟩ : (Int32.toInt (i3z3037_ + 1) = Int32.toInt i3z3037_ + 1) ∧ (1 ≤ Int32.toInt (i3z3037_ + 1) ∧ Int32.toInt (i3z3037_ + 1) ≤ 7) := zadd_k i3z3037_ 1 1 1 7 b3782_ (by decide) (by decide) (by decide) (by decide) (by decide)
              refine pw_blk hT 2 (S' := (24, [some (pvR 124), some (pvI n1), some (pvI x15_), some (pvI (i3z3037_ + 1)), none, none, none], [], M3806_)) rfl ⟨trivial, trivial, trivial⟩ ?_
              have j3812_ : Int32.toInt (M3806_.1 124 35) ≤ Int32.toInt (i3z3037_ + 1) := by have y01 : Int32.toInt (M3806_.1 124 35) = Int32.toInt ((Mz3037_.1 124 35) + 0) := congrArg Int32.toInt (pvu_s e3807_); omega
              have j3813_ : Int32.toInt (M3806_.1 124 35) ≤ zlc x15_ (Int32.toNatClampNeg (i3z3037_ + 1)) := (zlc_s j1z3037_ (by omega) (by omega) (fun z => absurd z c3789_) (fun _ => by have y01 : Int32.toInt (M3806_.1 124 35) = Int32.toInt ((Mz3037_.1 124 35) + 0) := congrArg Int32.toInt (pvu_s e3807_); omega))
              have j3814_ : yBc x15_ M3806_ (i3z3037_ + 1) := (yBc_s oz3037_ j2z3037_ (show 0 ≤ Int32.toInt x15_ ∧ Int32.toInt x15_ ≤ 127 from b20_) (show 0 ≤ Int32.toInt i3z3037_ ∧ Int32.toInt i3z3037_ ≤ 6 from b3782_) e3807_ (Or.inr ⟨c3789_, rfl⟩) rfl)
              exact ihz3037_ (i3z3037_ + 1) M3806_ o3808_ f3809_ (zr_wide b3810_ (by decide) (by decide)) j3812_ j3813_ j3814_ (zhid (by have hm0 := zshow hmz3037_; have y01 : Int32.toInt (M3806_.1 124 35) = Int32.toInt ((Mz3037_.1 124 35) + 0) := congrArg Int32.toInt (pvu_s e3807_); omega))
      have u3815_ : Int32.toInt 0 = 0 := by decide
      have j3816_ : Int32.toInt (M22_.1 124 35) ≤ Int32.toInt 0 := by have y01 : Int32.toInt (M22_.1 124 35) = Int32.toInt 0 := congrArg Int32.toInt (pvu_s e23_); have y03 : Int32.toInt 0 = 0 := (by decide); omega
      have j3817_ : Int32.toInt (M22_.1 124 35) ≤ zlc x15_ (Int32.toNatClampNeg 0) := (by have y01 : Int32.toInt (M22_.1 124 35) = Int32.toInt 0 := congrArg Int32.toInt (pvu_s e23_); have y03 : Int32.toInt 0 = 0 := (by decide); show _ ≤ (0 : Int); omega)
      have j3818_ : yBc x15_ M22_ 0 := (yBc_0 (by rw [(pvu_s e23_)]; decide) rfl)
      exact hlz3037_ _ 0 M22_ o24_ f25_ (zr_wide (show 0 ≤ Int32.toInt 0 ∧ Int32.toInt 0 ≤ 0 from (by decide)) (by decide) (by decide)) j3816_ j3817_ j3818_ (zhid (Nat.lt_succ_self _))
def fpL_eX10_book_124_x_x : List (Nat × Nat × Nat) := [(0, 124, 44), (0, 149, 0), (0, 150, 0)]
def fp_eX10_book_124_x_x (q k : Nat) : Bool := pvfp fpL_eX10_book_124_x_x q k
set_option maxHeartbeats 4000000 in
set_option maxRecDepth 10000 in
theorem se_X10_book_124_x_x (M : pvM) (hok : pvOk M) (n1 : Int32) (n2 : Int32) (d : Nat) : PW 12 d (0, [some (pvR 124), some (pvI n1), some (pvI n2)], [], M) (fun r X => (∃ x : Int32, r = some (pvI x) ∧ ((-4) ≤ Int32.toInt x ∧ Int32.toInt x ≤ 8) ∧ x = (if n1 = (-1) then 0 else (if n1 < 0 then (-1) else (if ((M.1 124 0) - 1) < n1 then (-1) else (if n2 < 0 then (-2) else (if 9999 < n2 then (-2) else (if (M.1 124 43) = 8 then (-4) else ((M.1 124 43) + 1)))))))) ∧ pvOk X ∧ pvFr fp_eX10_book_124_x_x M X ∧ zBk 124 43 149 150 124 0 8 n1 n2 r M X ∧ X.1 124 43 = (if n1 = (-1) then 0 else (if n1 < 0 then (M.1 124 43) else (if ((M.1 124 0) - 1) < n1 then (M.1 124 43) else (if n2 < 0 then (M.1 124 43) else (if 9999 < n2 then (M.1 124 43) else (if (M.1 124 43) = 8 then (M.1 124 43) else ((M.1 124 43) + 1)))))))) := by
  have hT : pvdom 12 = pvD_12 := rfl
  refine pw_blk hT 2 (S' := (2, [some (pvR 124), some (pvI n1), some (pvI n2)], [pvI (-1), pvI n1], M)) rfl ⟨trivial, trivial, trivial⟩ ?_
  refine pw_icn hT (c := n1 = (-1)) rfl rfl (fun c1_ => ?_) (fun c1_ => ?_)
  · refine pw_blk hT 2 (S' := (14, [some (pvR 124), some (pvI n1), some (pvI n2)], [pvI n1, pvR 124], M)) rfl ⟨trivial, trivial, trivial⟩ ?_
    refine pw_callT hT (as := [pvR 124, pvI n1]) (lo1 := [some (pvR 124), some (pvI n1)]) (d1 := d) (rest := []) rfl rfl rfl rfl rfl (fun _ => rfl) (Nat.zero_le _) rfl rfl rfl (sf_X10_isWindow_124_x M hok n1 d) ?_
    by_cases c7_ : n1 < 0
    · refine pw_eqI (if_pos c7_) ?_
      have b8_ : (-2147483648) ≤ Int32.toInt n1 ∧ Int32.toInt n1 ≤ (-2) := (by have u0 := (zbnd n1); have u9 := (show _ ∧ _ from ⟨(zi_lt _ _).mp c7_, (show 0 ≤ Int32.toInt 0 ∧ Int32.toInt 0 ≤ 0 from (by decide))⟩); have v1 := (not_congr (zi_eq _ _)).mp c1_; have w1 : ((-1) : Int32).toInt = -1 := (by decide); omega)
      show PW 12 d (17, [some (pvR 124), some (pvI n1), some (pvI n2)], [pvI 0], M) _
      refine pw_ifn hT (c := 0 = 0) rfl rfl (fun c9_ => absurd (by decide) c9_) (fun c9_ => ?_)
      refine pw_blk hT 1 (S' := (21, [some (pvR 124), some (pvI n1), some (pvI n2)], [pvI (-1)], M)) rfl ⟨trivial, trivial⟩ ?_
      exact pw_ret hT rfl (r := some (pvI (-1))) (M' := M) ⟨rfl, rfl⟩ ⟨⟨_, rfl, (zr_wide (show (-1) ≤ Int32.toInt (-1) ∧ Int32.toInt (-1) ≤ (-1) from (by decide)) (by decide) (by decide)), (by rw [if_neg c1_, if_pos c7_]; first | done | (rw [if_pos c7_]; done))⟩, hok, pvfr_0, (zBk_n (by decide)), (by rw [if_neg c1_, if_pos c7_]; first | done | exact rfl | (rw [if_pos c7_]; done) | (rw [if_pos c7_]; exact rfl))⟩
    · refine pw_eqI (if_neg c7_) ?_
      have b10_ : 0 ≤ Int32.toInt n1 ∧ Int32.toInt n1 ≤ 2147483647 := zr_nlt_l 0 c7_ (zbnd n1) (show 0 ≤ Int32.toInt 0 ∧ Int32.toInt 0 ≤ 0 from (by decide)) (by decide)
      have b11_ : 0 ≤ Int32.toInt (M.1 124 0) ∧ Int32.toInt (M.1 124 0) ≤ 7 := pvok_r hok 124 0 rfl
      obtain ⟨q13_, b12_⟩ : (Int32.toInt ((M.1 124 0) - 1) = Int32.toInt (M.1 124 0) - 1) ∧ ((-1) ≤ Int32.toInt ((M.1 124 0) - 1) ∧ Int32.toInt ((M.1 124 0) - 1) ≤ 6) := zsub_k (M.1 124 0) 1 1 (-1) 6 b11_ (by decide) (by decide) (by decide) (by decide) (by decide)
      by_cases c14_ : ((M.1 124 0) - 1) < n1
      · refine pw_eqI (if_pos c14_) ?_
        have d15_ : Int32.toInt ((M.1 124 0) - 1) < Int32.toInt n1 := (zi_lt _ _).mp c14_
        show PW 12 d (17, [some (pvR 124), some (pvI n1), some (pvI n2)], [pvI 0], M) _
        refine pw_ifn hT (c := 0 = 0) rfl rfl (fun c16_ => absurd (by decide) c16_) (fun c16_ => ?_)
        refine pw_blk hT 1 (S' := (21, [some (pvR 124), some (pvI n1), some (pvI n2)], [pvI (-1)], M)) rfl ⟨trivial, trivial⟩ ?_
        exact pw_ret hT rfl (r := some (pvI (-1))) (M' := M) ⟨rfl, rfl⟩ ⟨⟨_, rfl, (zr_wide (show (-1) ≤ Int32.toInt (-1) ∧ Int32.toInt (-1) ≤ (-1) from (by decide)) (by decide) (by decide)), (by rw [if_neg c1_, if_neg c7_, if_pos c14_]; first | done | (rw [if_pos c14_]; done))⟩, hok, pvfr_0, (zBk_n (by decide)), (by rw [if_neg c1_, if_neg c7_, if_pos c14_]; first | done | exact rfl | (rw [if_pos c14_]; done) | (rw [if_pos c14_]; exact rfl))⟩
      · refine pw_eqI (if_neg c14_) ?_
        have b17_ : 0 ≤ Int32.toInt ((M.1 124 0) - 1) ∧ Int32.toInt ((M.1 124 0) - 1) ≤ 6 := zr_nlt_l 0 c14_ b12_ b10_ (by decide)
        have b18_ : 0 ≤ Int32.toInt n1 ∧ Int32.toInt n1 ≤ 6 := zr_nlt_r 6 c14_ b10_ b17_ (by decide)
        have d19_ : Int32.toInt ((M.1 124 0) - 1) ≥ Int32.toInt n1 := Int.not_lt.mp ((not_congr (zi_lt _ _)).mp c14_)
        show PW 12 d (17, [some (pvR 124), some (pvI n1), some (pvI n2)], [pvI 1], M) _
        refine pw_ifn hT (c := 1 = 0) rfl rfl (fun c20_ => ?_) (fun c20_ => absurd c20_ (by decide))
        refine pw_blk hT 4 (S' := (28, [some (pvR 124), some (pvI n1), some (pvI n2)], [pvI 9999, pvI 0, pvI n2, pvR 124], M)) rfl ⟨trivial, trivial, trivial, trivial, trivial⟩ ?_
        refine pw_callT hT (as := [pvR 124, pvI n2, pvI 0, pvI 9999]) (lo1 := [some (pvR 124), some (pvI n2), some (pvI 0), some (pvI 9999)]) (d1 := d) (rest := []) rfl rfl rfl rfl rfl (fun _ => rfl) (Nat.zero_le _) rfl rfl rfl (sf_X10_in_124_x_x_x M hok n2 0 9999 d) ?_
        by_cases c26_ : n2 < 0
        · refine pw_eqI (if_pos c26_) ?_
          have b27_ : (-2147483648) ≤ Int32.toInt n2 ∧ Int32.toInt n2 ≤ (-1) := zr_lt_l (-1) c26_ (zbnd n2) (show 0 ≤ Int32.toInt 0 ∧ Int32.toInt 0 ≤ 0 from (by decide)) (by decide)
          show PW 12 d (31, [some (pvR 124), some (pvI n1), some (pvI n2)], [pvI 0], M) _
          refine pw_ifn hT (c := 0 = 0) rfl rfl (fun c28_ => absurd (by decide) c28_) (fun c28_ => ?_)
          refine pw_blk hT 1 (S' := (36, [some (pvR 124), some (pvI n1), some (pvI n2)], [pvI (-2)], M)) rfl ⟨trivial, trivial⟩ ?_
          exact pw_ret hT rfl (r := some (pvI (-2))) (M' := M) ⟨rfl, rfl⟩ ⟨⟨_, rfl, (zr_wide (show (-2) ≤ Int32.toInt (-2) ∧ Int32.toInt (-2) ≤ (-2) from (by decide)) (by decide) (by decide)), (by rw [if_neg c1_, if_neg c7_, if_neg c14_, if_pos c26_]; first | done | (rw [if_pos c26_]; done))⟩, hok, pvfr_0, (zBk_n (by decide)), (by rw [if_neg c1_, if_neg c7_, if_neg c14_, if_pos c26_]; first | done | exact rfl | (rw [if_pos c26_]; done) | (rw [if_pos c26_]; exact rfl))⟩
        · refine pw_eqI (if_neg c26_) ?_
          have b29_ : 0 ≤ Int32.toInt n2 ∧ Int32.toInt n2 ≤ 2147483647 := zr_nlt_l 0 c26_ (zbnd n2) (show 0 ≤ Int32.toInt 0 ∧ Int32.toInt 0 ≤ 0 from (by decide)) (by decide)
          by_cases c30_ : 9999 < n2
          · refine pw_eqI (if_pos c30_) ?_
            have b31_ : 10000 ≤ Int32.toInt n2 ∧ Int32.toInt n2 ≤ 2147483647 := zr_lt_r 10000 c30_ b29_ (show 9999 ≤ Int32.toInt 9999 ∧ Int32.toInt 9999 ≤ 9999 from (by decide)) (by decide)
            show PW 12 d (31, [some (pvR 124), some (pvI n1), some (pvI n2)], [pvI 0], M) _
            refine pw_ifn hT (c := 0 = 0) rfl rfl (fun c32_ => absurd (by decide) c32_) (fun c32_ => ?_)
            refine pw_blk hT 1 (S' := (36, [some (pvR 124), some (pvI n1), some (pvI n2)], [pvI (-2)], M)) rfl ⟨trivial, trivial⟩ ?_
            exact pw_ret hT rfl (r := some (pvI (-2))) (M' := M) ⟨rfl, rfl⟩ ⟨⟨_, rfl, (zr_wide (show (-2) ≤ Int32.toInt (-2) ∧ Int32.toInt (-2) ≤ (-2) from (by decide)) (by decide) (by decide)), (by rw [if_neg c1_, if_neg c7_, if_neg c14_, if_neg c26_, if_pos c30_]; first | done | (rw [if_pos c30_]; done))⟩, hok, pvfr_0, (zBk_n (by decide)), (by rw [if_neg c1_, if_neg c7_, if_neg c14_, if_neg c26_, if_pos c30_]; first | done | exact rfl | (rw [if_pos c30_]; done) | (rw [if_pos c30_]; exact rfl))⟩
          · refine pw_eqI (if_neg c30_) ?_
            have b33_ : 0 ≤ Int32.toInt n2 ∧ Int32.toInt n2 ≤ 9999 := zr_nlt_r 9999 c30_ b29_ (show 9999 ≤ Int32.toInt 9999 ∧ Int32.toInt 9999 ≤ 9999 from (by decide)) (by decide)
            show PW 12 d (31, [some (pvR 124), some (pvI n1), some (pvI n2)], [pvI 1], M) _
            refine pw_ifn hT (c := 1 = 0) rfl rfl (fun c34_ => ?_) (fun c34_ => absurd c34_ (by decide))
            have b35_ : 0 ≤ Int32.toInt (M.1 124 43) ∧ Int32.toInt (M.1 124 43) ≤ 8 := pvok_r hok 124 43 rfl
            refine pw_blk hT 3 (S' := (43, [some (pvR 124), some (pvI n1), some (pvI n2)], [pvI 8, pvI (M.1 124 43)], M)) rfl ⟨trivial, rfl, trivial, trivial⟩ ?_
            refine pw_icn hT (c := (M.1 124 43) = 8) rfl rfl (fun c36_ => ?_) (fun c36_ => ?_)
            · have b37_ : 0 ≤ Int32.toInt (M.1 124 43) ∧ Int32.toInt (M.1 124 43) ≤ 7 := (by have u0 := b35_; have u1 := (not_congr (zi_eq _ _)).mp c36_; have u2 := (show 8 ≤ Int32.toInt 8 ∧ Int32.toInt 8 ≤ 8 from (by decide)); omega)
              refine pw_blkw hT 6 (pc := 59) (lo := [some (pvR 124), some (pvI n1), some (pvI n2)]) (st := []) (M := pvu M 149 (Int32.toNatClampNeg (M.1 124 43)) n1) rfl ⟨trivial, rfl, trivial, rfl, trivial, ⟨rfl, (zr_in (n := 8) b37_ (by decide) (by decide))⟩, trivial⟩ (fun M38_ e39_ => ?_)
              have o40_ : pvOk M38_ := pvok_u2 e39_ hok rfl b18_
              have f41_ : pvFr fp_eX10_book_124_x_x M M38_ := pvfr_u e39_ pvfr_0 rfl
              have e42_ : (M38_.1 124 43) = (M.1 124 43) := (pvu_n e39_ 124 43 (Or.inl (by decide)))
              have b43_ : 0 ≤ Int32.toInt (M38_.1 124 43) ∧ Int32.toInt (M38_.1 124 43) ≤ 7 := (by rw [e42_]; exact b37_)
              refine pw_blkw hT 6 (pc := 69) (lo := [some (pvR 124), some (pvI n1), some (pvI n2)]) (st := []) (M := pvu M38_ 150 (Int32.toNatClampNeg (M38_.1 124 43)) n2) rfl ⟨trivial, rfl, trivial, rfl, trivial, ⟨rfl, (zr_in (n := 8) b43_ (by decide) (by decide))⟩, trivial⟩ (fun M44_ e45_ => ?_)
              have o46_ : pvOk M44_ := pvok_u2 e45_ o40_ rfl b33_
              have f47_ : pvFr fp_eX10_book_124_x_x M M44_ := pvfr_u e45_ f41_ rfl
              have e48_ : (M44_.1 124 43) = (M38_.1 124 43) := (pvu_n e45_ 124 43 (Or.inl (by decide)))
              have b49_ : 0 ≤ Int32.toInt (M44_.1 124 43) ∧ Int32.toInt (M44_.1 124 43) ≤ 7 := (by rw [e48_]; exact b43_)
              obtain ⟨q51_, b50_⟩ : (Int32.toInt ((M44_.1 124 43) + 1) = Int32.toInt (M44_.1 124 43) + 1) ∧ (1 ≤ Int32.toInt ((M44_.1 124 43) + 1) ∧ Int32.toInt ((M44_.1 124 43) + 1) ≤ 8) := zadd_k (M44_.1 124 43) 1 1 1 8 b49_ (by decide) (by decide) (by decide) (by decide) (by decide)
              refine pw_blkw hT 6 (pc := 79) (lo := [some (pvR 124), some (pvI n1), some (pvI n2)]) (st := []) (M := pvu M44_ 124 43 ((M44_.1 124 43) + 1)) rfl ⟨trivial, trivial, rfl, trivial, trivial, rfl, trivial⟩ (fun M52_ e53_ => ?_)
              have o54_ : pvOk M52_ := pvok_u2 e53_ o46_ rfl (zr_wide b50_ (by decide) (by decide))
              have f55_ : pvFr fp_eX10_book_124_x_x M M52_ := pvfr_u e53_ f47_ rfl
              have e56_ : (M52_.1 124 43) = ((M44_.1 124 43) + 1) := (pvu_s e53_)
              have b57_ : 1 ≤ Int32.toInt (M52_.1 124 43) ∧ Int32.toInt (M52_.1 124 43) ≤ 8 := (by rw [e56_]; exact b50_)
              refine pw_blk hT 2 (S' := (83, [some (pvR 124), some (pvI n1), some (pvI n2)], [pvI (M52_.1 124 43)], M52_)) rfl ⟨trivial, rfl, trivial⟩ ?_
              exact pw_ret hT rfl (r := some (pvI (M52_.1 124 43))) (M' := M52_) ⟨rfl, rfl⟩ ⟨⟨_, rfl, (zr_wide b57_ (by decide) (by decide)), (by rw [if_neg c1_, if_neg c7_, if_neg c14_, if_neg c26_, if_neg c30_, if_neg c36_]; first | done | exact (show (M52_.1 124 43) = ((M.1 124 43) + 1) from by rw [((pvu_s e53_).trans (show ((M44_.1 124 43) + 1) = ((M.1 124 43) + 1) from by rw [((pvu_n e45_ 124 43 (Or.inl (by decide))).trans (pvu_n e39_ 124 43 (Or.inl (by decide))))]))]) | (rw [if_neg c36_]; exact (show (M52_.1 124 43) = ((M.1 124 43) + 1) from by rw [((pvu_s e53_).trans (show ((M44_.1 124 43) + 1) = ((M.1 124 43) + 1) from by rw [((pvu_n e45_ 124 43 (Or.inl (by decide))).trans (pvu_n e39_ 124 43 (Or.inl (by decide))))]))])))⟩, o54_, f55_, (zBk_0 (by decide) (by decide) (by decide) (by decide) (by have u := b37_; omega) (zvl_y0 (pvok_r hok 124 0 (lo := 0) (hi := 7) rfl).1 c7_ c14_) e39_ e45_ e53_ (show ((M44_.1 124 43) + 1) = ((M.1 124 43) + 1) from by rw [((pvu_n e45_ 124 43 (Or.inl (by decide))).trans (pvu_n e39_ 124 43 (Or.inl (by decide))))]) (show (M52_.1 124 43) = ((M.1 124 43) + 1) from by rw [((pvu_s e53_).trans (show ((M44_.1 124 43) + 1) = ((M.1 124 43) + 1) from by rw [((pvu_n e45_ 124 43 (Or.inl (by decide))).trans (pvu_n e39_ 124 43 (Or.inl (by decide))))]))])), (by rw [if_neg c1_, if_neg c7_, if_neg c14_, if_neg c26_, if_neg c30_, if_neg c36_]; first | done | exact ((pvu_s e53_).trans (show ((M44_.1 124 43) + 1) = ((M.1 124 43) + 1) from by rw [((pvu_n e45_ 124 43 (Or.inl (by decide))).trans (pvu_n e39_ 124 43 (Or.inl (by decide))))])) | (rw [if_neg c36_]; done) | (rw [if_neg c36_]; exact ((pvu_s e53_).trans (show ((M44_.1 124 43) + 1) = ((M.1 124 43) + 1) from by rw [((pvu_n e45_ 124 43 (Or.inl (by decide))).trans (pvu_n e39_ 124 43 (Or.inl (by decide))))]))))⟩
            · have b58_ : 8 ≤ Int32.toInt (M.1 124 43) ∧ Int32.toInt (M.1 124 43) ≤ 8 := (by have u0 := b35_; have u1 := (zi_eq _ _).mp c36_; have u2 := (show 8 ≤ Int32.toInt 8 ∧ Int32.toInt 8 ≤ 8 from (by decide)); omega)
              refine pw_blk hT 1 (S' := (48, [some (pvR 124), some (pvI n1), some (pvI n2)], [pvI (-4)], M)) rfl ⟨trivial, trivial⟩ ?_
              exact pw_ret hT rfl (r := some (pvI (-4))) (M' := M) ⟨rfl, rfl⟩ ⟨⟨_, rfl, (zr_wide (show (-4) ≤ Int32.toInt (-4) ∧ Int32.toInt (-4) ≤ (-4) from (by decide)) (by decide) (by decide)), (by rw [if_neg c1_, if_neg c7_, if_neg c14_, if_neg c26_, if_neg c30_, if_pos c36_]; first | done | (rw [if_pos c36_]; done))⟩, hok, pvfr_0, (zBk_n (by decide)), (by rw [if_neg c1_, if_neg c7_, if_neg c14_, if_neg c26_, if_neg c30_, if_pos c36_]; first | done | exact rfl | (rw [if_pos c36_]; done) | (rw [if_pos c36_]; exact rfl))⟩
  · have b59_ : (-1) ≤ Int32.toInt n1 ∧ Int32.toInt n1 ≤ (-1) := (by have u0 := (zbnd n1); have u1 := (zi_eq _ _).mp c1_; have u2 := (show (-1) ≤ Int32.toInt (-1) ∧ Int32.toInt (-1) ≤ (-1) from (by decide)); omega)
    refine pw_blkw hT 3 (pc := 10) (lo := [some (pvR 124), some (pvI n1), some (pvI n2)]) (st := []) (M := pvu M 124 43 0) rfl ⟨trivial, trivial, rfl, trivial⟩ (fun M60_ e61_ => ?_)
    have o62_ : pvOk M60_ := pvok_u2 e61_ hok rfl (zr_wide (show 0 ≤ Int32.toInt 0 ∧ Int32.toInt 0 ≤ 0 from (by decide)) (by decide) (by decide))
    have f63_ : pvFr fp_eX10_book_124_x_x M M60_ := pvfr_u e61_ pvfr_0 rfl
    refine pw_blk hT 1 (S' := (11, [some (pvR 124), some (pvI n1), some (pvI n2)], [pvI 0], M60_)) rfl ⟨trivial, trivial⟩ ?_
    exact pw_ret hT rfl (r := some (pvI 0)) (M' := M60_) ⟨rfl, rfl⟩ ⟨⟨_, rfl, (zr_wide (show 0 ≤ Int32.toInt 0 ∧ Int32.toInt 0 ≤ 0 from (by decide)) (by decide) (by decide)), (by rw [if_pos c1_]; first | done | (rw [if_pos c1_]; done))⟩, o62_, f63_, (zBk_c rfl (pvu_s e61_)), (by rw [if_pos c1_]; first | done | exact (pvu_s e61_) | (rw [if_pos c1_]; done) | (rw [if_pos c1_]; exact (pvu_s e61_)))⟩
def fpL_eX10_costOfNone_124 : List (Nat × Nat × Nat) := [(0, 143, 0)]
def fp_eX10_costOfNone_124 (q k : Nat) : Bool := pvfp fpL_eX10_costOfNone_124 q k
theorem fp_eX10_costOfNone_124_fp_eX10_layOpen_124 (a b : Nat) (h : fp_eX10_layOpen_124 a b = true) : fp_eX10_costOfNone_124 a b = true := pvfp_sub (l1 := fpL_eX10_layOpen_124) (l2 := fpL_eX10_costOfNone_124) (by decide) a b h
set_option maxHeartbeats 4000000 in
set_option maxRecDepth 10000 in
theorem se_X10_costOfNone_124 (M : pvM) (hok : pvOk M) (d : Nat) : PW 13 d (0, [some (pvR 124)], [], M) (fun r X => (∃ x : Int32, r = some (pvI x) ∧ 0 ≤ Int32.toInt x ∧ Int32.toInt x ≤ 9000000) ∧ pvOk X ∧ pvFr fp_eX10_costOfNone_124 M X ∧ yQn r M X) := by
  have hT : pvdom 13 = pvD_13 := rfl
  refine pw_blk hT 1 (S' := (1, [some (pvR 124)], [pvR 124], M)) rfl ⟨trivial, trivial⟩ ?_
  refine pw_callVd hT (as := [pvR 124]) (lo1 := [some (pvR 124), none]) (d1 := d) (rest := []) rfl rfl rfl rfl rfl (fun _ => rfl) (Nat.zero_le _) rfl rfl rfl (se_X10_layOpen_124 M hok d) (fun M3_ o5_ g6_ d1_ => ?_)
  have f7_ : pvFr fp_eX10_costOfNone_124 M M3_ := pvfr_t g6_ pvfr_0 fp_eX10_costOfNone_124_fp_eX10_layOpen_124
  refine pw_blk hT 1 (S' := (5, [some (pvR 124)], [pvR 124], M3_)) rfl ⟨trivial, trivial⟩ ?_
  refine pw_callGp hT (as := [pvR 124]) (lo1 := [some (pvR 124)]) (d1 := d) (rest := []) rfl rfl rfl rfl rfl (fun _ => rfl) (Nat.zero_le _) rfl rfl rfl (se_X10_harmTillEnd_124 M3_ o5_ d) (fun x8_ b10_ => ?_)
  obtain ⟨b13_, d14_⟩ := b10_
  exact pw_ret hT rfl (r := some (pvI x8_)) (M' := M3_) ⟨rfl, rfl⟩ ⟨⟨_, rfl, b13_⟩, o5_, f7_, (yQn_i hok d1_ d14_)⟩
def fpL_eX10_costOfRound_124_x : List (Nat × Nat × Nat) := [(0, 124, 33), (0, 124, 36), (0, 141, 0), (0, 142, 0), (0, 143, 0), (0, 144, 0)]
def fp_eX10_costOfRound_124_x (q k : Nat) : Bool := pvfp fpL_eX10_costOfRound_124_x q k
theorem fp_eX10_costOfRound_124_x_fp_eX10_costOfPath_124_x (a b : Nat) (h : fp_eX10_costOfPath_124_x a b = true) : fp_eX10_costOfRound_124_x a b = true := pvfp_sub (l1 := fpL_eX10_costOfPath_124_x) (l2 := fpL_eX10_costOfRound_124_x) (by decide) a b h
theorem fp_eX10_costOfRound_124_x_fp_eX10_layRain_124 (a b : Nat) (h : fp_eX10_layRain_124 a b = true) : fp_eX10_costOfRound_124_x a b = true := pvfp_sub (l1 := fpL_eX10_layRain_124) (l2 := fpL_eX10_costOfRound_124_x) (by decide) a b h
theorem fp_eX10_costOfRound_124_x_fp_eX10_layRound_124 (a b : Nat) (h : fp_eX10_layRound_124 a b = true) : fp_eX10_costOfRound_124_x a b = true := pvfp_sub (l1 := fpL_eX10_layRound_124) (l2 := fpL_eX10_costOfRound_124_x) (by decide) a b h
set_option maxHeartbeats 4000000 in
set_option maxRecDepth 10000 in
theorem se_X10_costOfRound_124_x (M : pvM) (hok : pvOk M) (n1 : Int32) (hn1 : 0 ≤ Int32.toInt n1 ∧ Int32.toInt n1 ≤ 60) (hz : pvWF M) (d : Nat) : PW 15 d (0, [some (pvR 124), some (pvI n1)], [], M) (fun r X => (∃ x : Int32, r = some (pvI x) ∧ 0 ≤ Int32.toInt x ∧ Int32.toInt x ≤ 9000000) ∧ pvOk X ∧ pvFr fp_eX10_costOfRound_124_x M X ∧ yQr n1 r M X) := by
  have hT : pvdom 15 = pvD_15 := rfl
  refine pw_blk hT 1 (S' := (1, [some (pvR 124), some (pvI n1)], [pvR 124], M)) rfl ⟨trivial, trivial⟩ ?_
  refine pw_callVd hT (as := [pvR 124]) (lo1 := [some (pvR 124), none, none]) (d1 := d) (rest := []) rfl rfl rfl rfl rfl (fun _ => rfl) (Nat.zero_le _) rfl rfl rfl (se_X10_layRain_124 M hok hz d) (fun M3_ o5_ g6_ d1_ => ?_)
  have f7_ : pvFr fp_eX10_costOfRound_124_x M M3_ := pvfr_t g6_ pvfr_0 fp_eX10_costOfRound_124_x_fp_eX10_layRain_124
  refine pw_blk hT 1 (S' := (5, [some (pvR 124), some (pvI n1)], [pvR 124], M3_)) rfl ⟨trivial, trivial⟩ ?_
  refine pw_callVd hT (as := [pvR 124]) (lo1 := [some (pvR 124), none]) (d1 := d) (rest := []) rfl rfl rfl rfl rfl (fun _ => rfl) (Nat.zero_le _) rfl rfl rfl (se_X10_layRound_124 M3_ o5_ d) (fun M10_ o12_ g13_ d8_ => ?_)
  have f14_ : pvFr fp_eX10_costOfRound_124_x M M10_ := pvfr_t g13_ f7_ fp_eX10_costOfRound_124_x_fp_eX10_layRound_124
  refine pw_blk hT 2 (S' := (10, [some (pvR 124), some (pvI n1)], [pvI n1, pvR 124], M10_)) rfl ⟨trivial, trivial, trivial⟩ ?_
  refine pw_callGd hT (as := [pvR 124, pvI n1]) (lo1 := [some (pvR 124), some (pvI n1), none]) (d1 := d) (rest := []) rfl rfl rfl rfl rfl (fun _ => rfl) (Nat.zero_le _) rfl rfl rfl (se_X10_costOfPath_124_x M10_ o12_ n1 hn1 d) (fun x16_ M17_ b18_ o19_ g20_ d15_ => ?_)
  have f21_ : pvFr fp_eX10_costOfRound_124_x M M17_ := pvfr_t g20_ f14_ fp_eX10_costOfRound_124_x_fp_eX10_costOfPath_124_x
  exact pw_ret hT rfl (r := some (pvI x16_)) (M' := M17_) ⟨rfl, rfl⟩ ⟨⟨_, rfl, b18_⟩, o19_, f21_, (yQr_i d1_ d8_ d15_)⟩
set_option maxHeartbeats 4000000 in
set_option maxRecDepth 10000 in
theorem se_X10_count_124_x (M : pvM) (hok : pvOk M) (n1 : Int32) (d : Nat) : PW 16 d (0, [some (pvR 124), some (pvI n1)], [], M) (fun r X => r = some (pvI ((if n1 = 0 then (M.1 124 0) else (if n1 = 1 then (M.1 124 14) else (if n1 = 2 then (M.1 124 37) else (if n1 = 3 then (M.1 124 40) else (if n1 = 4 then (M.1 124 43) else (if n1 = 5 then (M.1 124 16) else (if n1 = 6 then (M.1 124 70) else (-2)))))))))) ∧ X = M) := by
  have hT : pvdom 16 = pvD_16 := rfl
  refine pw_blk hT 1 (S' := (1, [some (pvR 124), some (pvI n1)], [pvI n1], M)) rfl ⟨trivial, trivial⟩ ?_
  refine pw_sw hT rfl rfl ?_
  refine And.intro (fun c1_ => ?_) (fun c1_ => ?_)
  · show PW 16 d (44, [some (pvR 124), some (pvI n1)], [], M) _
    have b2_ : 0 ≤ Int32.toInt n1 ∧ Int32.toInt n1 ≤ 0 := (by have u0 := (zbnd n1); have u1 := (zi_eq _ _).mp c1_; have u2 := (show 0 ≤ Int32.toInt 0 ∧ Int32.toInt 0 ≤ 0 from (by decide)); omega)
    have b3_ : 0 ≤ Int32.toInt (M.1 124 0) ∧ Int32.toInt (M.1 124 0) ≤ 7 := pvok_r hok 124 0 rfl
    refine pw_blk hT 2 (S' := (48, [some (pvR 124), some (pvI n1)], [pvI (M.1 124 0)], M)) rfl ⟨trivial, rfl, trivial⟩ ?_
    exact pw_ret hT rfl (r := some (pvI (M.1 124 0))) (M' := M) ⟨rfl, rfl⟩ ⟨(by rw [if_pos c1_]; first | done | (rw [if_pos c1_]; done)), rfl⟩
  · refine And.intro (fun c4_ => ?_) (fun c4_ => ?_)
    · show PW 16 d (49, [some (pvR 124), some (pvI n1)], [], M) _
      have b5_ : 1 ≤ Int32.toInt n1 ∧ Int32.toInt n1 ≤ 1 := (by have u0 := (zbnd n1); have u1 := (zi_eq _ _).mp c4_; have u2 := (show 1 ≤ Int32.toInt 1 ∧ Int32.toInt 1 ≤ 1 from (by decide)); omega)
      have b6_ : 0 ≤ Int32.toInt (M.1 124 14) ∧ Int32.toInt (M.1 124 14) ≤ 6 := pvok_r hok 124 14 rfl
      refine pw_blk hT 2 (S' := (53, [some (pvR 124), some (pvI n1)], [pvI (M.1 124 14)], M)) rfl ⟨trivial, rfl, trivial⟩ ?_
      exact pw_ret hT rfl (r := some (pvI (M.1 124 14))) (M' := M) ⟨rfl, rfl⟩ ⟨(by rw [if_neg c1_, if_pos c4_]; first | done | (rw [if_pos c4_]; done)), rfl⟩
    · refine And.intro (fun c7_ => ?_) (fun c7_ => ?_)
      · show PW 16 d (54, [some (pvR 124), some (pvI n1)], [], M) _
        have b8_ : 2 ≤ Int32.toInt n1 ∧ Int32.toInt n1 ≤ 2 := (by have u0 := (zbnd n1); have u1 := (zi_eq _ _).mp c7_; have u2 := (show 2 ≤ Int32.toInt 2 ∧ Int32.toInt 2 ≤ 2 from (by decide)); omega)
        have b9_ : 0 ≤ Int32.toInt (M.1 124 37) ∧ Int32.toInt (M.1 124 37) ≤ 7 := pvok_r hok 124 37 rfl
        refine pw_blk hT 2 (S' := (58, [some (pvR 124), some (pvI n1)], [pvI (M.1 124 37)], M)) rfl ⟨trivial, rfl, trivial⟩ ?_
        exact pw_ret hT rfl (r := some (pvI (M.1 124 37))) (M' := M) ⟨rfl, rfl⟩ ⟨(by rw [if_neg c1_, if_neg c4_, if_pos c7_]; first | done | (rw [if_pos c7_]; done)), rfl⟩
      · refine And.intro (fun c10_ => ?_) (fun c10_ => ?_)
        · show PW 16 d (59, [some (pvR 124), some (pvI n1)], [], M) _
          have b11_ : 3 ≤ Int32.toInt n1 ∧ Int32.toInt n1 ≤ 3 := (by have u0 := (zbnd n1); have u1 := (zi_eq _ _).mp c10_; have u2 := (show 3 ≤ Int32.toInt 3 ∧ Int32.toInt 3 ≤ 3 from (by decide)); omega)
          have b12_ : 0 ≤ Int32.toInt (M.1 124 40) ∧ Int32.toInt (M.1 124 40) ≤ 6 := pvok_r hok 124 40 rfl
          refine pw_blk hT 2 (S' := (63, [some (pvR 124), some (pvI n1)], [pvI (M.1 124 40)], M)) rfl ⟨trivial, rfl, trivial⟩ ?_
          exact pw_ret hT rfl (r := some (pvI (M.1 124 40))) (M' := M) ⟨rfl, rfl⟩ ⟨(by rw [if_neg c1_, if_neg c4_, if_neg c7_, if_pos c10_]; first | done | (rw [if_pos c10_]; done)), rfl⟩
        · refine And.intro (fun c13_ => ?_) (fun c13_ => ?_)
          · show PW 16 d (64, [some (pvR 124), some (pvI n1)], [], M) _
            have b14_ : 4 ≤ Int32.toInt n1 ∧ Int32.toInt n1 ≤ 4 := (by have u0 := (zbnd n1); have u1 := (zi_eq _ _).mp c13_; have u2 := (show 4 ≤ Int32.toInt 4 ∧ Int32.toInt 4 ≤ 4 from (by decide)); omega)
            have b15_ : 0 ≤ Int32.toInt (M.1 124 43) ∧ Int32.toInt (M.1 124 43) ≤ 8 := pvok_r hok 124 43 rfl
            refine pw_blk hT 2 (S' := (68, [some (pvR 124), some (pvI n1)], [pvI (M.1 124 43)], M)) rfl ⟨trivial, rfl, trivial⟩ ?_
            exact pw_ret hT rfl (r := some (pvI (M.1 124 43))) (M' := M) ⟨rfl, rfl⟩ ⟨(by rw [if_neg c1_, if_neg c4_, if_neg c7_, if_neg c10_, if_pos c13_]; first | done | (rw [if_pos c13_]; done)), rfl⟩
          · refine And.intro (fun c16_ => ?_) (fun c16_ => ?_)
            · show PW 16 d (69, [some (pvR 124), some (pvI n1)], [], M) _
              have b17_ : 5 ≤ Int32.toInt n1 ∧ Int32.toInt n1 ≤ 5 := (by have u0 := (zbnd n1); have u1 := (zi_eq _ _).mp c16_; have u2 := (show 5 ≤ Int32.toInt 5 ∧ Int32.toInt 5 ≤ 5 from (by decide)); omega)
              have b18_ : 0 ≤ Int32.toInt (M.1 124 16) ∧ Int32.toInt (M.1 124 16) ≤ 100 := pvok_r hok 124 16 rfl
              refine pw_blk hT 2 (S' := (73, [some (pvR 124), some (pvI n1)], [pvI (M.1 124 16)], M)) rfl ⟨trivial, rfl, trivial⟩ ?_
              exact pw_ret hT rfl (r := some (pvI (M.1 124 16))) (M' := M) ⟨rfl, rfl⟩ ⟨(by rw [if_neg c1_, if_neg c4_, if_neg c7_, if_neg c10_, if_neg c13_, if_pos c16_]; first | done | (rw [if_pos c16_]; done)), rfl⟩
            · refine And.intro (fun c19_ => ?_) (fun c19_ => ?_)
              · show PW 16 d (74, [some (pvR 124), some (pvI n1)], [], M) _
                have b20_ : 6 ≤ Int32.toInt n1 ∧ Int32.toInt n1 ≤ 6 := (by have u0 := (zbnd n1); have u1 := (zi_eq _ _).mp c19_; have u2 := (show 6 ≤ Int32.toInt 6 ∧ Int32.toInt 6 ≤ 6 from (by decide)); omega)
                have b21_ : 0 ≤ Int32.toInt (M.1 124 70) ∧ Int32.toInt (M.1 124 70) ≤ 1000000 := pvok_r hok 124 70 rfl
                refine pw_blk hT 2 (S' := (78, [some (pvR 124), some (pvI n1)], [pvI (M.1 124 70)], M)) rfl ⟨trivial, rfl, trivial⟩ ?_
                exact pw_ret hT rfl (r := some (pvI (M.1 124 70))) (M' := M) ⟨rfl, rfl⟩ ⟨(by rw [if_neg c1_, if_neg c4_, if_neg c7_, if_neg c10_, if_neg c13_, if_neg c16_, if_pos c19_]; first | done | (rw [if_pos c19_]; done)), rfl⟩
              · show PW 16 d (79, [some (pvR 124), some (pvI n1)], [], M) _
                refine pw_blk hT 1 (S' := (81, [some (pvR 124), some (pvI n1)], [pvI (-2)], M)) rfl ⟨trivial, trivial⟩ ?_
                exact pw_ret hT rfl (r := some (pvI (-2))) (M' := M) ⟨rfl, rfl⟩ ⟨(by rw [if_neg c1_, if_neg c4_, if_neg c7_, if_neg c10_, if_neg c13_, if_neg c16_, if_neg c19_]; first | done | (rw [if_neg c19_]; done)), rfl⟩
set_option maxHeartbeats 4000000 in
set_option maxRecDepth 10000 in
theorem se_X10_divisor_124_x_x (M : pvM) (hok : pvOk M) (n1 : Int32) (n2 : Int32) (hn1 : 0 ≤ Int32.toInt n1 ∧ Int32.toInt n1 ≤ 90000000) (hn2 : 1 ≤ Int32.toInt n2 ∧ Int32.toInt n2 ≤ 10) (d : Nat) : PW 17 d (0, [some (pvR 124), some (pvI n1), some (pvI n2), none, none, none], [], M) (fun r X => (∃ x : Int32, r = some (pvI x) ∧ (1 ≤ Int32.toInt x ∧ Int32.toInt x ≤ 90000000) ∧ yGc n1 n2 x) ∧ X = M) := by
  have hT : pvdom 17 = pvD_17 := rfl
  refine pw_blk hT 4 (S' := (5, [some (pvR 124), some (pvI n1), some (pvI n2), some (pvI n1), some (pvI n2), none], [], M)) rfl ⟨trivial, trivial, trivial, trivial, trivial⟩ ?_
  have hlz14_ : ∀ (nz14_ : Nat) (i3z14_ : Int32) (i4z14_ : Int32) (v5z14_ : Option pvV), (0 ≤ Int32.toInt i3z14_ ∧ Int32.toInt i3z14_ ≤ 90000000) → (0 ≤ Int32.toInt i4z14_ ∧ Int32.toInt i4z14_ ≤ 10) → (1 ≤ Int32.toInt i3z14_ ∨ 1 ≤ Int32.toInt i4z14_) → (yEu n1 n2 i3z14_ i4z14_) → (zhide ((Int32.toInt i4z14_).toNat < nz14_)) → PW 17 d (5, [some (pvR 124), some (pvI n1), some (pvI n2), some (pvI i3z14_), some (pvI i4z14_), v5z14_], [], M) (fun r X => (∃ x : Int32, r = some (pvI x) ∧ (1 ≤ Int32.toInt x ∧ Int32.toInt x ≤ 90000000) ∧ yGc n1 n2 x) ∧ X = M) := by
    intro nz14_
    induction nz14_ with
    | zero => intro i3z14_ i4z14_ v5z14_ h3z14_ h4z14_ j0z14_ j1z14_ hmz14_; exact absurd (zshow hmz14_) (Nat.not_lt_zero _)
    | succ nz14_ ihz14_ =>
      intro i3z14_ i4z14_ v5z14_ h3z14_ h4z14_ j0z14_ j1z14_ hmz14_
      refine pw_blk hT 1 (S' := (7, [some (pvR 124), some (pvI n1), some (pvI n2), some (pvI i3z14_), some (pvI i4z14_), v5z14_], [pvI i4z14_], M)) rfl ⟨trivial, trivial⟩ ?_
      refine pw_if hT (c := i4z14_ = 0) rfl rfl (fun c15_ => ?_) (fun c15_ => ?_)
      · have b16_ : 0 ≤ Int32.toInt i4z14_ ∧ Int32.toInt i4z14_ ≤ 0 := (by have u0 := h4z14_; have u1 := (zi_eq _ _).mp c15_; have u2 := (show 0 ≤ Int32.toInt 0 ∧ Int32.toInt 0 ≤ 0 from (by decide)); omega)
        refine pw_blk hT 1 (S' := (27, [some (pvR 124), some (pvI n1), some (pvI n2), some (pvI i3z14_), some (pvI i4z14_), v5z14_], [pvI i3z14_], M)) rfl ⟨trivial, trivial⟩ ?_
        exact pw_ret hT rfl (r := some (pvI i3z14_)) (M' := M) ⟨rfl, rfl⟩ ⟨⟨_, rfl, (by have u0 := h3z14_; omega), (fun _ => yEu_e j1z14_ c15_)⟩, rfl⟩
      · have b17_ : 1 ≤ Int32.toInt i4z14_ ∧ Int32.toInt i4z14_ ≤ 10 := (by have u0 := h4z14_; have u1 := (not_congr (zi_eq _ _)).mp c15_; have u2 := (show 0 ≤ Int32.toInt 0 ∧ Int32.toInt 0 ≤ 0 from (by decide)); omega)
        have q18_ : 0 ≤ Int32.toInt (i3z14_ - i3z14_ / i4z14_ * i4z14_) ∧ Int32.toInt (i3z14_ - i3z14_ / i4z14_ * i4z14_) < Int32.toInt i4z14_ := pvrem i3z14_ i4z14_ (by have u0 := h3z14_; omega) (by have u0 := b17_; omega)
        have b19_ : 0 ≤ Int32.toInt (i3z14_ - i3z14_ / i4z14_ * i4z14_) ∧ Int32.toInt (i3z14_ - i3z14_ / i4z14_ * i4z14_) ≤ 9 := (by have u0 := q18_; have u1 := b17_; omega)
        refine pw_blk hT 9 (S' := (5, [some (pvR 124), some (pvI n1), some (pvI n2), some (pvI i4z14_), some (pvI (i3z14_ - i3z14_ / i4z14_ * i4z14_)), some (pvI (i3z14_ - i3z14_ / i4z14_ * i4z14_))], [], M)) rfl ⟨trivial, trivial, c15_, trivial, trivial, trivial, trivial, trivial, trivial, trivial⟩ ?_
        have j20_ : 1 ≤ Int32.toInt i4z14_ ∨ 1 ≤ Int32.toInt (i3z14_ - i3z14_ / i4z14_ * i4z14_) := by omega
        have j21_ : yEu n1 n2 i4z14_ (i3z14_ - i3z14_ / i4z14_ * i4z14_) := (yEu_s j1z14_ (by have u := h3z14_; omega) (by have u := b17_; omega))
        exact ihz14_ i4z14_ (i3z14_ - i3z14_ / i4z14_ * i4z14_) (some (pvI (i3z14_ - i3z14_ / i4z14_ * i4z14_))) (zr_wide b17_ (by decide) (by decide)) (zr_wide b19_ (by decide) (by decide)) j20_ j21_ (zhid (by have hm0 := zshow hmz14_; omega))
  have j22_ : 1 ≤ Int32.toInt n1 ∨ 1 ≤ Int32.toInt n2 := by omega
  have j23_ : yEu n1 n2 n1 n2 := (yEu_0 n1 n2)
  exact hlz14_ _ n1 n2 none hn1 (zr_wide hn2 (by decide) (by decide)) j22_ j23_ (zhid (Nat.lt_succ_self _))
def fpL_eX10_emits_124_x : List (Nat × Nat × Nat) := [(0, 124, 28), (0, 138, 0)]
def fp_eX10_emits_124_x (q k : Nat) : Bool := pvfp fpL_eX10_emits_124_x q k
set_option maxHeartbeats 4000000 in
set_option maxRecDepth 10000 in
theorem se_X10_emits_124_x (M : pvM) (hok : pvOk M) (n1 : Int32) (hn1 : (-128) ≤ Int32.toInt n1 ∧ Int32.toInt n1 ≤ 5999) (hs : Int32.toInt (M.1 124 27) ≤ 599 ∧ 0 ≤ Int32.toInt (M.1 124 27)) (d : Nat) : PW 18 d (0, [some (pvR 124), some (pvI n1)], [], M) (fun r X => r = none ∧ pvOk X ∧ pvFr fp_eX10_emits_124_x M X ∧ X = zpe M n1) := by
  have hT : pvdom 18 = pvD_18 := rfl
  have b1_ : 0 ≤ Int32.toInt (M.1 124 27) ∧ Int32.toInt (M.1 124 27) ≤ 600 := pvok_r hok 124 27 rfl
  refine pw_blkw hT 6 (pc := 10) (lo := [some (pvR 124), some (pvI n1)]) (st := []) (M := pvu M 138 (Int32.toNatClampNeg (M.1 124 27)) n1) rfl ⟨trivial, rfl, trivial, rfl, trivial, ⟨rfl, (vp_in_iff.mpr (show 0 ≤ Int32.toInt (M.1 124 27) ∧ Int32.toInt (M.1 124 27) < ((600 : Nat) : Int) from (by have u0 := b1_; omega)))⟩, trivial⟩ (fun M2_ e3_ => ?_)
  have o4_ : pvOk M2_ := pvok_u2 e3_ hok rfl hn1
  have f5_ : pvFr fp_eX10_emits_124_x M M2_ := pvfr_u e3_ pvfr_0 rfl
  have e6_ : (M2_.1 124 27) = (M.1 124 27) := (pvu_n e3_ 124 27 (Or.inl (by decide)))
  have b7_ : 0 ≤ Int32.toInt (M2_.1 124 27) ∧ Int32.toInt (M2_.1 124 27) ≤ 600 := pvok_r o4_ 124 27 rfl
  have d8_ : Int32.toInt (M2_.1 124 27) = Int32.toInt (M.1 124 27) := congrArg Int32.toInt e6_
  obtain ⟨q10_, b9_⟩ : (Int32.toInt ((M2_.1 124 27) + 1) = Int32.toInt (M2_.1 124 27) + 1) ∧ (1 ≤ Int32.toInt ((M2_.1 124 27) + 1) ∧ Int32.toInt ((M2_.1 124 27) + 1) ≤ 601) := zadd_k (M2_.1 124 27) 1 1 1 601 b7_ (by decide) (by decide) (by decide) (by decide) (by decide)
  refine pw_blkw hT 6 (pc := 20) (lo := [some (pvR 124), some (pvI n1)]) (st := []) (M := pvu M2_ 124 27 ((M2_.1 124 27) + 1)) rfl ⟨trivial, trivial, rfl, trivial, trivial, rfl, trivial⟩ (fun M11_ e12_ => ?_)
  have o13_ : pvOk M11_ := pvok_u2 e12_ o4_ rfl (by have u0 := b9_; omega)
  have f14_ : pvFr fp_eX10_emits_124_x M M11_ := pvfr_u e12_ f5_ rfl
  have e15_ : (M11_.1 124 27) = ((M2_.1 124 27) + 1) := (pvu_s e12_)
  have b16_ : 1 ≤ Int32.toInt (M11_.1 124 27) ∧ Int32.toInt (M11_.1 124 27) ≤ 600 := (by rw [e15_]; exact (by have u0 := b9_; omega))
  have d17_ : Int32.toInt (M11_.1 124 27) = Int32.toInt ((M2_.1 124 27) + 1) := congrArg Int32.toInt e15_
  exact pw_ret hT rfl (r := none) (M' := M11_) ⟨rfl, rfl⟩ ⟨rfl, o13_, f14_, (by have z : M2_.1 124 27 = M.1 124 27 := pvu_n e3_ 124 27 (Or.inl (by decide)); rw [e12_, z, e3_, zpe])⟩
def fpL_eX10_feed_124_x : List (Nat × Nat × Nat) := [(0, 124, 17), (0, 132, 0)]
def fp_eX10_feed_124_x (q k : Nat) : Bool := pvfp fpL_eX10_feed_124_x q k
set_option maxHeartbeats 4000000 in
set_option maxRecDepth 10000 in
theorem se_X10_feed_124_x (M : pvM) (hok : pvOk M) (n1 : Int32) (d : Nat) : PW 20 d (0, [some (pvR 124), some (pvI n1)], [], M) (fun r X => (∃ x : Int32, r = some (pvI x) ∧ (-4) ≤ Int32.toInt x ∧ Int32.toInt x ≤ 100) ∧ pvOk X ∧ pvFr fp_eX10_feed_124_x M X ∧ zFd 124 14 124 16 132 n1 r M X) := by
  have hT : pvdom 20 = pvD_20 := rfl
  refine pw_blk hT 4 (S' := (5, [some (pvR 124), some (pvI n1)], [pvI 127, pvI 0, pvI n1, pvR 124], M)) rfl ⟨trivial, trivial, trivial, trivial, trivial⟩ ?_
  refine pw_callT hT (as := [pvR 124, pvI n1, pvI 0, pvI 127]) (lo1 := [some (pvR 124), some (pvI n1), some (pvI 0), some (pvI 127)]) (d1 := d) (rest := []) rfl rfl rfl rfl rfl (fun _ => rfl) (Nat.zero_le _) rfl rfl rfl (sf_X10_in_124_x_x_x M hok n1 0 127 d) ?_
  by_cases c6_ : n1 < 0
  · refine pw_eqI (if_pos c6_) ?_
    have b7_ : (-2147483648) ≤ Int32.toInt n1 ∧ Int32.toInt n1 ≤ (-1) := zr_lt_l (-1) c6_ (zbnd n1) (show 0 ≤ Int32.toInt 0 ∧ Int32.toInt 0 ≤ 0 from (by decide)) (by decide)
    show PW 20 d (8, [some (pvR 124), some (pvI n1)], [pvI 0], M) _
    refine pw_ifn hT (c := 0 = 0) rfl rfl (fun c8_ => absurd (by decide) c8_) (fun c8_ => ?_)
    refine pw_blk hT 1 (S' := (13, [some (pvR 124), some (pvI n1)], [pvI (-2)], M)) rfl ⟨trivial, trivial⟩ ?_
    exact pw_ret hT rfl (r := some (pvI (-2))) (M' := M) ⟨rfl, rfl⟩ ⟨⟨_, rfl, (zr_wide (show (-2) ≤ Int32.toInt (-2) ∧ Int32.toInt (-2) ≤ (-2) from (by decide)) (by decide) (by decide))⟩, hok, pvfr_0, (Or.inl ⟨Or.inl c6_, rfl, zKx_r 124 14 124 16 132 M⟩)⟩
  · refine pw_eqI (if_neg c6_) ?_
    have b9_ : 0 ≤ Int32.toInt n1 ∧ Int32.toInt n1 ≤ 2147483647 := zr_nlt_l 0 c6_ (zbnd n1) (show 0 ≤ Int32.toInt 0 ∧ Int32.toInt 0 ≤ 0 from (by decide)) (by decide)
    by_cases c10_ : 127 < n1
    · refine pw_eqI (if_pos c10_) ?_
      have b11_ : 128 ≤ Int32.toInt n1 ∧ Int32.toInt n1 ≤ 2147483647 := zr_lt_r 128 c10_ b9_ (show 127 ≤ Int32.toInt 127 ∧ Int32.toInt 127 ≤ 127 from (by decide)) (by decide)
      show PW 20 d (8, [some (pvR 124), some (pvI n1)], [pvI 0], M) _
      refine pw_ifn hT (c := 0 = 0) rfl rfl (fun c12_ => absurd (by decide) c12_) (fun c12_ => ?_)
      refine pw_blk hT 1 (S' := (13, [some (pvR 124), some (pvI n1)], [pvI (-2)], M)) rfl ⟨trivial, trivial⟩ ?_
      exact pw_ret hT rfl (r := some (pvI (-2))) (M' := M) ⟨rfl, rfl⟩ ⟨⟨_, rfl, (zr_wide (show (-2) ≤ Int32.toInt (-2) ∧ Int32.toInt (-2) ≤ (-2) from (by decide)) (by decide) (by decide))⟩, hok, pvfr_0, (Or.inl ⟨Or.inr c10_, rfl, zKx_r 124 14 124 16 132 M⟩)⟩
    · refine pw_eqI (if_neg c10_) ?_
      have b13_ : 0 ≤ Int32.toInt n1 ∧ Int32.toInt n1 ≤ 127 := zr_nlt_r 127 c10_ b9_ (show 127 ≤ Int32.toInt 127 ∧ Int32.toInt 127 ≤ 127 from (by decide)) (by decide)
      show PW 20 d (8, [some (pvR 124), some (pvI n1)], [pvI 1], M) _
      refine pw_ifn hT (c := 1 = 0) rfl rfl (fun c14_ => ?_) (fun c14_ => absurd c14_ (by decide))
      have b15_ : 0 ≤ Int32.toInt (M.1 124 16) ∧ Int32.toInt (M.1 124 16) ≤ 100 := pvok_r hok 124 16 rfl
      refine pw_blk hT 3 (S' := (20, [some (pvR 124), some (pvI n1)], [pvI 100, pvI (M.1 124 16)], M)) rfl ⟨trivial, rfl, trivial, trivial⟩ ?_
      refine pw_icn hT (c := (M.1 124 16) = 100) rfl rfl (fun c16_ => ?_) (fun c16_ => ?_)
      · have b17_ : 0 ≤ Int32.toInt (M.1 124 16) ∧ Int32.toInt (M.1 124 16) ≤ 99 := (by have u0 := b15_; have u1 := (not_congr (zi_eq _ _)).mp c16_; have u2 := (show 100 ≤ Int32.toInt 100 ∧ Int32.toInt 100 ≤ 100 from (by decide)); omega)
        refine pw_blkw hT 6 (pc := 36) (lo := [some (pvR 124), some (pvI n1)]) (st := []) (M := pvu M 132 (Int32.toNatClampNeg (M.1 124 16)) n1) rfl ⟨trivial, rfl, trivial, rfl, trivial, ⟨rfl, (zr_in (n := 100) b17_ (by decide) (by decide))⟩, trivial⟩ (fun M18_ e19_ => ?_)
        have o20_ : pvOk M18_ := pvok_u2 e19_ hok rfl b13_
        have f21_ : pvFr fp_eX10_feed_124_x M M18_ := pvfr_u e19_ pvfr_0 rfl
        have e22_ : (M18_.1 124 16) = (M.1 124 16) := (pvu_n e19_ 124 16 (Or.inl (by decide)))
        have b23_ : 0 ≤ Int32.toInt (M18_.1 124 16) ∧ Int32.toInt (M18_.1 124 16) ≤ 99 := (by rw [e22_]; exact b17_)
        obtain ⟨q25_, b24_⟩ : (Int32.toInt ((M18_.1 124 16) + 1) = Int32.toInt (M18_.1 124 16) + 1) ∧ (1 ≤ Int32.toInt ((M18_.1 124 16) + 1) ∧ Int32.toInt ((M18_.1 124 16) + 1) ≤ 100) := zadd_k (M18_.1 124 16) 1 1 1 100 b23_ (by decide) (by decide) (by decide) (by decide) (by decide)
        refine pw_blkw hT 6 (pc := 46) (lo := [some (pvR 124), some (pvI n1)]) (st := []) (M := pvu M18_ 124 16 ((M18_.1 124 16) + 1)) rfl ⟨trivial, trivial, rfl, trivial, trivial, rfl, trivial⟩ (fun M26_ e27_ => ?_)
        have o28_ : pvOk M26_ := pvok_u2 e27_ o20_ rfl (zr_wide b24_ (by decide) (by decide))
        have f29_ : pvFr fp_eX10_feed_124_x M M26_ := pvfr_u e27_ f21_ rfl
        have e30_ : (M26_.1 124 16) = ((M18_.1 124 16) + 1) := (pvu_s e27_)
        have b31_ : 1 ≤ Int32.toInt (M26_.1 124 16) ∧ Int32.toInt (M26_.1 124 16) ≤ 100 := (by rw [e30_]; exact b24_)
        refine pw_blk hT 2 (S' := (50, [some (pvR 124), some (pvI n1)], [pvI (M26_.1 124 16)], M26_)) rfl ⟨trivial, rfl, trivial⟩ ?_
        exact pw_ret hT rfl (r := some (pvI (M26_.1 124 16))) (M' := M26_) ⟨rfl, rfl⟩ ⟨⟨_, rfl, (zr_wide b31_ (by decide) (by decide))⟩, o28_, f29_, (zFd_u (fun z => z.elim c6_ c10_) (by have u := b17_; omega) (by decide) (by decide) (Or.inr (by decide)) e19_ e27_)⟩
      · have b32_ : 100 ≤ Int32.toInt (M.1 124 16) ∧ Int32.toInt (M.1 124 16) ≤ 100 := (by have u0 := b15_; have u1 := (zi_eq _ _).mp c16_; have u2 := (show 100 ≤ Int32.toInt 100 ∧ Int32.toInt 100 ≤ 100 from (by decide)); omega)
        refine pw_blk hT 1 (S' := (25, [some (pvR 124), some (pvI n1)], [pvI (-4)], M)) rfl ⟨trivial, trivial⟩ ?_
        exact pw_ret hT rfl (r := some (pvI (-4))) (M' := M) ⟨rfl, rfl⟩ ⟨⟨_, rfl, (zr_wide (show (-4) ≤ Int32.toInt (-4) ∧ Int32.toInt (-4) ≤ (-4) from (by decide)) (by decide) (by decide))⟩, hok, pvfr_0, (Or.inr (Or.inl ⟨(fun z => z.elim c6_ c10_), (by have u := b32_; omega), rfl, zKx_r 124 14 124 16 132 M⟩))⟩
set_option maxHeartbeats 4000000 in
set_option maxRecDepth 10000 in
theorem se_X10_harmOf_124_x (M : pvM) (hok : pvOk M) (n1 : Int32) (hn1 : 0 ≤ Int32.toInt n1 ∧ Int32.toInt n1 ≤ 6) (d : Nat) : PW 29 d (0, [some (pvR 124), some (pvI n1), none, none], [], M) (fun r X => (∃ x : Int32, r = some (pvI x) ∧ (0 ≤ Int32.toInt x ∧ Int32.toInt x ≤ 9000000) ∧ yhO M n1 x) ∧ X = M) := by
  have hT : pvdom 29 = pvD_29 := rfl
  have b1_ : 0 ≤ Int32.toInt (M.1 124 1) ∧ Int32.toInt (M.1 124 1) ≤ 9999 := pvok_r hok 124 1 rfl
  have b2_ : 0 ≤ Int32.toInt (M.1 124 3) ∧ Int32.toInt (M.1 124 3) ≤ 108 := pvok_r hok 124 3 rfl
  refine pw_blk hT 6 (S' := (10, [some (pvR 124), some (pvI n1), some (pvI 0), none], [pvI (M.1 124 3), pvI (M.1 124 1)], M)) rfl ⟨trivial, trivial, trivial, rfl, trivial, rfl, trivial⟩ ?_
  refine pw_ic hT (c := (M.1 124 3) ≤ (M.1 124 1)) rfl rfl (fun c3_ => ?_) (fun c3_ => ?_)
  · have d4_ : Int32.toInt (M.1 124 3) ≤ Int32.toInt (M.1 124 1) := (zi_le _ _).mp c3_
    refine pw_blk hT 3 (S' := (25, [some (pvR 124), some (pvI n1), some (pvI 0), some (pvI (M.1 124 1))], [], M)) rfl ⟨trivial, rfl, trivial, trivial⟩ ?_
    have hlz81_ : ∀ (nz81_ : Nat) (i2z81_ : Int32) (i3z81_ : Int32), (0 ≤ Int32.toInt i2z81_ ∧ Int32.toInt i2z81_ ≤ 9000000) → (0 ≤ Int32.toInt i3z81_ ∧ Int32.toInt i3z81_ ≤ 9999) → (Int32.toInt i2z81_ ≤ 90000 * (Int32.toInt i3z81_ - Int32.toInt (M.1 124 3))) → (0 ≤ Int32.toInt i2z81_) → (Int32.toInt (M.1 124 3) ≤ Int32.toInt i3z81_) → (Int32.toInt i3z81_ ≤ Int32.toInt (M.1 124 3) + 99 ∨ Int32.toInt i2z81_ = 0) → (yhI M n1 i2z81_ i3z81_) → (zhide ((10000 - Int32.toInt i3z81_).toNat < nz81_)) → PW 29 d (25, [some (pvR 124), some (pvI n1), some (pvI i2z81_), some (pvI i3z81_)], [], M) (fun r X => (∃ x : Int32, r = some (pvI x) ∧ (0 ≤ Int32.toInt x ∧ Int32.toInt x ≤ 9000000) ∧ yhO M n1 x) ∧ X = M) := by
      intro nz81_
      induction nz81_ with
      | zero => intro i2z81_ i3z81_ h2z81_ h3z81_ j0z81_ j1z81_ j2z81_ j3z81_ j4z81_ hmz81_; exact absurd (zshow hmz81_) (Nat.not_lt_zero _)
      | succ nz81_ ihz81_ =>
        intro i2z81_ i3z81_ h2z81_ h3z81_ j0z81_ j1z81_ j2z81_ j3z81_ j4z81_ hmz81_
        refine pw_blk hT 4 (S' := (31, [some (pvR 124), some (pvI n1), some (pvI i2z81_), some (pvI i3z81_)], [pvR 124, pvI (M.1 124 3), pvI i3z81_], M)) rfl ⟨trivial, trivial, rfl, trivial, trivial⟩ ?_
        refine pw_callGp hT (as := [pvR 124]) (lo1 := [some (pvR 124)]) (d1 := d) (rest := [pvI (M.1 124 3), pvI i3z81_]) rfl rfl rfl rfl rfl (fun _ => rfl) (Nat.zero_le _) rfl rfl rfl (se_X10_lastNow_124 M hok d) (fun x82_ b84_ => ?_)
        obtain ⟨b87_, d88_⟩ := b84_
        obtain ⟨q90_, b89_⟩ : (Int32.toInt ((M.1 124 3) + x82_) = Int32.toInt (M.1 124 3) + Int32.toInt x82_) ∧ (0 ≤ Int32.toInt ((M.1 124 3) + x82_) ∧ Int32.toInt ((M.1 124 3) + x82_) ≤ 207) := zadd_r (M.1 124 3) x82_ 0 207 b2_ b87_ (by decide) (by decide) (by decide) (by decide)
        refine pw_blk hT 1 (S' := (35, [some (pvR 124), some (pvI n1), some (pvI i2z81_), some (pvI i3z81_)], [pvI ((M.1 124 3) + x82_), pvI i3z81_], M)) rfl ⟨trivial, trivial⟩ ?_
        refine pw_ic hT (c := ((M.1 124 3) + x82_) ≤ i3z81_) rfl rfl (fun c91_ => ?_) (fun c91_ => ?_)
        · have d92_ : Int32.toInt ((M.1 124 3) + x82_) ≤ Int32.toInt i3z81_ := (zi_le _ _).mp c91_
          refine pw_blk hT 1 (S' := (54, [some (pvR 124), some (pvI n1), some (pvI i2z81_), some (pvI i3z81_)], [pvI i2z81_], M)) rfl ⟨trivial, trivial⟩ ?_
          exact pw_ret hT rfl (r := some (pvI i2z81_)) (M' := M) ⟨rfl, rfl⟩ ⟨⟨_, rfl, h2z81_, (yhI_e j4z81_ d88_ (by have v := (zi_le _ _).mp c91_; omega))⟩, rfl⟩
        · have b93_ : 1 ≤ Int32.toInt ((M.1 124 3) + x82_) ∧ Int32.toInt ((M.1 124 3) + x82_) ≤ 207 := zr_nle_l 1 c91_ b89_ h3z81_ (by decide)
          have b94_ : 0 ≤ Int32.toInt i3z81_ ∧ Int32.toInt i3z81_ ≤ 206 := zr_nle_r 206 c91_ h3z81_ b93_ (by decide)
          have d95_ : Int32.toInt ((M.1 124 3) + x82_) > Int32.toInt i3z81_ := Int.not_le.mp ((not_congr (zi_le _ _)).mp c91_)
          refine pw_blk hT 4 (S' := (42, [some (pvR 124), some (pvI n1), some (pvI i2z81_), some (pvI i3z81_)], [pvI i3z81_, pvI n1, pvR 124, pvI i2z81_], M)) rfl ⟨trivial, trivial, trivial, trivial, trivial⟩ ?_
          refine pw_callGp hT (as := [pvR 124, pvI n1, pvI i3z81_]) (lo1 := [some (pvR 124), some (pvI n1), some (pvI i3z81_), none, none]) (d1 := d) (rest := [pvI i2z81_]) rfl rfl rfl rfl rfl (fun _ => rfl) (Nat.zero_le _) rfl rfl rfl (se_X10_harm_124_x_x M hok n1 i3z81_ hn1 (zr_wide b94_ (by decide) (by decide)) d) (fun x96_ b98_ => ?_)
          obtain ⟨b101_, d102_⟩ := b98_
          obtain ⟨q104_, b103_⟩ : (Int32.toInt (i2z81_ + x96_) = Int32.toInt i2z81_ + Int32.toInt x96_) ∧ (0 ≤ Int32.toInt (i2z81_ + x96_) ∧ Int32.toInt (i2z81_ + x96_) ≤ 9012009) := zadd_r i2z81_ x96_ 0 9012009 h2z81_ b101_ (by decide) (by decide) (by decide) (by decide)
          obtain ⟨q106_, b105_⟩ : (Int32.toInt (i3z81_ + 1) = Int32.toInt i3z81_ + 1) ∧ (1 ≤ Int32.toInt (i3z81_ + 1) ∧ Int32.toInt (i3z81_ + 1) ≤ 207) := zadd_k i3z81_ 1 1 1 207 b94_ (by decide) (by decide) (by decide) (by decide) (by decide)
          refine pw_blk hT 4 (S' := (25, [some (pvR 124), some (pvI n1), some (pvI (i2z81_ + x96_)), some (pvI (i3z81_ + 1))], [], M)) rfl ⟨trivial, trivial, trivial, trivial, trivial⟩ ?_
          have j107_ : Int32.toInt (i2z81_ + x96_) ≤ 90000 * (Int32.toInt (i3z81_ + 1) - Int32.toInt (M.1 124 3)) := by omega
          have j108_ : 0 ≤ Int32.toInt (i2z81_ + x96_) := by omega
          have j109_ : Int32.toInt (M.1 124 3) ≤ Int32.toInt (i3z81_ + 1) := by omega
          have j110_ : Int32.toInt (i3z81_ + 1) ≤ Int32.toInt (M.1 124 3) + 99 ∨ Int32.toInt (i2z81_ + x96_) = 0 := by omega
          have j111_ : yhI M n1 (i2z81_ + x96_) (i3z81_ + 1) := (yhI_s j4z81_ d88_ (by omega) (by omega) d102_ (by omega))
          exact ihz81_ (i2z81_ + x96_) (i3z81_ + 1) (by have u0 := b103_; omega) (zr_wide b105_ (by decide) (by decide)) j107_ j108_ j109_ j110_ j111_ (zhid (pvms_up (zshow hmz81_) h3z81_ q106_ (by decide) (by decide)))
    have u112_ : Int32.toInt 0 = 0 := by decide
    have j113_ : Int32.toInt 0 ≤ 90000 * (Int32.toInt (M.1 124 1) - Int32.toInt (M.1 124 3)) := by omega
    have j114_ : 0 ≤ Int32.toInt 0 := by omega
    have j115_ : Int32.toInt (M.1 124 3) ≤ Int32.toInt (M.1 124 1) := by omega
    have j116_ : Int32.toInt (M.1 124 1) ≤ Int32.toInt (M.1 124 3) + 99 ∨ Int32.toInt 0 = 0 := by omega
    have j117_ : yhI M n1 0 (M.1 124 1) := (yhI_0 (by have v := (zi_le _ _).mp c3_; unfold yst; omega) (by decide))
    exact hlz81_ _ 0 (M.1 124 1) (zr_wide (show 0 ≤ Int32.toInt 0 ∧ Int32.toInt 0 ≤ 0 from (by decide)) (by decide) (by decide)) b1_ j113_ j114_ j115_ j116_ j117_ (zhid (Nat.lt_succ_self _))
  · have b118_ : 1 ≤ Int32.toInt (M.1 124 3) ∧ Int32.toInt (M.1 124 3) ≤ 108 := zr_nle_l 1 c3_ b2_ b1_ (by decide)
    have b119_ : 0 ≤ Int32.toInt (M.1 124 1) ∧ Int32.toInt (M.1 124 1) ≤ 107 := zr_nle_r 107 c3_ b1_ b118_ (by decide)
    have d120_ : Int32.toInt (M.1 124 3) > Int32.toInt (M.1 124 1) := Int.not_le.mp ((not_congr (zi_le _ _)).mp c3_)
    refine pw_blk hT 4 (S' := (25, [some (pvR 124), some (pvI n1), some (pvI 0), some (pvI (M.1 124 3))], [], M)) rfl ⟨trivial, rfl, trivial, trivial, trivial⟩ ?_
    have hlz197_ : ∀ (nz197_ : Nat) (i2z197_ : Int32) (i3z197_ : Int32), (0 ≤ Int32.toInt i2z197_ ∧ Int32.toInt i2z197_ ≤ 9000000) → (1 ≤ Int32.toInt i3z197_ ∧ Int32.toInt i3z197_ ≤ 207) → (Int32.toInt i2z197_ ≤ 90000 * (Int32.toInt i3z197_ - Int32.toInt (M.1 124 3))) → (0 ≤ Int32.toInt i2z197_) → (Int32.toInt (M.1 124 3) ≤ Int32.toInt i3z197_) → (Int32.toInt i3z197_ ≤ Int32.toInt (M.1 124 3) + 99 ∨ Int32.toInt i2z197_ = 0) → (yhI M n1 i2z197_ i3z197_) → (zhide ((208 - Int32.toInt i3z197_).toNat < nz197_)) → PW 29 d (25, [some (pvR 124), some (pvI n1), some (pvI i2z197_), some (pvI i3z197_)], [], M) (fun r X => (∃ x : Int32, r = some (pvI x) ∧ (0 ≤ Int32.toInt x ∧ Int32.toInt x ≤ 9000000) ∧ yhO M n1 x) ∧ X = M) := by
      intro nz197_
      induction nz197_ with
      | zero => intro i2z197_ i3z197_ h2z197_ h3z197_ j0z197_ j1z197_ j2z197_ j3z197_ j4z197_ hmz197_; exact absurd (zshow hmz197_) (Nat.not_lt_zero _)
      | succ nz197_ ihz197_ =>
        intro i2z197_ i3z197_ h2z197_ h3z197_ j0z197_ j1z197_ j2z197_ j3z197_ j4z197_ hmz197_
        refine pw_blk hT 4 (S' := (31, [some (pvR 124), some (pvI n1), some (pvI i2z197_), some (pvI i3z197_)], [pvR 124, pvI (M.1 124 3), pvI i3z197_], M)) rfl ⟨trivial, trivial, rfl, trivial, trivial⟩ ?_
        refine pw_callGp hT (as := [pvR 124]) (lo1 := [some (pvR 124)]) (d1 := d) (rest := [pvI (M.1 124 3), pvI i3z197_]) rfl rfl rfl rfl rfl (fun _ => rfl) (Nat.zero_le _) rfl rfl rfl (se_X10_lastNow_124 M hok d) (fun x198_ b200_ => ?_)
        obtain ⟨b203_, d204_⟩ := b200_
        obtain ⟨q206_, b205_⟩ : (Int32.toInt ((M.1 124 3) + x198_) = Int32.toInt (M.1 124 3) + Int32.toInt x198_) ∧ (1 ≤ Int32.toInt ((M.1 124 3) + x198_) ∧ Int32.toInt ((M.1 124 3) + x198_) ≤ 207) := zadd_r (M.1 124 3) x198_ 1 207 b118_ b203_ (by decide) (by decide) (by decide) (by decide)
        refine pw_blk hT 1 (S' := (35, [some (pvR 124), some (pvI n1), some (pvI i2z197_), some (pvI i3z197_)], [pvI ((M.1 124 3) + x198_), pvI i3z197_], M)) rfl ⟨trivial, trivial⟩ ?_
        refine pw_ic hT (c := ((M.1 124 3) + x198_) ≤ i3z197_) rfl rfl (fun c207_ => ?_) (fun c207_ => ?_)
        · have d208_ : Int32.toInt ((M.1 124 3) + x198_) ≤ Int32.toInt i3z197_ := (zi_le _ _).mp c207_
          refine pw_blk hT 1 (S' := (54, [some (pvR 124), some (pvI n1), some (pvI i2z197_), some (pvI i3z197_)], [pvI i2z197_], M)) rfl ⟨trivial, trivial⟩ ?_
          exact pw_ret hT rfl (r := some (pvI i2z197_)) (M' := M) ⟨rfl, rfl⟩ ⟨⟨_, rfl, h2z197_, (yhI_e j4z197_ d204_ (by have v := (zi_le _ _).mp c207_; omega))⟩, rfl⟩
        · have b209_ : 2 ≤ Int32.toInt ((M.1 124 3) + x198_) ∧ Int32.toInt ((M.1 124 3) + x198_) ≤ 207 := zr_nle_l 2 c207_ b205_ h3z197_ (by decide)
          have b210_ : 1 ≤ Int32.toInt i3z197_ ∧ Int32.toInt i3z197_ ≤ 206 := zr_nle_r 206 c207_ h3z197_ b209_ (by decide)
          have d211_ : Int32.toInt ((M.1 124 3) + x198_) > Int32.toInt i3z197_ := Int.not_le.mp ((not_congr (zi_le _ _)).mp c207_)
          refine pw_blk hT 4 (S' := (42, [some (pvR 124), some (pvI n1), some (pvI i2z197_), some (pvI i3z197_)], [pvI i3z197_, pvI n1, pvR 124, pvI i2z197_], M)) rfl ⟨trivial, trivial, trivial, trivial, trivial⟩ ?_
          refine pw_callGp hT (as := [pvR 124, pvI n1, pvI i3z197_]) (lo1 := [some (pvR 124), some (pvI n1), some (pvI i3z197_), none, none]) (d1 := d) (rest := [pvI i2z197_]) rfl rfl rfl rfl rfl (fun _ => rfl) (Nat.zero_le _) rfl rfl rfl (se_X10_harm_124_x_x M hok n1 i3z197_ hn1 (zr_wide b210_ (by decide) (by decide)) d) (fun x212_ b214_ => ?_)
          obtain ⟨b217_, d218_⟩ := b214_
          obtain ⟨q220_, b219_⟩ : (Int32.toInt (i2z197_ + x212_) = Int32.toInt i2z197_ + Int32.toInt x212_) ∧ (0 ≤ Int32.toInt (i2z197_ + x212_) ∧ Int32.toInt (i2z197_ + x212_) ≤ 9012009) := zadd_r i2z197_ x212_ 0 9012009 h2z197_ b217_ (by decide) (by decide) (by decide) (by decide)
          obtain ⟨q222_, b221_⟩ : (Int32.toInt (i3z197_ + 1) = Int32.toInt i3z197_ + 1) ∧ (2 ≤ Int32.toInt (i3z197_ + 1) ∧ Int32.toInt (i3z197_ + 1) ≤ 207) := zadd_k i3z197_ 1 1 2 207 b210_ (by decide) (by decide) (by decide) (by decide) (by decide)
          refine pw_blk hT 4 (S' := (25, [some (pvR 124), some (pvI n1), some (pvI (i2z197_ + x212_)), some (pvI (i3z197_ + 1))], [], M)) rfl ⟨trivial, trivial, trivial, trivial, trivial⟩ ?_
          have j223_ : Int32.toInt (i2z197_ + x212_) ≤ 90000 * (Int32.toInt (i3z197_ + 1) - Int32.toInt (M.1 124 3)) := by omega
          have j224_ : 0 ≤ Int32.toInt (i2z197_ + x212_) := by omega
          have j225_ : Int32.toInt (M.1 124 3) ≤ Int32.toInt (i3z197_ + 1) := by omega
          have j226_ : Int32.toInt (i3z197_ + 1) ≤ Int32.toInt (M.1 124 3) + 99 ∨ Int32.toInt (i2z197_ + x212_) = 0 := by omega
          have j227_ : yhI M n1 (i2z197_ + x212_) (i3z197_ + 1) := (yhI_s j4z197_ d204_ (by omega) (by omega) d218_ (by omega))
          exact ihz197_ (i2z197_ + x212_) (i3z197_ + 1) (by have u0 := b219_; omega) (zr_wide b221_ (by decide) (by decide)) j223_ j224_ j225_ j226_ j227_ (zhid (pvms_up (zshow hmz197_) h3z197_ q222_ (by decide) (by decide)))
    have u228_ : Int32.toInt 0 = 0 := by decide
    have j229_ : Int32.toInt 0 ≤ 90000 * (Int32.toInt (M.1 124 3) - Int32.toInt (M.1 124 3)) := by omega
    have j230_ : 0 ≤ Int32.toInt 0 := by omega
    have j231_ : Int32.toInt (M.1 124 3) ≤ Int32.toInt (M.1 124 3) := by omega
    have j232_ : Int32.toInt (M.1 124 3) ≤ Int32.toInt (M.1 124 3) + 99 ∨ Int32.toInt 0 = 0 := by omega
    have j233_ : yhI M n1 0 (M.1 124 3) := (yhI_0 (by have v := (not_congr (zi_le _ _)).mp c3_; unfold yst; omega) (by decide))
    exact hlz197_ _ 0 (M.1 124 3) (zr_wide (show 0 ≤ Int32.toInt 0 ∧ Int32.toInt 0 ≤ 0 from (by decide)) (by decide) (by decide)) (zr_wide b118_ (by decide) (by decide)) j229_ j230_ j231_ j232_ j233_ (zhid (Nat.lt_succ_self _))
