def fpL_eX9_act_0_x_x_x : List (Nat × Nat × Nat) := [(0, 3, 2), (0, 3, 3), (0, 3, 4), (0, 3, 5), (0, 4, 0)]
def fp_eX9_act_0_x_x_x (q k : Nat) : Bool := pvfp fpL_eX9_act_0_x_x_x q k
theorem fp_eX9_act_0_x_x_x_fp_eX0_perform_3_x_x_x_x (a b : Nat) (h : fp_eX0_perform_3_x_x_x_x a b = true) : fp_eX9_act_0_x_x_x a b = true := pvfp_sub (l1 := fpL_eX0_perform_3_x_x_x_x) (l2 := fpL_eX9_act_0_x_x_x) (by decide) a b h
set_option maxHeartbeats 4000000 in
set_option maxRecDepth 10000 in
theorem se_X9_act_0_x_x_x (M : pvM) (hok : pvOk M) (n1 : Int32) (n2 : Int32) (n3 : Int32) (d : Nat) (hd : 5 ≤ d) : PW 166 d (0, [some (pvR 0), some (pvI n1), some (pvI n2), some (pvI n3)], [], M) (fun r X => (∃ x : Int32, r = some (pvI x) ∧ True ∧ x = (if n1 < 0 then 0 else (if (M.1 8 1) ≤ n1 then 0 else (if n2 < 0 then 0 else (if 2 < n2 then 0 else (if (M.1 (pvbs 10 + Int32.toNatClampNeg n1) 0) = 0 then (if n2 = 0 then (n3 + n1) else (if n2 = 1 then ((n3 + n1) - (M.1 (pvbs 10 + Int32.toNatClampNeg n1) 1)) else (((n3 + n1) - (M.1 (pvbs 10 + Int32.toNatClampNeg n1) 1)) * 2))) else (if (M.1 (pvbs 10 + Int32.toNatClampNeg n1) 0) = 1 then (if n2 = 0 then (n3 + n1) else (if n2 = 1 then (((n3 + n1) - (M.1 (pvbs 10 + Int32.toNatClampNeg n1) 1)) ^^^ 6) else ((((n3 + n1) - (M.1 (pvbs 10 + Int32.toNatClampNeg n1) 1)) ^^^ 6) * 2))) else (if (M.1 (pvbs 10 + Int32.toNatClampNeg n1) 0) = 2 then (if n2 = 0 then ((n3 * 3) + n1) else (if n2 = 1 then (((n3 * 3) + n1) - (M.1 (pvbs 10 + Int32.toNatClampNeg n1) 1)) else ((((n3 * 3) + n1) - (M.1 (pvbs 10 + Int32.toNatClampNeg n1) 1)) * 2))) else (if (M.1 (pvbs 10 + Int32.toNatClampNeg n1) 0) = 3 then (if n2 = 0 then (n3 + n1) else (if n2 = 1 then ((n3 + n1) - (M.1 (pvbs 10 + Int32.toNatClampNeg n1) 1)) else ((((n3 + n1) - (M.1 (pvbs 10 + Int32.toNatClampNeg n1) 1)) * 2) + ((1 + n1) - (M.1 (pvbs 10 + Int32.toNatClampNeg n1) 1))))) else (if (M.1 (pvbs 10 + Int32.toNatClampNeg n1) 0) = 4 then (if n2 = 0 then (-(n3 + n1)) else (if n2 = 1 then (((-((n3 + 1) + n1)) - (M.1 (pvbs 10 + Int32.toNatClampNeg n1) 1)) ^^^ 6) else ((((-((n3 + 1) + n1)) - (M.1 (pvbs 10 + Int32.toNatClampNeg n1) 1)) ^^^ 6) * 2))) else (if (M.1 (pvbs 10 + Int32.toNatClampNeg n1) 0) = 5 then (if n2 = 0 then ((n3 * 3) + n1) else (if n2 = 1 then (((n3 * 3) + n1) - (M.1 (pvbs 10 + Int32.toNatClampNeg n1) 1)) else (((((n3 - n1) * 3) + n1) - (M.1 (pvbs 10 + Int32.toNatClampNeg n1) 1)) * 2))) else (if n2 = 0 then ((n3 + n1) ^^^ (M.1 (pvbs 10 + Int32.toNatClampNeg n1) 1)) else (if n2 = 1 then ((((n3 + n1) ^^^ (M.1 (pvbs 10 + Int32.toNatClampNeg n1) 1)) - (M.1 (pvbs 10 + Int32.toNatClampNeg n1) 1)) + (2 + n1)) else ((((((n3 + n1) ^^^ (M.1 (pvbs 10 + Int32.toNatClampNeg n1) 1)) - (M.1 (pvbs 10 + Int32.toNatClampNeg n1) 1)) + (2 + n1)) * 2) + ((((1 + n1) ^^^ (M.1 (pvbs 10 + Int32.toNatClampNeg n1) 1)) - (M.1 (pvbs 10 + Int32.toNatClampNeg n1) 1)) + (2 + n1)))))))))))))))) ∧ pvOk X ∧ pvFr fp_eX9_act_0_x_x_x M X ∧ zTs 3 1 4 (if n1 < 0 then ([] : List Int32) else (if (M.1 8 1) ≤ n1 then ([] : List Int32) else (if n2 < 0 then ([] : List Int32) else (if 2 < n2 then ([] : List Int32) else (if (M.1 (pvbs 10 + Int32.toNatClampNeg n1) 0) = 0 then (if n2 = 0 then ([10] : List Int32) else (if n2 = 1 then (([11] : List Int32) ++ ([10] : List Int32)) else (([12] : List Int32) ++ (([11] : List Int32) ++ ([10] : List Int32))))) else (if (M.1 (pvbs 10 + Int32.toNatClampNeg n1) 0) = 1 then (if n2 = 0 then ([10] : List Int32) else (if n2 = 1 then (([20] : List Int32) ++ (([11] : List Int32) ++ ([10] : List Int32))) else (([12] : List Int32) ++ (([20] : List Int32) ++ (([11] : List Int32) ++ ([10] : List Int32)))))) else (if (M.1 (pvbs 10 + Int32.toNatClampNeg n1) 0) = 2 then (if n2 = 0 then (([30] : List Int32) ++ ([10] : List Int32)) else (if n2 = 1 then (([11] : List Int32) ++ (([30] : List Int32) ++ ([10] : List Int32))) else (([12] : List Int32) ++ (([11] : List Int32) ++ (([30] : List Int32) ++ ([10] : List Int32)))))) else (if (M.1 (pvbs 10 + Int32.toNatClampNeg n1) 0) = 3 then (if n2 = 0 then ([10] : List Int32) else (if n2 = 1 then (([11] : List Int32) ++ ([10] : List Int32)) else (([40] : List Int32) ++ (([12] : List Int32) ++ (([11] : List Int32) ++ ([10] : List Int32))) ++ (([11] : List Int32) ++ ([10] : List Int32))))) else (if (M.1 (pvbs 10 + Int32.toNatClampNeg n1) 0) = 4 then (if n2 = 0 then (([50] : List Int32) ++ ([10] : List Int32)) else (if n2 = 1 then (([51] : List Int32) ++ (([20] : List Int32) ++ (([11] : List Int32) ++ (([50] : List Int32) ++ ([10] : List Int32))))) else (([12] : List Int32) ++ (([51] : List Int32) ++ (([20] : List Int32) ++ (([11] : List Int32) ++ (([50] : List Int32) ++ ([10] : List Int32)))))))) else (if (M.1 (pvbs 10 + Int32.toNatClampNeg n1) 0) = 5 then (if n2 = 0 then (([30] : List Int32) ++ ([10] : List Int32)) else (if n2 = 1 then (([11] : List Int32) ++ (([30] : List Int32) ++ ([10] : List Int32))) else (([60] : List Int32) ++ (([12] : List Int32) ++ (([11] : List Int32) ++ (([30] : List Int32) ++ ([10] : List Int32))))))) else (if n2 = 0 then (([71] : List Int32) ++ ([10] : List Int32)) else (if n2 = 1 then (([70] : List Int32) ++ (([11] : List Int32) ++ (([71] : List Int32) ++ ([10] : List Int32))) ++ ([10] : List Int32)) else (([40] : List Int32) ++ (([12] : List Int32) ++ (([70] : List Int32) ++ (([11] : List Int32) ++ (([71] : List Int32) ++ ([10] : List Int32))) ++ ([10] : List Int32))) ++ (([70] : List Int32) ++ (([11] : List Int32) ++ (([71] : List Int32) ++ ([10] : List Int32))) ++ ([10] : List Int32))))))))))))))) X) := by
  have hT : pvdom 166 = pvD_166 := rfl
  refine pw_blkw hT 4 (pc := 8) (lo := [some (pvR 0), some (pvI n1), some (pvI n2), some (pvI n3)]) (st := []) (M := pvu M 3 1 0) rfl ⟨trivial, rfl, trivial, rfl, trivial⟩ (fun M1_ e2_ => ?_)
  have o3_ : pvOk M1_ := pvok_u2 e2_ hok rfl (zr_wide (show 0 ≤ Int32.toInt 0 ∧ Int32.toInt 0 ≤ 0 from (by decide)) (by decide) (by decide))
  have f4_ : pvFr fp_eX9_act_0_x_x_x M M1_ := pvfr_u e2_ pvfr_0 rfl
  refine pw_blk hT 3 (S' := (13, [some (pvR 0), some (pvI n1), some (pvI n2), some (pvI n3)], [pvI n1, pvR 8], M1_)) rfl ⟨trivial, rfl, trivial, trivial⟩ ?_
  refine pw_callT hT (as := [pvR 8, pvI n1]) (lo1 := [some (pvR 8), some (pvI n1)]) (d1 := d) (rest := []) rfl rfl rfl rfl rfl (fun _ => rfl) (Nat.zero_le _) rfl rfl rfl (sf_X7_has_8_x M1_ o3_ n1 d) ?_
  refine pw_eqI (show (if n1 < 0 then 0 else (if (M1_.1 8 1) ≤ n1 then 0 else 1)) = (if n1 < 0 then 0 else (if (M.1 8 1) ≤ n1 then 0 else 1)) from by rw [(pvu_n e2_ 8 1 (Or.inl (by decide)))]) ?_
  have b10_ : 0 ≤ Int32.toInt (M.1 8 1) ∧ Int32.toInt (M.1 8 1) ≤ 7 := pvok_r hok 8 1 rfl
  by_cases c11_ : n1 < 0
  · refine pw_eqI (if_pos c11_) ?_
    have b12_ : (-2147483648) ≤ Int32.toInt n1 ∧ Int32.toInt n1 ≤ (-1) := zr_lt_l (-1) c11_ (zbnd n1) (show 0 ≤ Int32.toInt 0 ∧ Int32.toInt 0 ≤ 0 from (by decide)) (by decide)
    show PW 166 d (16, [some (pvR 0), some (pvI n1), some (pvI n2), some (pvI n3)], [pvI 0], M1_) _
    refine pw_if hT (c := 0 = 0) rfl rfl (fun c13_ => ?_) (fun c13_ => absurd (by decide) c13_)
    refine pw_blk hT 1 (S' := (29, [some (pvR 0), some (pvI n1), some (pvI n2), some (pvI n3)], [pvI 0], M1_)) rfl ⟨trivial, trivial⟩ ?_
    exact pw_ret hT rfl (r := some (pvI 0)) (M' := M1_) ⟨rfl, rfl⟩ ⟨⟨_, rfl, trivial, (if_pos c11_).symm⟩, o3_, f4_, (zTs_e (if_pos c11_) (zTs_r (zTr_0 3 1 4 M1_) (pvu_s e2_)))⟩
  · refine pw_eqI (if_neg c11_) ?_
    have b14_ : 0 ≤ Int32.toInt n1 ∧ Int32.toInt n1 ≤ 2147483647 := zr_nlt_l 0 c11_ (zbnd n1) (show 0 ≤ Int32.toInt 0 ∧ Int32.toInt 0 ≤ 0 from (by decide)) (by decide)
    by_cases c15_ : (M.1 8 1) ≤ n1
    · refine pw_eqI (if_pos c15_) ?_
      have d16_ : Int32.toInt (M.1 8 1) ≤ Int32.toInt n1 := (zi_le _ _).mp c15_
      show PW 166 d (16, [some (pvR 0), some (pvI n1), some (pvI n2), some (pvI n3)], [pvI 0], M1_) _
      refine pw_if hT (c := 0 = 0) rfl rfl (fun c17_ => ?_) (fun c17_ => absurd (by decide) c17_)
      refine pw_blk hT 1 (S' := (29, [some (pvR 0), some (pvI n1), some (pvI n2), some (pvI n3)], [pvI 0], M1_)) rfl ⟨trivial, trivial⟩ ?_
      exact pw_ret hT rfl (r := some (pvI 0)) (M' := M1_) ⟨rfl, rfl⟩ ⟨⟨_, rfl, trivial, ((if_neg c11_).trans (if_pos c15_)).symm⟩, o3_, f4_, (zTs_e ((if_neg c11_).trans (if_pos c15_)) (zTs_r (zTr_0 3 1 4 M1_) (pvu_s e2_)))⟩
    · refine pw_eqI (if_neg c15_) ?_
      have b18_ : 1 ≤ Int32.toInt (M.1 8 1) ∧ Int32.toInt (M.1 8 1) ≤ 7 := zr_nle_l 1 c15_ b10_ b14_ (by decide)
      have b19_ : 0 ≤ Int32.toInt n1 ∧ Int32.toInt n1 ≤ 6 := zr_nle_r 6 c15_ b14_ b18_ (by decide)
      have d20_ : Int32.toInt (M.1 8 1) > Int32.toInt n1 := Int.not_le.mp ((not_congr (zi_le _ _)).mp c15_)
      show PW 166 d (16, [some (pvR 0), some (pvI n1), some (pvI n2), some (pvI n3)], [pvI 1], M1_) _
      refine pw_if hT (c := 1 = 0) rfl rfl (fun c21_ => absurd c21_ (by decide)) (fun c21_ => ?_)
      refine pw_blk hT 3 (S' := (22, [some (pvR 0), some (pvI n1), some (pvI n2), some (pvI n3)], [pvI 2, pvI 0, pvI n2], M1_)) rfl ⟨trivial, trivial, trivial, trivial⟩ ?_
      refine pw_callT hT (as := [pvI n2, pvI 0, pvI 2]) (lo1 := [some (pvI n2), some (pvI 0), some (pvI 2)]) (d1 := d) (rest := []) rfl rfl rfl rfl rfl (fun h => absurd h (by decide)) (Nat.zero_le _) rfl rfl rfl (sf_X9_within_x_x_x M1_ o3_ n2 0 2 d) ?_
      by_cases c27_ : n2 < 0
      · refine pw_eqI (if_pos c27_) ?_
        have b28_ : (-2147483648) ≤ Int32.toInt n2 ∧ Int32.toInt n2 ≤ (-1) := zr_lt_l (-1) c27_ (zbnd n2) (show 0 ≤ Int32.toInt 0 ∧ Int32.toInt 0 ≤ 0 from (by decide)) (by decide)
        show PW 166 d (25, [some (pvR 0), some (pvI n1), some (pvI n2), some (pvI n3)], [pvI 0], M1_) _
        refine pw_ifn hT (c := 0 = 0) rfl rfl (fun c29_ => absurd (by decide) c29_) (fun c29_ => ?_)
        refine pw_blk hT 1 (S' := (29, [some (pvR 0), some (pvI n1), some (pvI n2), some (pvI n3)], [pvI 0], M1_)) rfl ⟨trivial, trivial⟩ ?_
        exact pw_ret hT rfl (r := some (pvI 0)) (M' := M1_) ⟨rfl, rfl⟩ ⟨⟨_, rfl, trivial, ((if_neg c11_).trans ((if_neg c15_).trans (if_pos c27_))).symm⟩, o3_, f4_, (zTs_e ((if_neg c11_).trans ((if_neg c15_).trans (if_pos c27_))) (zTs_r (zTr_0 3 1 4 M1_) (pvu_s e2_)))⟩
      · refine pw_eqI (if_neg c27_) ?_
        have b30_ : 0 ≤ Int32.toInt n2 ∧ Int32.toInt n2 ≤ 2147483647 := zr_nlt_l 0 c27_ (zbnd n2) (show 0 ≤ Int32.toInt 0 ∧ Int32.toInt 0 ≤ 0 from (by decide)) (by decide)
        by_cases c31_ : 2 < n2
        · refine pw_eqI (if_pos c31_) ?_
          have b32_ : 3 ≤ Int32.toInt n2 ∧ Int32.toInt n2 ≤ 2147483647 := zr_lt_r 3 c31_ b30_ (show 2 ≤ Int32.toInt 2 ∧ Int32.toInt 2 ≤ 2 from (by decide)) (by decide)
          show PW 166 d (25, [some (pvR 0), some (pvI n1), some (pvI n2), some (pvI n3)], [pvI 0], M1_) _
          refine pw_ifn hT (c := 0 = 0) rfl rfl (fun c33_ => absurd (by decide) c33_) (fun c33_ => ?_)
          refine pw_blk hT 1 (S' := (29, [some (pvR 0), some (pvI n1), some (pvI n2), some (pvI n3)], [pvI 0], M1_)) rfl ⟨trivial, trivial⟩ ?_
          exact pw_ret hT rfl (r := some (pvI 0)) (M' := M1_) ⟨rfl, rfl⟩ ⟨⟨_, rfl, trivial, ((if_neg c11_).trans ((if_neg c15_).trans ((if_neg c27_).trans (if_pos c31_)))).symm⟩, o3_, f4_, (zTs_e ((if_neg c11_).trans ((if_neg c15_).trans ((if_neg c27_).trans (if_pos c31_)))) (zTs_r (zTr_0 3 1 4 M1_) (pvu_s e2_)))⟩
        · refine pw_eqI (if_neg c31_) ?_
          have b34_ : 0 ≤ Int32.toInt n2 ∧ Int32.toInt n2 ≤ 2 := zr_nlt_r 2 c31_ b30_ (show 2 ≤ Int32.toInt 2 ∧ Int32.toInt 2 ≤ 2 from (by decide)) (by decide)
          show PW 166 d (25, [some (pvR 0), some (pvI n1), some (pvI n2), some (pvI n3)], [pvI 1], M1_) _
          refine pw_ifn hT (c := 1 = 0) rfl rfl (fun c35_ => ?_) (fun c35_ => absurd c35_ (by decide))
          refine pw_blkr hT 7 (pc := 43) (lo := [some (pvR 0), some (pvI n1), some (pvI n2), some (pvI n3)]) (st := [pvR 3]) (M := M1_) (z := (pvbs 10 + Int32.toNatClampNeg n1)) rfl ⟨trivial, rfl, trivial, rfl, rfl, trivial, ⟨rfl, (zr_in (n := 7) b19_ (by decide) (by decide))⟩, trivial⟩ (fun q36_ e38_ => ?_)
          have k37_ : pvkl q36_ = 3 := pvel_10 (zr_in (n := 7) b19_ (by decide) (by decide)) e38_
          subst e38_
          refine pw_blk hT 3 (S' := (46, [some (pvR 0), some (pvI n1), some (pvI n2), some (pvI n3)], [pvI n3, pvI n2, pvI n1, pvR (pvbs 10 + Int32.toNatClampNeg n1), pvR 3], M1_)) rfl ⟨trivial, trivial, trivial, trivial⟩ ?_
          refine pw_callGd hT (as := [pvR 3, pvR (pvbs 10 + Int32.toNatClampNeg n1), pvI n1, pvI n2, pvI n3]) (lo1 := [some (pvR 3), some (pvR (pvbs 10 + Int32.toNatClampNeg n1)), some (pvI n1), some (pvI n2), some (pvI n3)]) (d1 := d) (rest := []) rfl rfl rfl rfl rfl (fun _ => rfl) (Nat.zero_le _) rfl rfl rfl (se_X0_perform_3_x_x_x_x M1_ o3_ (pvbs 10 + Int32.toNatClampNeg n1) n1 n2 n3 k37_ b19_ b34_ d (Nat.le_trans (by decide) hd)) (fun x40_ M41_ b42_ o43_ g44_ d39_ => ?_)
          have f45_ : pvFr fp_eX9_act_0_x_x_x M M41_ := pvfr_t g44_ f4_ fp_eX9_act_0_x_x_x_fp_eX0_perform_3_x_x_x_x
          obtain ⟨b46_, d47_⟩ := b42_
          subst d47_
          have e48_ : (if (M1_.1 (pvbs 10 + Int32.toNatClampNeg n1) 0) = 0 then (if n2 = 0 then (n3 + n1) else (if n2 = 1 then ((n3 + n1) - (M1_.1 (pvbs 10 + Int32.toNatClampNeg n1) 1)) else (((n3 + n1) - (M1_.1 (pvbs 10 + Int32.toNatClampNeg n1) 1)) * 2))) else (if (M1_.1 (pvbs 10 + Int32.toNatClampNeg n1) 0) = 1 then (if n2 = 0 then (n3 + n1) else (if n2 = 1 then (((n3 + n1) - (M1_.1 (pvbs 10 + Int32.toNatClampNeg n1) 1)) ^^^ 6) else ((((n3 + n1) - (M1_.1 (pvbs 10 + Int32.toNatClampNeg n1) 1)) ^^^ 6) * 2))) else (if (M1_.1 (pvbs 10 + Int32.toNatClampNeg n1) 0) = 2 then (if n2 = 0 then ((n3 * 3) + n1) else (if n2 = 1 then (((n3 * 3) + n1) - (M1_.1 (pvbs 10 + Int32.toNatClampNeg n1) 1)) else ((((n3 * 3) + n1) - (M1_.1 (pvbs 10 + Int32.toNatClampNeg n1) 1)) * 2))) else (if (M1_.1 (pvbs 10 + Int32.toNatClampNeg n1) 0) = 3 then (if n2 = 0 then (n3 + n1) else (if n2 = 1 then ((n3 + n1) - (M1_.1 (pvbs 10 + Int32.toNatClampNeg n1) 1)) else ((((n3 + n1) - (M1_.1 (pvbs 10 + Int32.toNatClampNeg n1) 1)) * 2) + ((1 + n1) - (M1_.1 (pvbs 10 + Int32.toNatClampNeg n1) 1))))) else (if (M1_.1 (pvbs 10 + Int32.toNatClampNeg n1) 0) = 4 then (if n2 = 0 then (-(n3 + n1)) else (if n2 = 1 then (((-((n3 + 1) + n1)) - (M1_.1 (pvbs 10 + Int32.toNatClampNeg n1) 1)) ^^^ 6) else ((((-((n3 + 1) + n1)) - (M1_.1 (pvbs 10 + Int32.toNatClampNeg n1) 1)) ^^^ 6) * 2))) else (if (M1_.1 (pvbs 10 + Int32.toNatClampNeg n1) 0) = 5 then (if n2 = 0 then ((n3 * 3) + n1) else (if n2 = 1 then (((n3 * 3) + n1) - (M1_.1 (pvbs 10 + Int32.toNatClampNeg n1) 1)) else (((((n3 - n1) * 3) + n1) - (M1_.1 (pvbs 10 + Int32.toNatClampNeg n1) 1)) * 2))) else (if n2 = 0 then ((n3 + n1) ^^^ (M1_.1 (pvbs 10 + Int32.toNatClampNeg n1) 1)) else (if n2 = 1 then ((((n3 + n1) ^^^ (M1_.1 (pvbs 10 + Int32.toNatClampNeg n1) 1)) - (M1_.1 (pvbs 10 + Int32.toNatClampNeg n1) 1)) + (2 + n1)) else ((((((n3 + n1) ^^^ (M1_.1 (pvbs 10 + Int32.toNatClampNeg n1) 1)) - (M1_.1 (pvbs 10 + Int32.toNatClampNeg n1) 1)) + (2 + n1)) * 2) + ((((1 + n1) ^^^ (M1_.1 (pvbs 10 + Int32.toNatClampNeg n1) 1)) - (M1_.1 (pvbs 10 + Int32.toNatClampNeg n1) 1)) + (2 + n1))))))))))) = (if (M.1 (pvbs 10 + Int32.toNatClampNeg n1) 0) = 0 then (if n2 = 0 then (n3 + n1) else (if n2 = 1 then ((n3 + n1) - (M.1 (pvbs 10 + Int32.toNatClampNeg n1) 1)) else (((n3 + n1) - (M.1 (pvbs 10 + Int32.toNatClampNeg n1) 1)) * 2))) else (if (M.1 (pvbs 10 + Int32.toNatClampNeg n1) 0) = 1 then (if n2 = 0 then (n3 + n1) else (if n2 = 1 then (((n3 + n1) - (M.1 (pvbs 10 + Int32.toNatClampNeg n1) 1)) ^^^ 6) else ((((n3 + n1) - (M.1 (pvbs 10 + Int32.toNatClampNeg n1) 1)) ^^^ 6) * 2))) else (if (M.1 (pvbs 10 + Int32.toNatClampNeg n1) 0) = 2 then (if n2 = 0 then ((n3 * 3) + n1) else (if n2 = 1 then (((n3 * 3) + n1) - (M.1 (pvbs 10 + Int32.toNatClampNeg n1) 1)) else ((((n3 * 3) + n1) - (M.1 (pvbs 10 + Int32.toNatClampNeg n1) 1)) * 2))) else (if (M.1 (pvbs 10 + Int32.toNatClampNeg n1) 0) = 3 then (if n2 = 0 then (n3 + n1) else (if n2 = 1 then ((n3 + n1) - (M.1 (pvbs 10 + Int32.toNatClampNeg n1) 1)) else ((((n3 + n1) - (M.1 (pvbs 10 + Int32.toNatClampNeg n1) 1)) * 2) + ((1 + n1) - (M.1 (pvbs 10 + Int32.toNatClampNeg n1) 1))))) else (if (M.1 (pvbs 10 + Int32.toNatClampNeg n1) 0) = 4 then (if n2 = 0 then (-(n3 + n1)) else (if n2 = 1 then (((-((n3 + 1) + n1)) - (M.1 (pvbs 10 + Int32.toNatClampNeg n1) 1)) ^^^ 6) else ((((-((n3 + 1) + n1)) - (M.1 (pvbs 10 + Int32.toNatClampNeg n1) 1)) ^^^ 6) * 2))) else (if (M.1 (pvbs 10 + Int32.toNatClampNeg n1) 0) = 5 then (if n2 = 0 then ((n3 * 3) + n1) else (if n2 = 1 then (((n3 * 3) + n1) - (M.1 (pvbs 10 + Int32.toNatClampNeg n1) 1)) else (((((n3 - n1) * 3) + n1) - (M.1 (pvbs 10 + Int32.toNatClampNeg n1) 1)) * 2))) else (if n2 = 0 then ((n3 + n1) ^^^ (M.1 (pvbs 10 + Int32.toNatClampNeg n1) 1)) else (if n2 = 1 then ((((n3 + n1) ^^^ (M.1 (pvbs 10 + Int32.toNatClampNeg n1) 1)) - (M.1 (pvbs 10 + Int32.toNatClampNeg n1) 1)) + (2 + n1)) else ((((((n3 + n1) ^^^ (M.1 (pvbs 10 + Int32.toNatClampNeg n1) 1)) - (M.1 (pvbs 10 + Int32.toNatClampNeg n1) 1)) + (2 + n1)) * 2) + ((((1 + n1) ^^^ (M.1 (pvbs 10 + Int32.toNatClampNeg n1) 1)) - (M.1 (pvbs 10 + Int32.toNatClampNeg n1) 1)) + (2 + n1))))))))))) := (show (if (M1_.1 (pvbs 10 + Int32.toNatClampNeg n1) 0) = 0 then (if n2 = 0 then (n3 + n1) else (if n2 = 1 then ((n3 + n1) - (M1_.1 (pvbs 10 + Int32.toNatClampNeg n1) 1)) else (((n3 + n1) - (M1_.1 (pvbs 10 + Int32.toNatClampNeg n1) 1)) * 2))) else (if (M1_.1 (pvbs 10 + Int32.toNatClampNeg n1) 0) = 1 then (if n2 = 0 then (n3 + n1) else (if n2 = 1 then (((n3 + n1) - (M1_.1 (pvbs 10 + Int32.toNatClampNeg n1) 1)) ^^^ 6) else ((((n3 + n1) - (M1_.1 (pvbs 10 + Int32.toNatClampNeg n1) 1)) ^^^ 6) * 2))) else (if (M1_.1 (pvbs 10 + Int32.toNatClampNeg n1) 0) = 2 then (if n2 = 0 then ((n3 * 3) + n1) else (if n2 = 1 then (((n3 * 3) + n1) - (M1_.1 (pvbs 10 + Int32.toNatClampNeg n1) 1)) else ((((n3 * 3) + n1) - (M1_.1 (pvbs 10 + Int32.toNatClampNeg n1) 1)) * 2))) else (if (M1_.1 (pvbs 10 + Int32.toNatClampNeg n1) 0) = 3 then (if n2 = 0 then (n3 + n1) else (if n2 = 1 then ((n3 + n1) - (M1_.1 (pvbs 10 + Int32.toNatClampNeg n1) 1)) else ((((n3 + n1) - (M1_.1 (pvbs 10 + Int32.toNatClampNeg n1) 1)) * 2) + ((1 + n1) - (M1_.1 (pvbs 10 + Int32.toNatClampNeg n1) 1))))) else (if (M1_.1 (pvbs 10 + Int32.toNatClampNeg n1) 0) = 4 then (if n2 = 0 then (-(n3 + n1)) else (if n2 = 1 then (((-((n3 + 1) + n1)) - (M1_.1 (pvbs 10 + Int32.toNatClampNeg n1) 1)) ^^^ 6) else ((((-((n3 + 1) + n1)) - (M1_.1 (pvbs 10 + Int32.toNatClampNeg n1) 1)) ^^^ 6) * 2))) else (if (M1_.1 (pvbs 10 + Int32.toNatClampNeg n1) 0) = 5 then (if n2 = 0 then ((n3 * 3) + n1) else (if n2 = 1 then (((n3 * 3) + n1) - (M1_.1 (pvbs 10 + Int32.toNatClampNeg n1) 1)) else (((((n3 - n1) * 3) + n1) - (M1_.1 (pvbs 10 + Int32.toNatClampNeg n1) 1)) * 2))) else (if n2 = 0 then ((n3 + n1) ^^^ (M1_.1 (pvbs 10 + Int32.toNatClampNeg n1) 1)) else (if n2 = 1 then ((((n3 + n1) ^^^ (M1_.1 (pvbs 10 + Int32.toNatClampNeg n1) 1)) - (M1_.1 (pvbs 10 + Int32.toNatClampNeg n1) 1)) + (2 + n1)) else ((((((n3 + n1) ^^^ (M1_.1 (pvbs 10 + Int32.toNatClampNeg n1) 1)) - (M1_.1 (pvbs 10 + Int32.toNatClampNeg n1) 1)) + (2 + n1)) * 2) + ((((1 + n1) ^^^ (M1_.1 (pvbs 10 + Int32.toNatClampNeg n1) 1)) - (M1_.1 (pvbs 10 + Int32.toNatClampNeg n1) 1)) + (2 + n1))))))))))) = (if (M.1 (pvbs 10 + Int32.toNatClampNeg n1) 0) = 0 then (if n2 = 0 then (n3 + n1) else (if n2 = 1 then ((n3 + n1) - (M.1 (pvbs 10 + Int32.toNatClampNeg n1) 1)) else (((n3 + n1) - (M.1 (pvbs 10 + Int32.toNatClampNeg n1) 1)) * 2))) else (if (M.1 (pvbs 10 + Int32.toNatClampNeg n1) 0) = 1 then (if n2 = 0 then (n3 + n1) else (if n2 = 1 then (((n3 + n1) - (M.1 (pvbs 10 + Int32.toNatClampNeg n1) 1)) ^^^ 6) else ((((n3 + n1) - (M.1 (pvbs 10 + Int32.toNatClampNeg n1) 1)) ^^^ 6) * 2))) else (if (M.1 (pvbs 10 + Int32.toNatClampNeg n1) 0) = 2 then (if n2 = 0 then ((n3 * 3) + n1) else (if n2 = 1 then (((n3 * 3) + n1) - (M.1 (pvbs 10 + Int32.toNatClampNeg n1) 1)) else ((((n3 * 3) + n1) - (M.1 (pvbs 10 + Int32.toNatClampNeg n1) 1)) * 2))) else (if (M.1 (pvbs 10 + Int32.toNatClampNeg n1) 0) = 3 then (if n2 = 0 then (n3 + n1) else (if n2 = 1 then ((n3 + n1) - (M.1 (pvbs 10 + Int32.toNatClampNeg n1) 1)) else ((((n3 + n1) - (M.1 (pvbs 10 + Int32.toNatClampNeg n1) 1)) * 2) + ((1 + n1) - (M.1 (pvbs 10 + Int32.toNatClampNeg n1) 1))))) else (if (M.1 (pvbs 10 + Int32.toNatClampNeg n1) 0) = 4 then (if n2 = 0 then (-(n3 + n1)) else (if n2 = 1 then (((-((n3 + 1) + n1)) - (M.1 (pvbs 10 + Int32.toNatClampNeg n1) 1)) ^^^ 6) else ((((-((n3 + 1) + n1)) - (M.1 (pvbs 10 + Int32.toNatClampNeg n1) 1)) ^^^ 6) * 2))) else (if (M.1 (pvbs 10 + Int32.toNatClampNeg n1) 0) = 5 then (if n2 = 0 then ((n3 * 3) + n1) else (if n2 = 1 then (((n3 * 3) + n1) - (M.1 (pvbs 10 + Int32.toNatClampNeg n1) 1)) else (((((n3 - n1) * 3) + n1) - (M.1 (pvbs 10 + Int32.toNatClampNeg n1) 1)) * 2))) else (if n2 = 0 then ((n3 + n1) ^^^ (M.1 (pvbs 10 + Int32.toNatClampNeg n1) 1)) else (if n2 = 1 then ((((n3 + n1) ^^^ (M.1 (pvbs 10 + Int32.toNatClampNeg n1) 1)) - (M.1 (pvbs 10 + Int32.toNatClampNeg n1) 1)) + (2 + n1)) else ((((((n3 + n1) ^^^ (M.1 (pvbs 10 + Int32.toNatClampNeg n1) 1)) - (M.1 (pvbs 10 + Int32.toNatClampNeg n1) 1)) + (2 + n1)) * 2) + ((((1 + n1) ^^^ (M.1 (pvbs 10 + Int32.toNatClampNeg n1) 1)) - (M.1 (pvbs 10 + Int32.toNatClampNeg n1) 1)) + (2 + n1))))))))))) from by rw [(pvu_n e2_ (pvbs 10 + Int32.toNatClampNeg n1) 0 (Or.inl (fun z => absurd (z ▸ k37_) (by decide)))), (pvu_n e2_ (pvbs 10 + Int32.toNatClampNeg n1) 1 (Or.inl (fun z => absurd (z ▸ k37_) (by decide))))])
          refine pw_eqI e48_ ?_
          exact pw_ret hT rfl (r := some (pvI (if (M.1 (pvbs 10 + Int32.toNatClampNeg n1) 0) = 0 then (if n2 = 0 then (n3 + n1) else (if n2 = 1 then ((n3 + n1) - (M.1 (pvbs 10 + Int32.toNatClampNeg n1) 1)) else (((n3 + n1) - (M.1 (pvbs 10 + Int32.toNatClampNeg n1) 1)) * 2))) else (if (M.1 (pvbs 10 + Int32.toNatClampNeg n1) 0) = 1 then (if n2 = 0 then (n3 + n1) else (if n2 = 1 then (((n3 + n1) - (M.1 (pvbs 10 + Int32.toNatClampNeg n1) 1)) ^^^ 6) else ((((n3 + n1) - (M.1 (pvbs 10 + Int32.toNatClampNeg n1) 1)) ^^^ 6) * 2))) else (if (M.1 (pvbs 10 + Int32.toNatClampNeg n1) 0) = 2 then (if n2 = 0 then ((n3 * 3) + n1) else (if n2 = 1 then (((n3 * 3) + n1) - (M.1 (pvbs 10 + Int32.toNatClampNeg n1) 1)) else ((((n3 * 3) + n1) - (M.1 (pvbs 10 + Int32.toNatClampNeg n1) 1)) * 2))) else (if (M.1 (pvbs 10 + Int32.toNatClampNeg n1) 0) = 3 then (if n2 = 0 then (n3 + n1) else (if n2 = 1 then ((n3 + n1) - (M.1 (pvbs 10 + Int32.toNatClampNeg n1) 1)) else ((((n3 + n1) - (M.1 (pvbs 10 + Int32.toNatClampNeg n1) 1)) * 2) + ((1 + n1) - (M.1 (pvbs 10 + Int32.toNatClampNeg n1) 1))))) else (if (M.1 (pvbs 10 + Int32.toNatClampNeg n1) 0) = 4 then (if n2 = 0 then (-(n3 + n1)) else (if n2 = 1 then (((-((n3 + 1) + n1)) - (M.1 (pvbs 10 + Int32.toNatClampNeg n1) 1)) ^^^ 6) else ((((-((n3 + 1) + n1)) - (M.1 (pvbs 10 + Int32.toNatClampNeg n1) 1)) ^^^ 6) * 2))) else (if (M.1 (pvbs 10 + Int32.toNatClampNeg n1) 0) = 5 then (if n2 = 0 then ((n3 * 3) + n1) else (if n2 = 1 then (((n3 * 3) + n1) - (M.1 (pvbs 10 + Int32.toNatClampNeg n1) 1)) else (((((n3 - n1) * 3) + n1) - (M.1 (pvbs 10 + Int32.toNatClampNeg n1) 1)) * 2))) else (if n2 = 0 then ((n3 + n1) ^^^ (M.1 (pvbs 10 + Int32.toNatClampNeg n1) 1)) else (if n2 = 1 then ((((n3 + n1) ^^^ (M.1 (pvbs 10 + Int32.toNatClampNeg n1) 1)) - (M.1 (pvbs 10 + Int32.toNatClampNeg n1) 1)) + (2 + n1)) else ((((((n3 + n1) ^^^ (M.1 (pvbs 10 + Int32.toNatClampNeg n1) 1)) - (M.1 (pvbs 10 + Int32.toNatClampNeg n1) 1)) + (2 + n1)) * 2) + ((((1 + n1) ^^^ (M.1 (pvbs 10 + Int32.toNatClampNeg n1) 1)) - (M.1 (pvbs 10 + Int32.toNatClampNeg n1) 1)) + (2 + n1))))))))))))) (M' := M41_) ⟨rfl, rfl⟩ ⟨⟨_, rfl, trivial, ((if_neg c11_).trans ((if_neg c15_).trans ((if_neg c27_).trans (if_neg c31_)))).symm⟩, o43_, f45_, (zTs_e ((if_neg c11_).trans ((if_neg c15_).trans ((if_neg c27_).trans (if_neg c31_)))) (zTs_e (show (if (M1_.1 (pvbs 10 + Int32.toNatClampNeg n1) 0) = 0 then (if n2 = 0 then ([10] : List Int32) else (if n2 = 1 then (([11] : List Int32) ++ ([10] : List Int32)) else (([12] : List Int32) ++ (([11] : List Int32) ++ ([10] : List Int32))))) else (if (M1_.1 (pvbs 10 + Int32.toNatClampNeg n1) 0) = 1 then (if n2 = 0 then ([10] : List Int32) else (if n2 = 1 then (([20] : List Int32) ++ (([11] : List Int32) ++ ([10] : List Int32))) else (([12] : List Int32) ++ (([20] : List Int32) ++ (([11] : List Int32) ++ ([10] : List Int32)))))) else (if (M1_.1 (pvbs 10 + Int32.toNatClampNeg n1) 0) = 2 then (if n2 = 0 then (([30] : List Int32) ++ ([10] : List Int32)) else (if n2 = 1 then (([11] : List Int32) ++ (([30] : List Int32) ++ ([10] : List Int32))) else (([12] : List Int32) ++ (([11] : List Int32) ++ (([30] : List Int32) ++ ([10] : List Int32)))))) else (if (M1_.1 (pvbs 10 + Int32.toNatClampNeg n1) 0) = 3 then (if n2 = 0 then ([10] : List Int32) else (if n2 = 1 then (([11] : List Int32) ++ ([10] : List Int32)) else (([40] : List Int32) ++ (([12] : List Int32) ++ (([11] : List Int32) ++ ([10] : List Int32))) ++ (([11] : List Int32) ++ ([10] : List Int32))))) else (if (M1_.1 (pvbs 10 + Int32.toNatClampNeg n1) 0) = 4 then (if n2 = 0 then (([50] : List Int32) ++ ([10] : List Int32)) else (if n2 = 1 then (([51] : List Int32) ++ (([20] : List Int32) ++ (([11] : List Int32) ++ (([50] : List Int32) ++ ([10] : List Int32))))) else (([12] : List Int32) ++ (([51] : List Int32) ++ (([20] : List Int32) ++ (([11] : List Int32) ++ (([50] : List Int32) ++ ([10] : List Int32)))))))) else (if (M1_.1 (pvbs 10 + Int32.toNatClampNeg n1) 0) = 5 then (if n2 = 0 then (([30] : List Int32) ++ ([10] : List Int32)) else (if n2 = 1 then (([11] : List Int32) ++ (([30] : List Int32) ++ ([10] : List Int32))) else (([60] : List Int32) ++ (([12] : List Int32) ++ (([11] : List Int32) ++ (([30] : List Int32) ++ ([10] : List Int32))))))) else (if n2 = 0 then (([71] : List Int32) ++ ([10] : List Int32)) else (if n2 = 1 then (([70] : List Int32) ++ (([11] : List Int32) ++ (([71] : List Int32) ++ ([10] : List Int32))) ++ ([10] : List Int32)) else (([40] : List Int32) ++ (([12] : List Int32) ++ (([70] : List Int32) ++ (([11] : List Int32) ++ (([71] : List Int32) ++ ([10] : List Int32))) ++ ([10] : List Int32))) ++ (([70] : List Int32) ++ (([11] : List Int32) ++ (([71] : List Int32) ++ ([10] : List Int32))) ++ ([10] : List Int32))))))))))) = (if (M.1 (pvbs 10 + Int32.toNatClampNeg n1) 0) = 0 then (if n2 = 0 then ([10] : List Int32) else (if n2 = 1 then (([11] : List Int32) ++ ([10] : List Int32)) else (([12] : List Int32) ++ (([11] : List Int32) ++ ([10] : List Int32))))) else (if (M.1 (pvbs 10 + Int32.toNatClampNeg n1) 0) = 1 then (if n2 = 0 then ([10] : List Int32) else (if n2 = 1 then (([20] : List Int32) ++ (([11] : List Int32) ++ ([10] : List Int32))) else (([12] : List Int32) ++ (([20] : List Int32) ++ (([11] : List Int32) ++ ([10] : List Int32)))))) else (if (M.1 (pvbs 10 + Int32.toNatClampNeg n1) 0) = 2 then (if n2 = 0 then (([30] : List Int32) ++ ([10] : List Int32)) else (if n2 = 1 then (([11] : List Int32) ++ (([30] : List Int32) ++ ([10] : List Int32))) else (([12] : List Int32) ++ (([11] : List Int32) ++ (([30] : List Int32) ++ ([10] : List Int32)))))) else (if (M.1 (pvbs 10 + Int32.toNatClampNeg n1) 0) = 3 then (if n2 = 0 then ([10] : List Int32) else (if n2 = 1 then (([11] : List Int32) ++ ([10] : List Int32)) else (([40] : List Int32) ++ (([12] : List Int32) ++ (([11] : List Int32) ++ ([10] : List Int32))) ++ (([11] : List Int32) ++ ([10] : List Int32))))) else (if (M.1 (pvbs 10 + Int32.toNatClampNeg n1) 0) = 4 then (if n2 = 0 then (([50] : List Int32) ++ ([10] : List Int32)) else (if n2 = 1 then (([51] : List Int32) ++ (([20] : List Int32) ++ (([11] : List Int32) ++ (([50] : List Int32) ++ ([10] : List Int32))))) else (([12] : List Int32) ++ (([51] : List Int32) ++ (([20] : List Int32) ++ (([11] : List Int32) ++ (([50] : List Int32) ++ ([10] : List Int32)))))))) else (if (M.1 (pvbs 10 + Int32.toNatClampNeg n1) 0) = 5 then (if n2 = 0 then (([30] : List Int32) ++ ([10] : List Int32)) else (if n2 = 1 then (([11] : List Int32) ++ (([30] : List Int32) ++ ([10] : List Int32))) else (([60] : List Int32) ++ (([12] : List Int32) ++ (([11] : List Int32) ++ (([30] : List Int32) ++ ([10] : List Int32))))))) else (if n2 = 0 then (([71] : List Int32) ++ ([10] : List Int32)) else (if n2 = 1 then (([70] : List Int32) ++ (([11] : List Int32) ++ (([71] : List Int32) ++ ([10] : List Int32))) ++ ([10] : List Int32)) else (([40] : List Int32) ++ (([12] : List Int32) ++ (([70] : List Int32) ++ (([11] : List Int32) ++ (([71] : List Int32) ++ ([10] : List Int32))) ++ ([10] : List Int32))) ++ (([70] : List Int32) ++ (([11] : List Int32) ++ (([71] : List Int32) ++ ([10] : List Int32))) ++ ([10] : List Int32))))))))))) from by rw [(pvu_n e2_ (pvbs 10 + Int32.toNatClampNeg n1) 0 (Or.inl (fun z => absurd (z ▸ k37_) (by decide))))]).symm d39_))⟩
set_option maxHeartbeats 4000000 in
set_option maxRecDepth 10000 in
theorem se_X6_names_100_x (M : pvM) (hok : pvOk M) (n1 : Int32) (d : Nat) : PW 155 d (0, [some (pvR 100), some (pvI n1), none], [], M) (fun r X => (∃ x : Int32, r = some (pvI x) ∧ (0 ≤ Int32.toInt x ∧ Int32.toInt x ≤ 1) ∧ x = (if zhas (M.1 108) (Int32.toNatClampNeg (M.1 100 0)) n1 then 1 else 0)) ∧ X = M) := by
  have hT : pvdom 155 = pvD_155 := rfl
  refine pw_blk hT 2 (S' := (2, [some (pvR 100), some (pvI n1), some (pvI 0)], [], M)) rfl ⟨trivial, trivial, trivial⟩ ?_
  have hlz46_ : ∀ (nz46_ : Nat) (i2z46_ : Int32), (0 ≤ Int32.toInt i2z46_ ∧ Int32.toInt i2z46_ ≤ 7) → (∀ j : Nat, j < Int32.toNatClampNeg i2z46_ → M.1 108 j ≠ n1) → (zhide ((8 - Int32.toInt i2z46_).toNat < nz46_)) → PW 155 d (2, [some (pvR 100), some (pvI n1), some (pvI i2z46_)], [], M) (fun r X => (∃ x : Int32, r = some (pvI x) ∧ (0 ≤ Int32.toInt x ∧ Int32.toInt x ≤ 1) ∧ x = (if zhas (M.1 108) (Int32.toNatClampNeg (M.1 100 0)) n1 then 1 else 0)) ∧ X = M) := by
    intro nz46_
    induction nz46_ with
    | zero => intro i2z46_ h2z46_ j0z46_ hmz46_; exact absurd (zshow hmz46_) (Nat.not_lt_zero _)
    | succ nz46_ ihz46_ =>
      intro i2z46_ h2z46_ j0z46_ hmz46_
      have b47_ : 0 ≤ Int32.toInt (M.1 100 0) ∧ Int32.toInt (M.1 100 0) ≤ 7 := pvok_r hok 100 0 rfl
      refine pw_blk hT 3 (S' := (7, [some (pvR 100), some (pvI n1), some (pvI i2z46_)], [pvI (M.1 100 0), pvI i2z46_], M)) rfl ⟨trivial, trivial, rfl, trivial⟩ ?_
      refine pw_ic hT (c := (M.1 100 0) ≤ i2z46_) rfl rfl (fun c48_ => ?_) (fun c48_ => ?_)
      · have d49_ : Int32.toInt (M.1 100 0) ≤ Int32.toInt i2z46_ := (zi_le _ _).mp c48_
        have c50_ : ¬ zhas (M.1 108) (Int32.toNatClampNeg (M.1 100 0)) n1 := (znm_o j0z46_ c48_)
        refine pw_blk hT 1 (S' := (29, [some (pvR 100), some (pvI n1), some (pvI i2z46_)], [pvI 0], M)) rfl ⟨trivial, trivial⟩ ?_
        exact pw_ret hT rfl (r := some (pvI 0)) (M' := M) ⟨Or.inl rfl, rfl, rfl⟩ ⟨⟨_, rfl, (zr_wide (show 0 ≤ Int32.toInt 0 ∧ Int32.toInt 0 ≤ 0 from (by decide)) (by decide) (by decide)), (by rw [if_neg c50_]; first | done | (rw [if_neg c50_]; done))⟩, rfl⟩
      · have b51_ : 1 ≤ Int32.toInt (M.1 100 0) ∧ Int32.toInt (M.1 100 0) ≤ 7 := zr_nle_l 1 c48_ b47_ h2z46_ (by decide)
        have b52_ : 0 ≤ Int32.toInt i2z46_ ∧ Int32.toInt i2z46_ ≤ 6 := zr_nle_r 6 c48_ h2z46_ b51_ (by decide)
        have d53_ : Int32.toInt (M.1 100 0) > Int32.toInt i2z46_ := Int.not_le.mp ((not_congr (zi_le _ _)).mp c48_)
        have b54_ : 0 ≤ Int32.toInt (M.1 108 (Int32.toNatClampNeg i2z46_)) ∧ Int32.toInt (M.1 108 (Int32.toNatClampNeg i2z46_)) ≤ 6 := pvok_r hok 108 (Int32.toNatClampNeg i2z46_) rfl
        refine pw_blk hT 5 (S' := (17, [some (pvR 100), some (pvI n1), some (pvI i2z46_)], [pvI n1, pvI (M.1 108 (Int32.toNatClampNeg i2z46_))], M)) rfl ⟨trivial, rfl, trivial, ⟨rfl, (zr_in (n := 7) b52_ (by decide) (by decide))⟩, trivial, trivial⟩ ?_
        refine pw_icn hT (c := (M.1 108 (Int32.toNatClampNeg i2z46_)) = n1) rfl rfl (fun c55_ => ?_) (fun c55_ => ?_)
        · obtain ⟨q57_, b56_⟩ : (Int32.toInt (i2z46_ + 1) = Int32.toInt i2z46_ + 1) ∧ (1 ≤ Int32.toInt (i2z46_ + 1) ∧ Int32.toInt (i2z46_ + 1) ≤ 7) := zadd_k i2z46_ 1 1 1 7 b52_ (by decide) (by decide) (by decide) (by decide) (by decide)
          refine pw_blk hT 2 (S' := (2, [some (pvR 100), some (pvI n1), some (pvI (i2z46_ + 1))], [], M)) rfl ⟨trivial, trivial, trivial⟩ ?_
          have j58_ : ∀ j : Nat, j < Int32.toNatClampNeg (i2z46_ + 1) → M.1 108 j ≠ n1 := (znm_s b52_ (by decide) (by decide) j0z46_ c55_)
          exact ihz46_ (i2z46_ + 1) (zr_wide b56_ (by decide) (by decide)) j58_ (zhid (pvms_up (zshow hmz46_) h2z46_ q57_ (by decide) (by decide)))
        · have b59_ : 0 ≤ Int32.toInt n1 ∧ Int32.toInt n1 ≤ 6 := (by have u0 := (zbnd n1); have u1 := (zi_eq _ _).mp c55_; have u2 := b54_; omega)
          have d60_ : Int32.toInt (M.1 108 (Int32.toNatClampNeg i2z46_)) = Int32.toInt n1 := (zi_eq _ _).mp c55_
          have c61_ : zhas (M.1 108) (Int32.toNatClampNeg (M.1 100 0)) n1 := (znm_i (b52_).1 c48_ c55_)
          refine pw_blk hT 1 (S' := (21, [some (pvR 100), some (pvI n1), some (pvI i2z46_)], [pvI 1], M)) rfl ⟨trivial, trivial⟩ ?_
          exact pw_ret hT rfl (r := some (pvI 1)) (M' := M) ⟨Or.inr rfl, rfl, rfl⟩ ⟨⟨_, rfl, (zr_wide (show 1 ≤ Int32.toInt 1 ∧ Int32.toInt 1 ≤ 1 from (by decide)) (by decide) (by decide)), (by rw [if_pos c61_]; first | done | (rw [if_pos c61_]; done))⟩, rfl⟩
  have u62_ : Int32.toInt 0 = 0 := by decide
  have j63_ : ∀ j : Nat, j < Int32.toNatClampNeg 0 → M.1 108 j ≠ n1 := (znm_0 (M.1 108) n1)
  exact hlz46_ _ 0 (zr_wide (show 0 ≤ Int32.toInt 0 ∧ Int32.toInt 0 ≤ 0 from (by decide)) (by decide) (by decide)) j63_ (zhid (Nat.lt_succ_self _))
def fpL_eX6_append_100_x_x : List (Nat × Nat × Nat) := [(0, 100, 1), (0, 108, 0), (0, 116, 0)]
def fp_eX6_append_100_x_x (q k : Nat) : Bool := pvfp fpL_eX6_append_100_x_x q k
set_option maxHeartbeats 4000000 in
set_option maxRecDepth 10000 in
theorem se_X6_append_100_x_x (M : pvM) (hok : pvOk M) (n1 : Int32) (n2 : Int32) (hn1 : 0 ≤ Int32.toInt n1 ∧ Int32.toInt n1 ≤ 6) (hn2 : 0 ≤ Int32.toInt n2 ∧ Int32.toInt n2 ≤ 9999) (d : Nat) : PW 151 d (0, [some (pvR 100), some (pvI n1), some (pvI n2)], [], M) (fun r X => (∃ x : Int32, r = some (pvI x) ∧ (1 ≤ Int32.toInt x ∧ Int32.toInt x ≤ 7) ∧ x = (if (M.1 100 0) < (Int32.ofNat 7) then ((M.1 100 0) + 1) else (M.1 100 0))) ∧ pvOk X ∧ pvFr fp_eX6_append_100_x_x M X ∧ zAp 100 108 116 7 n1 n2 M X ∧ X.1 100 0 = (if (M.1 100 0) < (Int32.ofNat 7) then ((M.1 100 0) + 1) else (M.1 100 0))) := by
  have hT : pvdom 151 = pvD_151 := rfl
  refine pw_blk hT 1 (S' := (1, [some (pvR 100), some (pvI n1), some (pvI n2)], [pvR 100], M)) rfl ⟨trivial, trivial⟩ ?_
  refine pw_callT hT (as := [pvR 100]) (lo1 := [some (pvR 100)]) (d1 := d) (rest := []) rfl rfl rfl rfl rfl (fun _ => rfl) (Nat.zero_le _) rfl rfl rfl (sf_X6_isFull_100 M hok d) ?_
  have b6_ : 0 ≤ Int32.toInt (M.1 100 0) ∧ Int32.toInt (M.1 100 0) ≤ 7 := pvok_r hok 100 0 rfl
  by_cases c7_ : (M.1 100 0) < (Int32.ofNat 7)
  · refine pw_eqI (if_pos c7_) ?_
    have b8_ : 0 ≤ Int32.toInt (M.1 100 0) ∧ Int32.toInt (M.1 100 0) ≤ 6 := zr_lt_l 6 c7_ b6_ (show 7 ≤ Int32.toInt (Int32.ofNat 7) ∧ Int32.toInt (Int32.ofNat 7) ≤ 7 from (by decide)) (by decide)
    show PW 151 d (4, [some (pvR 100), some (pvI n1), some (pvI n2)], [pvI 0], M) _
    refine pw_if hT (c := 0 = 0) rfl rfl (fun c9_ => ?_) (fun c9_ => absurd (by decide) c9_)
    refine pw_blkw hT 6 (pc := 22) (lo := [some (pvR 100), some (pvI n1), some (pvI n2)]) (st := []) (M := pvu M 108 (Int32.toNatClampNeg (M.1 100 0)) n1) rfl ⟨trivial, rfl, trivial, rfl, trivial, ⟨rfl, (zr_in (n := 7) b8_ (by decide) (by decide))⟩, trivial⟩ (fun M10_ e11_ => ?_)
    have o12_ : pvOk M10_ := pvok_u2 e11_ hok rfl hn1
    have f13_ : pvFr fp_eX6_append_100_x_x M M10_ := pvfr_u e11_ pvfr_0 rfl
    have e14_ : (M10_.1 100 0) = (M.1 100 0) := (pvu_n e11_ 100 0 (Or.inl (by decide)))
    have b15_ : 0 ≤ Int32.toInt (M10_.1 100 0) ∧ Int32.toInt (M10_.1 100 0) ≤ 6 := (by rw [e14_]; exact b8_)
    refine pw_blkw hT 6 (pc := 32) (lo := [some (pvR 100), some (pvI n1), some (pvI n2)]) (st := []) (M := pvu M10_ 116 (Int32.toNatClampNeg (M10_.1 100 0)) n2) rfl ⟨trivial, rfl, trivial, rfl, trivial, ⟨rfl, (zr_in (n := 7) b15_ (by decide) (by decide))⟩, trivial⟩ (fun M16_ e17_ => ?_)
    have o18_ : pvOk M16_ := pvok_u2 e17_ o12_ rfl hn2
    have f19_ : pvFr fp_eX6_append_100_x_x M M16_ := pvfr_u e17_ f13_ rfl
    have e20_ : (M16_.1 100 0) = (M10_.1 100 0) := (pvu_n e17_ 100 0 (Or.inl (by decide)))
    have b21_ : 0 ≤ Int32.toInt (M16_.1 100 0) ∧ Int32.toInt (M16_.1 100 0) ≤ 6 := (by rw [e20_]; exact b15_)
    obtain ⟨q23_, b22_⟩ : (Int32.toInt ((M16_.1 100 0) + 1) = Int32.toInt (M16_.1 100 0) + 1) ∧ (1 ≤ Int32.toInt ((M16_.1 100 0) + 1) ∧ Int32.toInt ((M16_.1 100 0) + 1) ≤ 7) := zadd_k (M16_.1 100 0) 1 1 1 7 b21_ (by decide) (by decide) (by decide) (by decide) (by decide)
    refine pw_blkw hT 6 (pc := 42) (lo := [some (pvR 100), some (pvI n1), some (pvI n2)]) (st := []) (M := pvu M16_ 100 0 ((M16_.1 100 0) + 1)) rfl ⟨trivial, trivial, rfl, trivial, trivial, rfl, trivial⟩ (fun M24_ e25_ => ?_)
    have o26_ : pvOk M24_ := pvok_u2 e25_ o18_ rfl (zr_wide b22_ (by decide) (by decide))
    have f27_ : pvFr fp_eX6_append_100_x_x M M24_ := pvfr_u e25_ f19_ rfl
    have e28_ : (M24_.1 100 0) = ((M16_.1 100 0) + 1) := (pvu_s e25_)
    have b29_ : 1 ≤ Int32.toInt (M24_.1 100 0) ∧ Int32.toInt (M24_.1 100 0) ≤ 7 := (by rw [e28_]; exact b22_)
    refine pw_blk hT 2 (S' := (46, [some (pvR 100), some (pvI n1), some (pvI n2)], [pvI (M24_.1 100 0)], M24_)) rfl ⟨trivial, rfl, trivial⟩ ?_
    exact pw_ret hT rfl (r := some (pvI (M24_.1 100 0))) (M' := M24_) ⟨rfl, rfl⟩ ⟨⟨_, rfl, b29_, (by rw [if_pos c7_]; first | done | exact (show (M24_.1 100 0) = ((M.1 100 0) + 1) from by rw [((pvu_s e25_).trans (show ((M16_.1 100 0) + 1) = ((M.1 100 0) + 1) from by rw [((pvu_n e17_ 100 0 (Or.inl (by decide))).trans (pvu_n e11_ 100 0 (Or.inl (by decide))))]))]) | (rw [if_pos c7_]; exact (show (M24_.1 100 0) = ((M.1 100 0) + 1) from by rw [((pvu_s e25_).trans (show ((M16_.1 100 0) + 1) = ((M.1 100 0) + 1) from by rw [((pvu_n e17_ 100 0 (Or.inl (by decide))).trans (pvu_n e11_ 100 0 (Or.inl (by decide))))]))])))⟩, o26_, f27_, (zAp_y (by decide) (by decide) (by decide) (by have u := b8_; omega) e11_ e17_ e25_), (by rw [if_pos c7_]; first | done | exact ((pvu_s e25_).trans (show ((M16_.1 100 0) + 1) = ((M.1 100 0) + 1) from by rw [((pvu_n e17_ 100 0 (Or.inl (by decide))).trans (pvu_n e11_ 100 0 (Or.inl (by decide))))])) | (rw [if_pos c7_]; done) | (rw [if_pos c7_]; exact ((pvu_s e25_).trans (show ((M16_.1 100 0) + 1) = ((M.1 100 0) + 1) from by rw [((pvu_n e17_ 100 0 (Or.inl (by decide))).trans (pvu_n e11_ 100 0 (Or.inl (by decide))))]))))⟩
  · refine pw_eqI (if_neg c7_) ?_
    have b30_ : 7 ≤ Int32.toInt (M.1 100 0) ∧ Int32.toInt (M.1 100 0) ≤ 7 := zr_nlt_l 7 c7_ b6_ (show 7 ≤ Int32.toInt (Int32.ofNat 7) ∧ Int32.toInt (Int32.ofNat 7) ≤ 7 from (by decide)) (by decide)
    show PW 151 d (4, [some (pvR 100), some (pvI n1), some (pvI n2)], [pvI 1], M) _
    refine pw_if hT (c := 1 = 0) rfl rfl (fun c31_ => absurd c31_ (by decide)) (fun c31_ => ?_)
    refine pw_blk hT 2 (S' := (11, [some (pvR 100), some (pvI n1), some (pvI n2)], [pvI (M.1 100 0)], M)) rfl ⟨trivial, rfl, trivial⟩ ?_
    exact pw_ret hT rfl (r := some (pvI (M.1 100 0))) (M' := M) ⟨rfl, rfl⟩ ⟨⟨_, rfl, (zr_wide b30_ (by decide) (by decide)), (by rw [if_neg c7_]; first | done | (rw [if_neg c7_]; done))⟩, hok, pvfr_0, (zAp_n (by have u := b30_; omega)), (by rw [if_neg c7_]; first | done | exact rfl | (rw [if_neg c7_]; done) | (rw [if_neg c7_]; exact rfl))⟩
def fpL_eX6_clear_100 : List (Nat × Nat × Nat) := [(0, 100, 1)]
def fp_eX6_clear_100 (q k : Nat) : Bool := pvfp fpL_eX6_clear_100 q k
set_option maxHeartbeats 4000000 in
set_option maxRecDepth 10000 in
theorem se_X6_clear_100 (M : pvM) (hok : pvOk M) (d : Nat) : PW 153 d (0, [some (pvR 100)], [], M) (fun r X => (∃ x : Int32, r = some (pvI x) ∧ (0 ≤ Int32.toInt x ∧ Int32.toInt x ≤ 0) ∧ x = 0) ∧ pvOk X ∧ pvFr fp_eX6_clear_100 M X ∧ X.1 100 0 = 0) := by
  have hT : pvdom 153 = pvD_153 := rfl
  refine pw_blkw hT 3 (pc := 5) (lo := [some (pvR 100)]) (st := []) (M := pvu M 100 0 0) rfl ⟨trivial, trivial, rfl, trivial⟩ (fun M1_ e2_ => ?_)
  have o3_ : pvOk M1_ := pvok_u2 e2_ hok rfl (zr_wide (show 0 ≤ Int32.toInt 0 ∧ Int32.toInt 0 ≤ 0 from (by decide)) (by decide) (by decide))
  have f4_ : pvFr fp_eX6_clear_100 M M1_ := pvfr_u e2_ pvfr_0 rfl
  refine pw_blk hT 1 (S' := (6, [some (pvR 100)], [pvI 0], M1_)) rfl ⟨trivial, trivial⟩ ?_
  exact pw_ret hT rfl (r := some (pvI 0)) (M' := M1_) ⟨rfl, rfl⟩ ⟨⟨_, rfl, (show 0 ≤ Int32.toInt 0 ∧ Int32.toInt 0 ≤ 0 from (by decide)), rfl⟩, o3_, f4_, (pvu_s e2_)⟩
def fpL_eX9_add_0_x : List (Nat × Nat × Nat) := [(0, 100, 1), (0, 108, 0), (0, 116, 0)]
def fp_eX9_add_0_x (q k : Nat) : Bool := pvfp fpL_eX9_add_0_x q k
theorem fp_eX9_add_0_x_fp_eX6_append_100_x_x (a b : Nat) (h : fp_eX6_append_100_x_x a b = true) : fp_eX9_add_0_x a b = true := pvfp_sub (l1 := fpL_eX6_append_100_x_x) (l2 := fpL_eX9_add_0_x) (by decide) a b h
theorem fp_eX9_add_0_x_fp_eX6_clear_100 (a b : Nat) (h : fp_eX6_clear_100 a b = true) : fp_eX9_add_0_x a b = true := pvfp_sub (l1 := fpL_eX6_clear_100) (l2 := fpL_eX9_add_0_x) (by decide) a b h
set_option maxHeartbeats 4000000 in
set_option maxRecDepth 10000 in
theorem se_X9_add_0_x (M : pvM) (hok : pvOk M) (n1 : Int32) (d : Nat) : PW 167 d (0, [some (pvR 0), some (pvI n1)], [], M) (fun r X => (∃ x : Int32, r = some (pvI x) ∧ ((-4) ≤ Int32.toInt x ∧ Int32.toInt x ≤ 7) ∧ x = (if n1 = (-1) then 0 else (if n1 < 0 then (-1) else (if (M.1 8 1) ≤ n1 then (-1) else (if ((if zhas (M.1 108) (Int32.toNatClampNeg (M.1 100 0)) n1 then 1 else 0) : Int32) = 0 then (if (M.1 100 0) < (Int32.ofNat 7) then (if (M.1 100 0) < (Int32.ofNat 7) then ((M.1 100 0) + 1) else (M.1 100 0)) else (-4)) else (-2)))))) ∧ pvOk X ∧ pvFr fp_eX9_add_0_x M X ∧ zAd 100 0 108 7 n1 r M X ∧ X.1 100 0 = (if n1 = (-1) then 0 else (if n1 < 0 then (M.1 100 0) else (if (M.1 8 1) ≤ n1 then (M.1 100 0) else (if ((if zhas (M.1 108) (Int32.toNatClampNeg (M.1 100 0)) n1 then 1 else 0) : Int32) = 0 then (if (M.1 100 0) < (Int32.ofNat 7) then (if (M.1 100 0) < (Int32.ofNat 7) then ((M.1 100 0) + 1) else (M.1 100 0)) else (M.1 100 0)) else (M.1 100 0)))))) := by
  have hT : pvdom 167 = pvD_167 := rfl
  refine pw_blk hT 2 (S' := (2, [some (pvR 0), some (pvI n1)], [pvI (-1), pvI n1], M)) rfl ⟨trivial, trivial, trivial⟩ ?_
  refine pw_icn hT (c := n1 = (-1)) rfl rfl (fun c1_ => ?_) (fun c1_ => ?_)
  · refine pw_blk hT 3 (S' := (21, [some (pvR 0), some (pvI n1)], [pvI n1, pvR 8], M)) rfl ⟨trivial, rfl, trivial, trivial⟩ ?_
    refine pw_callT hT (as := [pvR 8, pvI n1]) (lo1 := [some (pvR 8), some (pvI n1)]) (d1 := d) (rest := []) rfl rfl rfl rfl rfl (fun _ => rfl) (Nat.zero_le _) rfl rfl rfl (sf_X7_has_8_x M hok n1 d) ?_
    by_cases c7_ : n1 < 0
    · refine pw_eqI (if_pos c7_) ?_
      have b8_ : (-2147483648) ≤ Int32.toInt n1 ∧ Int32.toInt n1 ≤ (-2) := (by have u0 := (zbnd n1); have u9 := (show _ ∧ _ from ⟨(zi_lt _ _).mp c7_, (show 0 ≤ Int32.toInt 0 ∧ Int32.toInt 0 ≤ 0 from (by decide))⟩); have v1 := (not_congr (zi_eq _ _)).mp c1_; have w1 : ((-1) : Int32).toInt = -1 := (by decide); omega)
      show PW 167 d (24, [some (pvR 0), some (pvI n1)], [pvI 0], M) _
      refine pw_ifn hT (c := 0 = 0) rfl rfl (fun c9_ => absurd (by decide) c9_) (fun c9_ => ?_)
      refine pw_blk hT 1 (S' := (28, [some (pvR 0), some (pvI n1)], [pvI (-1)], M)) rfl ⟨trivial, trivial⟩ ?_
      exact pw_ret hT rfl (r := some (pvI (-1))) (M' := M) ⟨rfl, rfl⟩ ⟨⟨_, rfl, (zr_wide (show (-1) ≤ Int32.toInt (-1) ∧ Int32.toInt (-1) ≤ (-1) from (by decide)) (by decide) (by decide)), (by rw [if_neg c1_, if_pos c7_]; first | done | (rw [if_pos c7_]; done))⟩, hok, pvfr_0, ⟨_, rfl, Or.inl ⟨by decide, rfl, fun i _ => rfl⟩⟩, (by rw [if_neg c1_, if_pos c7_]; first | done | exact rfl | (rw [if_pos c7_]; done) | (rw [if_pos c7_]; exact rfl))⟩
    · refine pw_eqI (if_neg c7_) ?_
      have b10_ : 0 ≤ Int32.toInt n1 ∧ Int32.toInt n1 ≤ 2147483647 := zr_nlt_l 0 c7_ (zbnd n1) (show 0 ≤ Int32.toInt 0 ∧ Int32.toInt 0 ≤ 0 from (by decide)) (by decide)
      have b11_ : 0 ≤ Int32.toInt (M.1 8 1) ∧ Int32.toInt (M.1 8 1) ≤ 7 := pvok_r hok 8 1 rfl
      by_cases c12_ : (M.1 8 1) ≤ n1
      · refine pw_eqI (if_pos c12_) ?_
        have d13_ : Int32.toInt (M.1 8 1) ≤ Int32.toInt n1 := (zi_le _ _).mp c12_
        show PW 167 d (24, [some (pvR 0), some (pvI n1)], [pvI 0], M) _
        refine pw_ifn hT (c := 0 = 0) rfl rfl (fun c14_ => absurd (by decide) c14_) (fun c14_ => ?_)
        refine pw_blk hT 1 (S' := (28, [some (pvR 0), some (pvI n1)], [pvI (-1)], M)) rfl ⟨trivial, trivial⟩ ?_
        exact pw_ret hT rfl (r := some (pvI (-1))) (M' := M) ⟨rfl, rfl⟩ ⟨⟨_, rfl, (zr_wide (show (-1) ≤ Int32.toInt (-1) ∧ Int32.toInt (-1) ≤ (-1) from (by decide)) (by decide) (by decide)), (by rw [if_neg c1_, if_neg c7_, if_pos c12_]; first | done | (rw [if_pos c12_]; done))⟩, hok, pvfr_0, ⟨_, rfl, Or.inl ⟨by decide, rfl, fun i _ => rfl⟩⟩, (by rw [if_neg c1_, if_neg c7_, if_pos c12_]; first | done | exact rfl | (rw [if_pos c12_]; done) | (rw [if_pos c12_]; exact rfl))⟩
      · refine pw_eqI (if_neg c12_) ?_
        have b15_ : 1 ≤ Int32.toInt (M.1 8 1) ∧ Int32.toInt (M.1 8 1) ≤ 7 := zr_nle_l 1 c12_ b11_ b10_ (by decide)
        have b16_ : 0 ≤ Int32.toInt n1 ∧ Int32.toInt n1 ≤ 6 := zr_nle_r 6 c12_ b10_ b15_ (by decide)
        have d17_ : Int32.toInt (M.1 8 1) > Int32.toInt n1 := Int.not_le.mp ((not_congr (zi_le _ _)).mp c12_)
        show PW 167 d (24, [some (pvR 0), some (pvI n1)], [pvI 1], M) _
        refine pw_ifn hT (c := 1 = 0) rfl rfl (fun c18_ => ?_) (fun c18_ => absurd c18_ (by decide))
        refine pw_blk hT 4 (S' := (37, [some (pvR 0), some (pvI n1)], [pvI n1, pvR 100], M)) rfl ⟨trivial, rfl, rfl, trivial, trivial⟩ ?_
        refine pw_callGp hT (as := [pvR 100, pvI n1]) (lo1 := [some (pvR 100), some (pvI n1), none]) (d1 := d) (rest := []) rfl rfl rfl rfl rfl (fun _ => rfl) (Nat.zero_le _) rfl rfl rfl (se_X6_names_100_x M hok n1 d) (fun x19_ b21_ => ?_)
        obtain ⟨b24_, d25_⟩ := b21_
        subst d25_
        refine pw_if hT (c := ((if zhas (M.1 108) (Int32.toNatClampNeg (M.1 100 0)) n1 then 1 else 0) : Int32) = 0) rfl rfl (fun c26_ => ?_) (fun c26_ => ?_)
        · have b27_ : 0 ≤ Int32.toInt ((if zhas (M.1 108) (Int32.toNatClampNeg (M.1 100 0)) n1 then 1 else 0) : Int32) ∧ Int32.toInt ((if zhas (M.1 108) (Int32.toNatClampNeg (M.1 100 0)) n1 then 1 else 0) : Int32) ≤ 0 := (by have u0 := b24_; have u1 := (zi_eq _ _).mp c26_; have u2 := (show 0 ≤ Int32.toInt 0 ∧ Int32.toInt 0 ≤ 0 from (by decide)); omega)
          refine pw_blk hT 3 (S' := (53, [some (pvR 0), some (pvI n1)], [pvR 100], M)) rfl ⟨trivial, rfl, rfl, trivial⟩ ?_
          refine pw_callT hT (as := [pvR 100]) (lo1 := [some (pvR 100)]) (d1 := d) (rest := []) rfl rfl rfl rfl rfl (fun _ => rfl) (Nat.zero_le _) rfl rfl rfl (sf_X6_isFull_100 M hok d) ?_
          have b33_ : 0 ≤ Int32.toInt (M.1 100 0) ∧ Int32.toInt (M.1 100 0) ≤ 7 := pvok_r hok 100 0 rfl
          by_cases c34_ : (M.1 100 0) < (Int32.ofNat 7)
          · refine pw_eqI (if_pos c34_) ?_
            have b35_ : 0 ≤ Int32.toInt (M.1 100 0) ∧ Int32.toInt (M.1 100 0) ≤ 6 := zr_lt_l 6 c34_ b33_ (show 7 ≤ Int32.toInt (Int32.ofNat 7) ∧ Int32.toInt (Int32.ofNat 7) ≤ 7 from (by decide)) (by decide)
            show PW 167 d (56, [some (pvR 0), some (pvI n1)], [pvI 0], M) _
            refine pw_if hT (c := 0 = 0) rfl rfl (fun c36_ => ?_) (fun c36_ => absurd (by decide) c36_)
            refine pw_blk hT 5 (S' := (71, [some (pvR 0), some (pvI n1)], [pvI 0, pvI n1, pvR 100], M)) rfl ⟨trivial, rfl, rfl, trivial, trivial, trivial⟩ ?_
            refine pw_callGd hT (as := [pvR 100, pvI n1, pvI 0]) (lo1 := [some (pvR 100), some (pvI n1), some (pvI 0)]) (d1 := d) (rest := []) rfl rfl rfl rfl rfl (fun _ => rfl) (Nat.zero_le _) rfl rfl rfl (se_X6_append_100_x_x M hok n1 0 b16_ (zr_wide (show 0 ≤ Int32.toInt 0 ∧ Int32.toInt 0 ≤ 0 from (by decide)) (by decide) (by decide)) d) (fun x38_ M39_ b40_ o41_ g42_ d37_ => ?_)
            have f43_ : pvFr fp_eX9_add_0_x M M39_ := pvfr_t g42_ pvfr_0 fp_eX9_add_0_x_fp_eX6_append_100_x_x
            have u44_ : Int32.toInt 0 = 0 := by decide
            obtain ⟨b45_, d46_⟩ := b40_
            subst d46_
            exact pw_ret hT rfl (r := some (pvI (if (M.1 100 0) < (Int32.ofNat 7) then ((M.1 100 0) + 1) else (M.1 100 0)))) (M' := M39_) ⟨rfl, rfl⟩ ⟨⟨_, rfl, (zr_wide b45_ (by decide) (by decide)), (by rw [if_neg c1_, if_neg c7_, if_neg c12_, if_pos c26_, if_pos c34_]; first | done | (rw [if_pos c34_]; done))⟩, o41_, f43_, (zAd_9 (by decide) (by decide) c34_ (pvok_r hok 100 0 rfl).1 d37_.1 d37_.2), (by rw [if_neg c1_, if_neg c7_, if_neg c12_, if_pos c26_, if_pos c34_]; first | done | exact d37_.2 | (rw [if_pos c34_]; done) | (rw [if_pos c34_]; exact d37_.2))⟩
          · refine pw_eqI (if_neg c34_) ?_
            have b47_ : 7 ≤ Int32.toInt (M.1 100 0) ∧ Int32.toInt (M.1 100 0) ≤ 7 := zr_nlt_l 7 c34_ b33_ (show 7 ≤ Int32.toInt (Int32.ofNat 7) ∧ Int32.toInt (Int32.ofNat 7) ≤ 7 from (by decide)) (by decide)
            show PW 167 d (56, [some (pvR 0), some (pvI n1)], [pvI 1], M) _
            refine pw_if hT (c := 1 = 0) rfl rfl (fun c48_ => absurd c48_ (by decide)) (fun c48_ => ?_)
            refine pw_blk hT 1 (S' := (61, [some (pvR 0), some (pvI n1)], [pvI (-4)], M)) rfl ⟨trivial, trivial⟩ ?_
            exact pw_ret hT rfl (r := some (pvI (-4))) (M' := M) ⟨rfl, rfl⟩ ⟨⟨_, rfl, (zr_wide (show (-4) ≤ Int32.toInt (-4) ∧ Int32.toInt (-4) ≤ (-4) from (by decide)) (by decide) (by decide)), (by rw [if_neg c1_, if_neg c7_, if_neg c12_, if_pos c26_, if_neg c34_]; first | done | (rw [if_neg c34_]; done))⟩, hok, pvfr_0, ⟨_, rfl, Or.inl ⟨by decide, rfl, fun i _ => rfl⟩⟩, (by rw [if_neg c1_, if_neg c7_, if_neg c12_, if_pos c26_, if_neg c34_]; first | done | exact rfl | (rw [if_neg c34_]; done) | (rw [if_neg c34_]; exact rfl))⟩
        · have b49_ : 1 ≤ Int32.toInt ((if zhas (M.1 108) (Int32.toNatClampNeg (M.1 100 0)) n1 then 1 else 0) : Int32) ∧ Int32.toInt ((if zhas (M.1 108) (Int32.toNatClampNeg (M.1 100 0)) n1 then 1 else 0) : Int32) ≤ 1 := (by have u0 := b24_; have u1 := (not_congr (zi_eq _ _)).mp c26_; have u2 := (show 0 ≤ Int32.toInt 0 ∧ Int32.toInt 0 ≤ 0 from (by decide)); omega)
          refine pw_blk hT 1 (S' := (45, [some (pvR 0), some (pvI n1)], [pvI (-2)], M)) rfl ⟨trivial, trivial⟩ ?_
          exact pw_ret hT rfl (r := some (pvI (-2))) (M' := M) ⟨rfl, rfl⟩ ⟨⟨_, rfl, (zr_wide (show (-2) ≤ Int32.toInt (-2) ∧ Int32.toInt (-2) ≤ (-2) from (by decide)) (by decide) (by decide)), (by rw [if_neg c1_, if_neg c7_, if_neg c12_, if_neg c26_]; first | done | (rw [if_neg c26_]; done))⟩, hok, pvfr_0, ⟨_, rfl, Or.inl ⟨by decide, rfl, fun i _ => rfl⟩⟩, (by rw [if_neg c1_, if_neg c7_, if_neg c12_, if_neg c26_]; first | done | exact rfl | (rw [if_neg c26_]; done) | (rw [if_neg c26_]; exact rfl))⟩
  · have b50_ : (-1) ≤ Int32.toInt n1 ∧ Int32.toInt n1 ≤ (-1) := (by have u0 := (zbnd n1); have u1 := (zi_eq _ _).mp c1_; have u2 := (show (-1) ≤ Int32.toInt (-1) ∧ Int32.toInt (-1) ≤ (-1) from (by decide)); omega)
    refine pw_blk hT 3 (S' := (12, [some (pvR 0), some (pvI n1)], [pvR 100], M)) rfl ⟨trivial, rfl, rfl, trivial⟩ ?_
    refine pw_callGd hT (as := [pvR 100]) (lo1 := [some (pvR 100)]) (d1 := d) (rest := []) rfl rfl rfl rfl rfl (fun _ => rfl) (Nat.zero_le _) rfl rfl rfl (se_X6_clear_100 M hok d) (fun x52_ M53_ b54_ o55_ g56_ d51_ => ?_)
    have f57_ : pvFr fp_eX9_add_0_x M M53_ := pvfr_t g56_ pvfr_0 fp_eX9_add_0_x_fp_eX6_clear_100
    obtain ⟨b58_, d59_⟩ := b54_
    subst d59_
    exact pw_ret hT rfl (r := some (pvI 0)) (M' := M53_) ⟨rfl, rfl⟩ ⟨⟨_, rfl, (zr_wide b58_ (by decide) (by decide)), (by rw [if_pos c1_]; first | done | (rw [if_pos c1_]; done))⟩, o55_, f57_, ⟨_, rfl, Or.inr (Or.inl ⟨rfl, d51_⟩)⟩, (by rw [if_pos c1_]; first | done | exact d51_ | (rw [if_pos c1_]; done) | (rw [if_pos c1_]; exact d51_))⟩
set_option maxHeartbeats 4000000 in
set_option maxRecDepth 10000 in
theorem se_X4_wayFrom_x_x_x_x (M : pvM) (hok : pvOk M) (q0 : Nat) (n1 : Int32) (n2 : Int32) (n3 : Int32) (hq0 : pvkl q0 = 3) (hn1 : 0 ≤ Int32.toInt n1 ∧ Int32.toInt n1 ≤ 3) (hn2 : 0 ≤ Int32.toInt n2 ∧ Int32.toInt n2 ≤ 4) (hn3 : 0 ≤ Int32.toInt n3 ∧ Int32.toInt n3 ≤ 99) (d : Nat) : PW 138 d (0, [some (pvR q0), some (pvI n1), some (pvI n2), some (pvI n3)], [], M) (fun r X => (∃ x : Int32, r = some (pvI x) ∧ (0 ≤ Int32.toInt x ∧ Int32.toInt x ≤ 301) ∧ Int32.toInt x = zWy (Int32.toInt n3) (Int32.toInt (M.1 q0 2)) (Int32.toInt (M.1 q0 3)) (Int32.toInt n1) (Int32.toInt n2)) ∧ X = M) := by
  have hT : pvdom 138 = pvD_138 := rfl
  have b1_ : 0 ≤ Int32.toInt (M.1 q0 2) ∧ Int32.toInt (M.1 q0 2) ≤ 3 := pvok_r hok q0 2 ((pvrg_o 2 hq0 (by decide) (by decide)).trans rfl)
  obtain ⟨q3_, b2_⟩ : (Int32.toInt ((M.1 q0 2) - n1) = Int32.toInt (M.1 q0 2) - Int32.toInt n1) ∧ ((-3) ≤ Int32.toInt ((M.1 q0 2) - n1) ∧ Int32.toInt ((M.1 q0 2) - n1) ≤ 3) := zsub_r (M.1 q0 2) n1 (-3) 3 b1_ hn1 (by decide) (by decide) (by decide) (by decide)
  have b4_ : 0 ≤ Int32.toInt (if 0 ≤ ((M.1 q0 2) - n1) then ((M.1 q0 2) - n1) else 0 - ((M.1 q0 2) - n1)) ∧ Int32.toInt (if 0 ≤ ((M.1 q0 2) - n1) then ((M.1 q0 2) - n1) else 0 - ((M.1 q0 2) - n1)) ≤ 3 := (by have u0 := b2_; have u := pvabs ((M.1 q0 2) - n1) (by omega); omega)
  have b5_ : 0 ≤ Int32.toInt (n3 * (if 0 ≤ ((M.1 q0 2) - n1) then ((M.1 q0 2) - n1) else 0 - ((M.1 q0 2) - n1))) ∧ Int32.toInt (n3 * (if 0 ≤ ((M.1 q0 2) - n1) then ((M.1 q0 2) - n1) else 0 - ((M.1 q0 2) - n1))) ≤ 297 := (by have u := zmul_b n3 (if 0 ≤ ((M.1 q0 2) - n1) then ((M.1 q0 2) - n1) else 0 - ((M.1 q0 2) - n1)) 99 3 (by have u0 := hn3; omega) (by have u0 := b4_; omega) (by decide); omega)
  have b6_ : 0 ≤ Int32.toInt (M.1 q0 3) ∧ Int32.toInt (M.1 q0 3) ≤ 4 := pvok_r hok q0 3 ((pvrg_o 3 hq0 (by decide) (by decide)).trans rfl)
  obtain ⟨q8_, b7_⟩ : (Int32.toInt ((M.1 q0 3) - n2) = Int32.toInt (M.1 q0 3) - Int32.toInt n2) ∧ ((-4) ≤ Int32.toInt ((M.1 q0 3) - n2) ∧ Int32.toInt ((M.1 q0 3) - n2) ≤ 4) := zsub_r (M.1 q0 3) n2 (-4) 4 b6_ hn2 (by decide) (by decide) (by decide) (by decide)
  have b9_ : 0 ≤ Int32.toInt (if 0 ≤ ((M.1 q0 3) - n2) then ((M.1 q0 3) - n2) else 0 - ((M.1 q0 3) - n2)) ∧ Int32.toInt (if 0 ≤ ((M.1 q0 3) - n2) then ((M.1 q0 3) - n2) else 0 - ((M.1 q0 3) - n2)) ≤ 4 := (by have u0 := b7_; have u := pvabs ((M.1 q0 3) - n2) (by omega); omega)
  obtain ⟨q11_, b10_⟩ : (Int32.toInt ((n3 * (if 0 ≤ ((M.1 q0 2) - n1) then ((M.1 q0 2) - n1) else 0 - ((M.1 q0 2) - n1))) + (if 0 ≤ ((M.1 q0 3) - n2) then ((M.1 q0 3) - n2) else 0 - ((M.1 q0 3) - n2))) = Int32.toInt (n3 * (if 0 ≤ ((M.1 q0 2) - n1) then ((M.1 q0 2) - n1) else 0 - ((M.1 q0 2) - n1))) + Int32.toInt (if 0 ≤ ((M.1 q0 3) - n2) then ((M.1 q0 3) - n2) else 0 - ((M.1 q0 3) - n2))) ∧ (0 ≤ Int32.toInt ((n3 * (if 0 ≤ ((M.1 q0 2) - n1) then ((M.1 q0 2) - n1) else 0 - ((M.1 q0 2) - n1))) + (if 0 ≤ ((M.1 q0 3) - n2) then ((M.1 q0 3) - n2) else 0 - ((M.1 q0 3) - n2))) ∧ Int32.toInt ((n3 * (if 0 ≤ ((M.1 q0 2) - n1) then ((M.1 q0 2) - n1) else 0 - ((M.1 q0 2) - n1))) + (if 0 ≤ ((M.1 q0 3) - n2) then ((M.1 q0 3) - n2) else 0 - ((M.1 q0 3) - n2))) ≤ 301) := zadd_r (n3 * (if 0 ≤ ((M.1 q0 2) - n1) then ((M.1 q0 2) - n1) else 0 - ((M.1 q0 2) - n1))) (if 0 ≤ ((M.1 q0 3) - n2) then ((M.1 q0 3) - n2) else 0 - ((M.1 q0 3) - n2)) 0 301 b5_ b9_ (by decide) (by decide) (by decide) (by decide)
  refine pw_blk hT 13 (S' := (21, [some (pvR q0), some (pvI n1), some (pvI n2), some (pvI n3)], [pvI ((n3 * (if 0 ≤ ((M.1 q0 2) - n1) then ((M.1 q0 2) - n1) else 0 - ((M.1 q0 2) - n1))) + (if 0 ≤ ((M.1 q0 3) - n2) then ((M.1 q0 3) - n2) else 0 - ((M.1 q0 3) - n2)))], M)) rfl ⟨trivial, trivial, hq0, trivial, trivial, (Nat.le_of_ble_eq_true rfl), trivial, trivial, hq0, trivial, trivial, (Nat.le_of_ble_eq_true rfl), trivial, trivial⟩ ?_
  exact pw_ret hT rfl (r := some (pvI ((n3 * (if 0 ≤ ((M.1 q0 2) - n1) then ((M.1 q0 2) - n1) else 0 - ((M.1 q0 2) - n1))) + (if 0 ≤ ((M.1 q0 3) - n2) then ((M.1 q0 3) - n2) else 0 - ((M.1 q0 3) - n2))))) (M' := M) ⟨rfl, rfl⟩ ⟨⟨_, rfl, b10_, (zwy rfl hn3 (zabs9 (by have u := b1_; omega) (by have u := hn1; omega)).1 (by have z := (zabs9 (by have u := b1_; omega) (by have u := hn1; omega)); omega) (zabs9 (by have u := b6_; omega) (by have u := hn2; omega)).1 (by have z := (zabs9 (by have u := b6_; omega) (by have u := hn2; omega)); omega))⟩, rfl⟩
set_option maxHeartbeats 4000000 in
set_option maxRecDepth 10000 in
theorem se_X4_minutesFrom_x_x_x_x (M : pvM) (hok : pvOk M) (q0 : Nat) (n1 : Int32) (n2 : Int32) (n3 : Int32) (hq0 : pvkl q0 = 3) (hn1 : 0 ≤ Int32.toInt n1 ∧ Int32.toInt n1 ≤ 3) (hn2 : 0 ≤ Int32.toInt n2 ∧ Int32.toInt n2 ≤ 4) (hn3 : 0 ≤ Int32.toInt n3 ∧ Int32.toInt n3 ≤ 99) (d : Nat) : PW 136 d (0, [some (pvR q0), some (pvI n1), some (pvI n2), some (pvI n3), none], [], M) (fun r X => (∃ x : Int32, r = some (pvI x) ∧ (0 ≤ Int32.toInt x ∧ Int32.toInt x ≤ 319) ∧ Int32.toInt x = zWy (Int32.toInt n3) (Int32.toInt (M.1 q0 2)) (Int32.toInt (M.1 q0 3)) (Int32.toInt n1) (Int32.toInt n2) + zTm (M.1 q0 0) (M.1 q0 4)) ∧ X = M) := by
  have hT : pvdom 136 = pvD_136 := rfl
  have b1_ : 0 ≤ Int32.toInt (M.1 q0 0) ∧ Int32.toInt (M.1 q0 0) ≤ 6 := pvok_r hok q0 0 ((pvrg_o 0 hq0 (by decide) (by decide)).trans rfl)
  refine pw_blk hT 3 (S' := (5, [some (pvR q0), some (pvI n1), some (pvI n2), some (pvI n3), none], [pvI 1, pvI (M.1 q0 0)], M)) rfl ⟨trivial, hq0, trivial, trivial⟩ ?_
  refine pw_ic hT (c := (M.1 q0 0) = 1) rfl rfl (fun c2_ => ?_) (fun c2_ => ?_)
  · have b3_ : 1 ≤ Int32.toInt (M.1 q0 0) ∧ Int32.toInt (M.1 q0 0) ≤ 1 := (by have u0 := b1_; have u1 := (zi_eq _ _).mp c2_; have u2 := (show 1 ≤ Int32.toInt 1 ∧ Int32.toInt 1 ≤ 1 from (by decide)); omega)
    refine pw_blk hT 7 (S' := (27, [some (pvR q0), some (pvI n1), some (pvI n2), some (pvI n3), some (pvI 2)], [pvI n3, pvI n2, pvI n1, pvR q0], M)) rfl ⟨trivial, trivial, trivial, trivial, trivial, trivial, trivial, trivial⟩ ?_
    refine pw_callGp hT (as := [pvR q0, pvI n1, pvI n2, pvI n3]) (lo1 := [some (pvR q0), some (pvI n1), some (pvI n2), some (pvI n3)]) (d1 := d) (rest := []) rfl rfl rfl rfl rfl (fun _ => hq0) (Nat.zero_le _) rfl rfl rfl (se_X4_wayFrom_x_x_x_x M hok q0 n1 n2 n3 hq0 hn1 hn2 hn3 d) (fun x4_ b6_ => ?_)
    obtain ⟨b9_, d10_⟩ := b6_
    have b11_ : 0 ≤ Int32.toInt (M.1 q0 4) ∧ Int32.toInt (M.1 q0 4) ≤ 9 := pvok_r hok q0 4 ((pvrg_o 4 hq0 (by decide) (by decide)).trans rfl)
    have q12_ : Int32.toInt (2 * (M.1 q0 4)) = 2 * Int32.toInt (M.1 q0 4) := by have u0 : Int32.toInt 2 = 2 := (by decide); have u1 := b11_; have u2 := zmul 2 (M.1 q0 4) (by rw [u0]; omega) (by rw [u0]; omega); rw [u0] at u2; omega
    have b13_ : 0 ≤ Int32.toInt (2 * (M.1 q0 4)) ∧ Int32.toInt (2 * (M.1 q0 4)) ≤ 18 := (by have u1 := b11_; omega)
    obtain ⟨q15_, b14_⟩ : (Int32.toInt (x4_ + (2 * (M.1 q0 4))) = Int32.toInt x4_ + Int32.toInt (2 * (M.1 q0 4))) ∧ (0 ≤ Int32.toInt (x4_ + (2 * (M.1 q0 4))) ∧ Int32.toInt (x4_ + (2 * (M.1 q0 4))) ≤ 319) := zadd_r x4_ (2 * (M.1 q0 4)) 0 319 b9_ b13_ (by decide) (by decide) (by decide) (by decide)
    refine pw_blk hT 5 (S' := (38, [some (pvR q0), some (pvI n1), some (pvI n2), some (pvI n3), some (pvI 2)], [pvI (x4_ + (2 * (M.1 q0 4)))], M)) rfl ⟨trivial, trivial, hq0, trivial, trivial, trivial⟩ ?_
    exact pw_ret hT rfl (r := some (pvI (x4_ + (2 * (M.1 q0 4))))) (M' := M) ⟨rfl, rfl⟩ ⟨⟨_, rfl, b14_, (by unfold zTm; rw [if_pos (Or.inl c2_)]; omega)⟩, rfl⟩
  · refine pw_blk hT 3 (S' := (13, [some (pvR q0), some (pvI n1), some (pvI n2), some (pvI n3), none], [pvI 4, pvI (M.1 q0 0)], M)) rfl ⟨trivial, hq0, trivial, trivial⟩ ?_
    refine pw_icn hT (c := (M.1 q0 0) = 4) rfl rfl (fun c16_ => ?_) (fun c16_ => ?_)
    · refine pw_blk hT 6 (S' := (27, [some (pvR q0), some (pvI n1), some (pvI n2), some (pvI n3), some (pvI 1)], [pvI n3, pvI n2, pvI n1, pvR q0], M)) rfl ⟨trivial, trivial, trivial, trivial, trivial, trivial, trivial⟩ ?_
      refine pw_callGp hT (as := [pvR q0, pvI n1, pvI n2, pvI n3]) (lo1 := [some (pvR q0), some (pvI n1), some (pvI n2), some (pvI n3)]) (d1 := d) (rest := []) rfl rfl rfl rfl rfl (fun _ => hq0) (Nat.zero_le _) rfl rfl rfl (se_X4_wayFrom_x_x_x_x M hok q0 n1 n2 n3 hq0 hn1 hn2 hn3 d) (fun x17_ b19_ => ?_)
      obtain ⟨b22_, d23_⟩ := b19_
      have b24_ : 0 ≤ Int32.toInt (M.1 q0 4) ∧ Int32.toInt (M.1 q0 4) ≤ 9 := pvok_r hok q0 4 ((pvrg_o 4 hq0 (by decide) (by decide)).trans rfl)
      have q25_ : Int32.toInt (1 * (M.1 q0 4)) = 1 * Int32.toInt (M.1 q0 4) := by have u0 : Int32.toInt 1 = 1 := (by decide); have u1 := b24_; have u2 := zmul 1 (M.1 q0 4) (by rw [u0]; omega) (by rw [u0]; omega); rw [u0] at u2; omega
      have b26_ : 0 ≤ Int32.toInt (1 * (M.1 q0 4)) ∧ Int32.toInt (1 * (M.1 q0 4)) ≤ 9 := (by have u1 := b24_; omega)
      obtain ⟨q28_, b27_⟩ : (Int32.toInt (x17_ + (1 * (M.1 q0 4))) = Int32.toInt x17_ + Int32.toInt (1 * (M.1 q0 4))) ∧ (0 ≤ Int32.toInt (x17_ + (1 * (M.1 q0 4))) ∧ Int32.toInt (x17_ + (1 * (M.1 q0 4))) ≤ 310) := zadd_r x17_ (1 * (M.1 q0 4)) 0 310 b22_ b26_ (by decide) (by decide) (by decide) (by decide)
      refine pw_blk hT 5 (S' := (38, [some (pvR q0), some (pvI n1), some (pvI n2), some (pvI n3), some (pvI 1)], [pvI (x17_ + (1 * (M.1 q0 4)))], M)) rfl ⟨trivial, trivial, hq0, trivial, trivial, trivial⟩ ?_
      exact pw_ret hT rfl (r := some (pvI (x17_ + (1 * (M.1 q0 4))))) (M' := M) ⟨rfl, rfl⟩ ⟨⟨_, rfl, (zr_wide b27_ (by decide) (by decide)), (by unfold zTm; rw [if_neg (fun z => z.elim c2_ c16_)]; omega)⟩, rfl⟩
    · have b29_ : 4 ≤ Int32.toInt (M.1 q0 0) ∧ Int32.toInt (M.1 q0 0) ≤ 4 := (by have u0 := b1_; have u1 := (zi_eq _ _).mp c16_; have u2 := (show 4 ≤ Int32.toInt 4 ∧ Int32.toInt 4 ≤ 4 from (by decide)); omega)
      refine pw_blk hT 7 (S' := (27, [some (pvR q0), some (pvI n1), some (pvI n2), some (pvI n3), some (pvI 2)], [pvI n3, pvI n2, pvI n1, pvR q0], M)) rfl ⟨trivial, trivial, trivial, trivial, trivial, trivial, trivial, trivial⟩ ?_
      refine pw_callGp hT (as := [pvR q0, pvI n1, pvI n2, pvI n3]) (lo1 := [some (pvR q0), some (pvI n1), some (pvI n2), some (pvI n3)]) (d1 := d) (rest := []) rfl rfl rfl rfl rfl (fun _ => hq0) (Nat.zero_le _) rfl rfl rfl (se_X4_wayFrom_x_x_x_x M hok q0 n1 n2 n3 hq0 hn1 hn2 hn3 d) (fun x30_ b32_ => ?_)
      obtain ⟨b35_, d36_⟩ := b32_
      have b37_ : 0 ≤ Int32.toInt (M.1 q0 4) ∧ Int32.toInt (M.1 q0 4) ≤ 9 := pvok_r hok q0 4 ((pvrg_o 4 hq0 (by decide) (by decide)).trans rfl)
      have q38_ : Int32.toInt (2 * (M.1 q0 4)) = 2 * Int32.toInt (M.1 q0 4) := by have u0 : Int32.toInt 2 = 2 := (by decide); have u1 := b37_; have u2 := zmul 2 (M.1 q0 4) (by rw [u0]; omega) (by rw [u0]; omega); rw [u0] at u2; omega
      have b39_ : 0 ≤ Int32.toInt (2 * (M.1 q0 4)) ∧ Int32.toInt (2 * (M.1 q0 4)) ≤ 18 := (by have u1 := b37_; omega)
      obtain ⟨q41_, b40_⟩ : (Int32.toInt (x30_ + (2 * (M.1 q0 4))) = Int32.toInt x30_ + Int32.toInt (2 * (M.1 q0 4))) ∧ (0 ≤ Int32.toInt (x30_ + (2 * (M.1 q0 4))) ∧ Int32.toInt (x30_ + (2 * (M.1 q0 4))) ≤ 319) := zadd_r x30_ (2 * (M.1 q0 4)) 0 319 b35_ b39_ (by decide) (by decide) (by decide) (by decide)
      refine pw_blk hT 5 (S' := (38, [some (pvR q0), some (pvI n1), some (pvI n2), some (pvI n3), some (pvI 2)], [pvI (x30_ + (2 * (M.1 q0 4)))], M)) rfl ⟨trivial, trivial, hq0, trivial, trivial, trivial⟩ ?_
      exact pw_ret hT rfl (r := some (pvI (x30_ + (2 * (M.1 q0 4))))) (M' := M) ⟨rfl, rfl⟩ ⟨⟨_, rfl, b40_, (by unfold zTm; rw [if_pos (Or.inr c16_)]; omega)⟩, rfl⟩
def fpL_eX6_clear_106 : List (Nat × Nat × Nat) := [(0, 106, 1)]
def fp_eX6_clear_106 (q k : Nat) : Bool := pvfp fpL_eX6_clear_106 q k
set_option maxHeartbeats 4000000 in
set_option maxRecDepth 10000 in
theorem se_X6_clear_106 (M : pvM) (hok : pvOk M) (d : Nat) : PW 153 d (0, [some (pvR 106)], [], M) (fun r X => (∃ x : Int32, r = some (pvI x) ∧ (0 ≤ Int32.toInt x ∧ Int32.toInt x ≤ 0) ∧ x = 0) ∧ pvOk X ∧ pvFr fp_eX6_clear_106 M X ∧ X.1 106 0 = 0) := by
  have hT : pvdom 153 = pvD_153 := rfl
  refine pw_blkw hT 3 (pc := 5) (lo := [some (pvR 106)]) (st := []) (M := pvu M 106 0 0) rfl ⟨trivial, trivial, rfl, trivial⟩ (fun M1_ e2_ => ?_)
  have o3_ : pvOk M1_ := pvok_u2 e2_ hok rfl (zr_wide (show 0 ≤ Int32.toInt 0 ∧ Int32.toInt 0 ≤ 0 from (by decide)) (by decide) (by decide))
  have f4_ : pvFr fp_eX6_clear_106 M M1_ := pvfr_u e2_ pvfr_0 rfl
  refine pw_blk hT 1 (S' := (6, [some (pvR 106)], [pvI 0], M1_)) rfl ⟨trivial, trivial⟩ ?_
  exact pw_ret hT rfl (r := some (pvI 0)) (M' := M1_) ⟨rfl, rfl⟩ ⟨⟨_, rfl, (show 0 ≤ Int32.toInt 0 ∧ Int32.toInt 0 ≤ 0 from (by decide)), rfl⟩, o3_, f4_, (pvu_s e2_)⟩
def fpL_eX6_clear_107 : List (Nat × Nat × Nat) := [(0, 107, 1)]
def fp_eX6_clear_107 (q k : Nat) : Bool := pvfp fpL_eX6_clear_107 q k
set_option maxHeartbeats 4000000 in
set_option maxRecDepth 10000 in
theorem se_X6_clear_107 (M : pvM) (hok : pvOk M) (d : Nat) : PW 153 d (0, [some (pvR 107)], [], M) (fun r X => (∃ x : Int32, r = some (pvI x) ∧ (0 ≤ Int32.toInt x ∧ Int32.toInt x ≤ 0) ∧ x = 0) ∧ pvOk X ∧ pvFr fp_eX6_clear_107 M X ∧ X.1 107 0 = 0) := by
  have hT : pvdom 153 = pvD_153 := rfl
  refine pw_blkw hT 3 (pc := 5) (lo := [some (pvR 107)]) (st := []) (M := pvu M 107 0 0) rfl ⟨trivial, trivial, rfl, trivial⟩ (fun M1_ e2_ => ?_)
  have o3_ : pvOk M1_ := pvok_u2 e2_ hok rfl (zr_wide (show 0 ≤ Int32.toInt 0 ∧ Int32.toInt 0 ≤ 0 from (by decide)) (by decide) (by decide))
  have f4_ : pvFr fp_eX6_clear_107 M M1_ := pvfr_u e2_ pvfr_0 rfl
  refine pw_blk hT 1 (S' := (6, [some (pvR 107)], [pvI 0], M1_)) rfl ⟨trivial, trivial⟩ ?_
  exact pw_ret hT rfl (r := some (pvI 0)) (M' := M1_) ⟨rfl, rfl⟩ ⟨⟨_, rfl, (show 0 ≤ Int32.toInt 0 ∧ Int32.toInt 0 ≤ 0 from (by decide)), rfl⟩, o3_, f4_, (pvu_s e2_)⟩
def fpL_eX6_append_107_x_x : List (Nat × Nat × Nat) := [(0, 107, 1), (0, 115, 0), (0, 123, 0)]
def fp_eX6_append_107_x_x (q k : Nat) : Bool := pvfp fpL_eX6_append_107_x_x q k
set_option maxHeartbeats 4000000 in
set_option maxRecDepth 10000 in
theorem se_X6_append_107_x_x (M : pvM) (hok : pvOk M) (n1 : Int32) (n2 : Int32) (hn1 : 0 ≤ Int32.toInt n1 ∧ Int32.toInt n1 ≤ 6) (hn2 : 0 ≤ Int32.toInt n2 ∧ Int32.toInt n2 ≤ 9999) (d : Nat) : PW 151 d (0, [some (pvR 107), some (pvI n1), some (pvI n2)], [], M) (fun r X => (∃ x : Int32, r = some (pvI x) ∧ (1 ≤ Int32.toInt x ∧ Int32.toInt x ≤ 7) ∧ x = (if (M.1 107 0) < (Int32.ofNat 7) then ((M.1 107 0) + 1) else (M.1 107 0))) ∧ pvOk X ∧ pvFr fp_eX6_append_107_x_x M X ∧ zAp 107 115 123 7 n1 n2 M X ∧ X.1 107 0 = (if (M.1 107 0) < (Int32.ofNat 7) then ((M.1 107 0) + 1) else (M.1 107 0))) := by
  have hT : pvdom 151 = pvD_151 := rfl
  refine pw_blk hT 1 (S' := (1, [some (pvR 107), some (pvI n1), some (pvI n2)], [pvR 107], M)) rfl ⟨trivial, trivial⟩ ?_
  refine pw_callT hT (as := [pvR 107]) (lo1 := [some (pvR 107)]) (d1 := d) (rest := []) rfl rfl rfl rfl rfl (fun _ => rfl) (Nat.zero_le _) rfl rfl rfl (sf_X6_isFull_107 M hok d) ?_
  have b6_ : 0 ≤ Int32.toInt (M.1 107 0) ∧ Int32.toInt (M.1 107 0) ≤ 7 := pvok_r hok 107 0 rfl
  by_cases c7_ : (M.1 107 0) < (Int32.ofNat 7)
  · refine pw_eqI (if_pos c7_) ?_
    have b8_ : 0 ≤ Int32.toInt (M.1 107 0) ∧ Int32.toInt (M.1 107 0) ≤ 6 := zr_lt_l 6 c7_ b6_ (show 7 ≤ Int32.toInt (Int32.ofNat 7) ∧ Int32.toInt (Int32.ofNat 7) ≤ 7 from (by decide)) (by decide)
    show PW 151 d (4, [some (pvR 107), some (pvI n1), some (pvI n2)], [pvI 0], M) _
    refine pw_if hT (c := 0 = 0) rfl rfl (fun c9_ => ?_) (fun c9_ => absurd (by decide) c9_)
    refine pw_blkw hT 6 (pc := 22) (lo := [some (pvR 107), some (pvI n1), some (pvI n2)]) (st := []) (M := pvu M 115 (Int32.toNatClampNeg (M.1 107 0)) n1) rfl ⟨trivial, rfl, trivial, rfl, trivial, ⟨rfl, (zr_in (n := 7) b8_ (by decide) (by decide))⟩, trivial⟩ (fun M10_ e11_ => ?_)
    have o12_ : pvOk M10_ := pvok_u2 e11_ hok rfl hn1
    have f13_ : pvFr fp_eX6_append_107_x_x M M10_ := pvfr_u e11_ pvfr_0 rfl
    have e14_ : (M10_.1 107 0) = (M.1 107 0) := (pvu_n e11_ 107 0 (Or.inl (by decide)))
    have b15_ : 0 ≤ Int32.toInt (M10_.1 107 0) ∧ Int32.toInt (M10_.1 107 0) ≤ 6 := (by rw [e14_]; exact b8_)
    refine pw_blkw hT 6 (pc := 32) (lo := [some (pvR 107), some (pvI n1), some (pvI n2)]) (st := []) (M := pvu M10_ 123 (Int32.toNatClampNeg (M10_.1 107 0)) n2) rfl ⟨trivial, rfl, trivial, rfl, trivial, ⟨rfl, (zr_in (n := 7) b15_ (by decide) (by decide))⟩, trivial⟩ (fun M16_ e17_ => ?_)
    have o18_ : pvOk M16_ := pvok_u2 e17_ o12_ rfl hn2
    have f19_ : pvFr fp_eX6_append_107_x_x M M16_ := pvfr_u e17_ f13_ rfl
    have e20_ : (M16_.1 107 0) = (M10_.1 107 0) := (pvu_n e17_ 107 0 (Or.inl (by decide)))
    have b21_ : 0 ≤ Int32.toInt (M16_.1 107 0) ∧ Int32.toInt (M16_.1 107 0) ≤ 6 := (by rw [e20_]; exact b15_)
    obtain ⟨q23_, b22_⟩ : (Int32.toInt ((M16_.1 107 0) + 1) = Int32.toInt (M16_.1 107 0) + 1) ∧ (1 ≤ Int32.toInt ((M16_.1 107 0) + 1) ∧ Int32.toInt ((M16_.1 107 0) + 1) ≤ 7) := zadd_k (M16_.1 107 0) 1 1 1 7 b21_ (by decide) (by decide) (by decide) (by decide) (by decide)
    refine pw_blkw hT 6 (pc := 42) (lo := [some (pvR 107), some (pvI n1), some (pvI n2)]) (st := []) (M := pvu M16_ 107 0 ((M16_.1 107 0) + 1)) rfl ⟨trivial, trivial, rfl, trivial, trivial, rfl, trivial⟩ (fun M24_ e25_ => ?_)
    have o26_ : pvOk M24_ := pvok_u2 e25_ o18_ rfl (zr_wide b22_ (by decide) (by decide))
    have f27_ : pvFr fp_eX6_append_107_x_x M M24_ := pvfr_u e25_ f19_ rfl
    have e28_ : (M24_.1 107 0) = ((M16_.1 107 0) + 1) := (pvu_s e25_)
    have b29_ : 1 ≤ Int32.toInt (M24_.1 107 0) ∧ Int32.toInt (M24_.1 107 0) ≤ 7 := (by rw [e28_]; exact b22_)
    refine pw_blk hT 2 (S' := (46, [some (pvR 107), some (pvI n1), some (pvI n2)], [pvI (M24_.1 107 0)], M24_)) rfl ⟨trivial, rfl, trivial⟩ ?_
    exact pw_ret hT rfl (r := some (pvI (M24_.1 107 0))) (M' := M24_) ⟨rfl, rfl⟩ ⟨⟨_, rfl, b29_, (by rw [if_pos c7_]; first | done | exact (show (M24_.1 107 0) = ((M.1 107 0) + 1) from by rw [((pvu_s e25_).trans (show ((M16_.1 107 0) + 1) = ((M.1 107 0) + 1) from by rw [((pvu_n e17_ 107 0 (Or.inl (by decide))).trans (pvu_n e11_ 107 0 (Or.inl (by decide))))]))]) | (rw [if_pos c7_]; exact (show (M24_.1 107 0) = ((M.1 107 0) + 1) from by rw [((pvu_s e25_).trans (show ((M16_.1 107 0) + 1) = ((M.1 107 0) + 1) from by rw [((pvu_n e17_ 107 0 (Or.inl (by decide))).trans (pvu_n e11_ 107 0 (Or.inl (by decide))))]))])))⟩, o26_, f27_, (zAp_y (by decide) (by decide) (by decide) (by have u := b8_; omega) e11_ e17_ e25_), (by rw [if_pos c7_]; first | done | exact ((pvu_s e25_).trans (show ((M16_.1 107 0) + 1) = ((M.1 107 0) + 1) from by rw [((pvu_n e17_ 107 0 (Or.inl (by decide))).trans (pvu_n e11_ 107 0 (Or.inl (by decide))))])) | (rw [if_pos c7_]; done) | (rw [if_pos c7_]; exact ((pvu_s e25_).trans (show ((M16_.1 107 0) + 1) = ((M.1 107 0) + 1) from by rw [((pvu_n e17_ 107 0 (Or.inl (by decide))).trans (pvu_n e11_ 107 0 (Or.inl (by decide))))]))))⟩
  · refine pw_eqI (if_neg c7_) ?_
    have b30_ : 7 ≤ Int32.toInt (M.1 107 0) ∧ Int32.toInt (M.1 107 0) ≤ 7 := zr_nlt_l 7 c7_ b6_ (show 7 ≤ Int32.toInt (Int32.ofNat 7) ∧ Int32.toInt (Int32.ofNat 7) ≤ 7 from (by decide)) (by decide)
    show PW 151 d (4, [some (pvR 107), some (pvI n1), some (pvI n2)], [pvI 1], M) _
    refine pw_if hT (c := 1 = 0) rfl rfl (fun c31_ => absurd c31_ (by decide)) (fun c31_ => ?_)
    refine pw_blk hT 2 (S' := (11, [some (pvR 107), some (pvI n1), some (pvI n2)], [pvI (M.1 107 0)], M)) rfl ⟨trivial, rfl, trivial⟩ ?_
    exact pw_ret hT rfl (r := some (pvI (M.1 107 0))) (M' := M) ⟨rfl, rfl⟩ ⟨⟨_, rfl, (zr_wide b30_ (by decide) (by decide)), (by rw [if_neg c7_]; first | done | (rw [if_neg c7_]; done))⟩, hok, pvfr_0, (zAp_n (by have u := b30_; omega)), (by rw [if_neg c7_]; first | done | exact rfl | (rw [if_neg c7_]; done) | (rw [if_neg c7_]; exact rfl))⟩
def fpL_eX6_becomeAs_107_106 : List (Nat × Nat × Nat) := [(0, 107, 1), (0, 115, 0), (0, 123, 0)]
def fp_eX6_becomeAs_107_106 (q k : Nat) : Bool := pvfp fpL_eX6_becomeAs_107_106 q k
theorem fp_eX6_becomeAs_107_106_fp_eX6_append_107_x_x (a b : Nat) (h : fp_eX6_append_107_x_x a b = true) : fp_eX6_becomeAs_107_106 a b = true := pvfp_sub (l1 := fpL_eX6_append_107_x_x) (l2 := fpL_eX6_becomeAs_107_106) (by decide) a b h
theorem fp_eX6_becomeAs_107_106_fp_eX6_clear_107 (a b : Nat) (h : fp_eX6_clear_107 a b = true) : fp_eX6_becomeAs_107_106 a b = true := pvfp_sub (l1 := fpL_eX6_clear_107) (l2 := fpL_eX6_becomeAs_107_106) (by decide) a b h
set_option maxHeartbeats 4000000 in
set_option maxRecDepth 10000 in
theorem se_X6_becomeAs_107_106 (M : pvM) (hok : pvOk M) (d : Nat) : PW 152 d (0, [some (pvR 107), some (pvR 106), none], [], M) (fun r X => r = none ∧ pvOk X ∧ pvFr fp_eX6_becomeAs_107_106 M X ∧ X.1 107 0 = (M.1 106 0) ∧ zC1 115 114 (Int32.toNatClampNeg (M.1 106 0)) M X ∧ zC1 123 122 (Int32.toNatClampNeg (M.1 106 0)) M X) := by
  have hT : pvdom 152 = pvD_152 := rfl
  refine pw_blk hT 1 (S' := (1, [some (pvR 107), some (pvR 106), none], [pvR 107], M)) rfl ⟨trivial, trivial⟩ ?_
  refine pw_callGd hT (as := [pvR 107]) (lo1 := [some (pvR 107)]) (d1 := d) (rest := []) rfl rfl rfl rfl rfl (fun _ => rfl) (Nat.zero_le _) rfl rfl rfl (se_X6_clear_107 M hok d) (fun x2_ M3_ b4_ o5_ g6_ d1_ => ?_)
  have f7_ : pvFr fp_eX6_becomeAs_107_106 M M3_ := pvfr_t g6_ pvfr_0 fp_eX6_becomeAs_107_106_fp_eX6_clear_107
  obtain ⟨b8_, d9_⟩ := b4_
  subst d9_
  refine pw_blk hT 3 (S' := (7, [some (pvR 107), some (pvR 106), some (pvI 0)], [], M3_)) rfl ⟨trivial, trivial, trivial, trivial⟩ ?_
  have hlz90_ : ∀ (nz90_ : Nat) (i2z90_ : Int32) (Mz90_ : pvM), (pvOk Mz90_) → (pvFr fp_eX6_becomeAs_107_106 M Mz90_) → (0 ≤ Int32.toInt i2z90_ ∧ Int32.toInt i2z90_ ≤ 7) → (Mz90_.1 107 0 = i2z90_) → (Int32.toInt i2z90_ ≤ Int32.toInt (M.1 106 0)) → (zC1 115 114 (Int32.toNatClampNeg i2z90_) M Mz90_) → (zC1 123 122 (Int32.toNatClampNeg i2z90_) M Mz90_) → (zhide ((8 - Int32.toInt i2z90_).toNat < nz90_)) → PW 152 d (7, [some (pvR 107), some (pvR 106), some (pvI i2z90_)], [], Mz90_) (fun r X => r = none ∧ pvOk X ∧ pvFr fp_eX6_becomeAs_107_106 M X ∧ X.1 107 0 = (M.1 106 0) ∧ zC1 115 114 (Int32.toNatClampNeg (M.1 106 0)) M X ∧ zC1 123 122 (Int32.toNatClampNeg (M.1 106 0)) M X) := by
    intro nz90_
    induction nz90_ with
    | zero => intro i2z90_ Mz90_ oz90_ fz90_ h2z90_ j0z90_ j1z90_ j2z90_ j3z90_ hmz90_; exact absurd (zshow hmz90_) (Nat.not_lt_zero _)
    | succ nz90_ ihz90_ =>
      intro i2z90_ Mz90_ oz90_ fz90_ h2z90_ j0z90_ j1z90_ j2z90_ j3z90_ hmz90_
      have b91_ : 0 ≤ Int32.toInt (Mz90_.1 106 0) ∧ Int32.toInt (Mz90_.1 106 0) ≤ 7 := pvok_r oz90_ 106 0 rfl
      refine pw_blk hT 3 (S' := (12, [some (pvR 107), some (pvR 106), some (pvI i2z90_)], [pvI (Mz90_.1 106 0), pvI i2z90_], Mz90_)) rfl ⟨trivial, trivial, rfl, trivial⟩ ?_
      refine pw_ic hT (c := (Mz90_.1 106 0) ≤ i2z90_) rfl rfl (fun c92_ => ?_) (fun c92_ => ?_)
      · have d93_ : Int32.toInt (Mz90_.1 106 0) ≤ Int32.toInt i2z90_ := (zi_le _ _).mp c92_
        exact pw_ret hT rfl (r := none) (M' := Mz90_) ⟨rfl, rfl⟩ ⟨rfl, oz90_, fz90_, (Int32.toInt_inj.mp (by have z3 : Mz90_.1 106 0 = M.1 106 0 := fz90_ 106 0 rfl; have z4 := congrArg Int32.toInt z3; have z5 := congrArg Int32.toInt j0z90_; omega)), (zC1_n (show Int32.toNatClampNeg (M.1 106 0) = Int32.toNatClampNeg i2z90_ from by have z3 : Mz90_.1 106 0 = M.1 106 0 := fz90_ 106 0 rfl; have z4 := congrArg Int32.toInt z3; show (M.1 106 0).toInt.toNat = i2z90_.toInt.toNat; omega) j2z90_), (zC1_n (show Int32.toNatClampNeg (M.1 106 0) = Int32.toNatClampNeg i2z90_ from by have z3 : Mz90_.1 106 0 = M.1 106 0 := fz90_ 106 0 rfl; have z4 := congrArg Int32.toInt z3; show (M.1 106 0).toInt.toNat = i2z90_.toInt.toNat; omega) j3z90_)⟩
      · have b94_ : 1 ≤ Int32.toInt (Mz90_.1 106 0) ∧ Int32.toInt (Mz90_.1 106 0) ≤ 7 := zr_nle_l 1 c92_ b91_ h2z90_ (by decide)
        have b95_ : 0 ≤ Int32.toInt i2z90_ ∧ Int32.toInt i2z90_ ≤ 6 := zr_nle_r 6 c92_ h2z90_ b94_ (by decide)
        have d96_ : Int32.toInt (Mz90_.1 106 0) > Int32.toInt i2z90_ := Int.not_le.mp ((not_congr (zi_le _ _)).mp c92_)
        have b97_ : 0 ≤ Int32.toInt (Mz90_.1 114 (Int32.toNatClampNeg i2z90_)) ∧ Int32.toInt (Mz90_.1 114 (Int32.toNatClampNeg i2z90_)) ≤ 6 := pvok_r oz90_ 114 (Int32.toNatClampNeg i2z90_) rfl
        have b98_ : 0 ≤ Int32.toInt (Mz90_.1 122 (Int32.toNatClampNeg i2z90_)) ∧ Int32.toInt (Mz90_.1 122 (Int32.toNatClampNeg i2z90_)) ≤ 9999 := pvok_r oz90_ 122 (Int32.toNatClampNeg i2z90_) rfl
        refine pw_blk hT 9 (S' := (28, [some (pvR 107), some (pvR 106), some (pvI i2z90_)], [pvI (Mz90_.1 122 (Int32.toNatClampNeg i2z90_)), pvI (Mz90_.1 114 (Int32.toNatClampNeg i2z90_)), pvR 107], Mz90_)) rfl ⟨trivial, trivial, rfl, trivial, ⟨rfl, (zr_in (n := 7) b95_ (by decide) (by decide))⟩, trivial, rfl, trivial, ⟨rfl, (zr_in (n := 7) b95_ (by decide) (by decide))⟩, trivial⟩ ?_
        refine pw_callGd hT (as := [pvR 107, pvI (Mz90_.1 114 (Int32.toNatClampNeg i2z90_)), pvI (Mz90_.1 122 (Int32.toNatClampNeg i2z90_))]) (lo1 := [some (pvR 107), some (pvI (Mz90_.1 114 (Int32.toNatClampNeg i2z90_))), some (pvI (Mz90_.1 122 (Int32.toNatClampNeg i2z90_)))]) (d1 := d) (rest := []) rfl rfl rfl rfl rfl (fun _ => rfl) (Nat.zero_le _) rfl rfl rfl (se_X6_append_107_x_x Mz90_ oz90_ (Mz90_.1 114 (Int32.toNatClampNeg i2z90_)) (Mz90_.1 122 (Int32.toNatClampNeg i2z90_)) b97_ b98_ d) (fun x100_ M101_ b102_ o103_ g104_ d99_ => ?_)
        have f105_ : pvFr fp_eX6_becomeAs_107_106 M M101_ := pvfr_t g104_ fz90_ fp_eX6_becomeAs_107_106_fp_eX6_append_107_x_x
        obtain ⟨b106_, d107_⟩ := b102_
        subst d107_
        obtain ⟨q109_, b108_⟩ : (Int32.toInt (i2z90_ + 1) = Int32.toInt i2z90_ + 1) ∧ (1 ≤ Int32.toInt (i2z90_ + 1) ∧ Int32.toInt (i2z90_ + 1) ≤ 7) := zadd_k i2z90_ 1 1 1 7 b95_ (by decide) (by decide) (by decide) (by decide) (by decide)
        refine pw_blk hT 3 (S' := (7, [some (pvR 107), some (pvR 106), some (pvI (i2z90_ + 1))], [], M101_)) rfl ⟨trivial, trivial, trivial, trivial⟩ ?_
        have j110_ : M101_.1 107 0 = (i2z90_ + 1) := (by have z1 : Int32.toInt (Int32.ofNat 7) = 7 := (by decide); have z2 := pvok_r oz90_ 106 0 rfl; have z3 : Mz90_.1 106 0 = M.1 106 0 := fz90_ 106 0 rfl; have z4 := congrArg Int32.toInt z3; rw [d99_.2, j0z90_, if_pos ((zi_lt _ _).mpr (by omega))])
        have j111_ : Int32.toInt (i2z90_ + 1) ≤ Int32.toInt (M.1 106 0) := (by have z3 : Mz90_.1 106 0 = M.1 106 0 := fz90_ 106 0 rfl; have z4 := congrArg Int32.toInt z3; omega)
        have j112_ : zC1 115 114 (Int32.toNatClampNeg (i2z90_ + 1)) M M101_ := (zC1_n (znp1 b95_ (by decide) (by decide)) (zC1_ap j2z90_ d99_.1 j0z90_ (by have u := b95_; omega) (fz90_ 114 (Int32.toNatClampNeg i2z90_) rfl)))
        have j113_ : zC1 123 122 (Int32.toNatClampNeg (i2z90_ + 1)) M M101_ := (zC1_n (znp1 b95_ (by decide) (by decide)) (zC1_bp j3z90_ d99_.1 j0z90_ (by have u := b95_; omega) (fz90_ 122 (Int32.toNatClampNeg i2z90_) rfl)))
        exact ihz90_ (i2z90_ + 1) M101_ o103_ f105_ (zr_wide b108_ (by decide) (by decide)) j110_ j111_ j112_ j113_ (zhid (pvms_up (zshow hmz90_) h2z90_ q109_ (by decide) (by decide)))
  have u114_ : Int32.toInt 0 = 0 := by decide
  have j115_ : M3_.1 107 0 = 0 := d1_
  have j116_ : Int32.toInt 0 ≤ Int32.toInt (M.1 106 0) := (by have z := pvok_r hok 106 0 rfl; have u : Int32.toInt 0 = 0 := (by decide); omega)
  have j117_ : zC1 115 114 (Int32.toNatClampNeg 0) M M3_ := (zC1_0 115 114 M M3_)
  have j118_ : zC1 123 122 (Int32.toNatClampNeg 0) M M3_ := (zC1_0 123 122 M M3_)
  exact hlz90_ _ 0 M3_ o5_ f7_ (zr_wide (show 0 ≤ Int32.toInt 0 ∧ Int32.toInt 0 ≤ 0 from (by decide)) (by decide) (by decide)) j115_ j116_ j117_ j118_ (zhid (Nat.lt_succ_self _))
def fpL_eX6_append_106_x_x : List (Nat × Nat × Nat) := [(0, 106, 1), (0, 114, 0), (0, 122, 0)]
def fp_eX6_append_106_x_x (q k : Nat) : Bool := pvfp fpL_eX6_append_106_x_x q k
set_option maxHeartbeats 4000000 in
set_option maxRecDepth 10000 in
theorem se_X6_append_106_x_x (M : pvM) (hok : pvOk M) (n1 : Int32) (n2 : Int32) (hn1 : 0 ≤ Int32.toInt n1 ∧ Int32.toInt n1 ≤ 6) (hn2 : 0 ≤ Int32.toInt n2 ∧ Int32.toInt n2 ≤ 9999) (d : Nat) : PW 151 d (0, [some (pvR 106), some (pvI n1), some (pvI n2)], [], M) (fun r X => (∃ x : Int32, r = some (pvI x) ∧ (1 ≤ Int32.toInt x ∧ Int32.toInt x ≤ 7) ∧ x = (if (M.1 106 0) < (Int32.ofNat 7) then ((M.1 106 0) + 1) else (M.1 106 0))) ∧ pvOk X ∧ pvFr fp_eX6_append_106_x_x M X ∧ zAp 106 114 122 7 n1 n2 M X ∧ X.1 106 0 = (if (M.1 106 0) < (Int32.ofNat 7) then ((M.1 106 0) + 1) else (M.1 106 0))) := by
  have hT : pvdom 151 = pvD_151 := rfl
  refine pw_blk hT 1 (S' := (1, [some (pvR 106), some (pvI n1), some (pvI n2)], [pvR 106], M)) rfl ⟨trivial, trivial⟩ ?_
  refine pw_callT hT (as := [pvR 106]) (lo1 := [some (pvR 106)]) (d1 := d) (rest := []) rfl rfl rfl rfl rfl (fun _ => rfl) (Nat.zero_le _) rfl rfl rfl (sf_X6_isFull_106 M hok d) ?_
  have b6_ : 0 ≤ Int32.toInt (M.1 106 0) ∧ Int32.toInt (M.1 106 0) ≤ 7 := pvok_r hok 106 0 rfl
  by_cases c7_ : (M.1 106 0) < (Int32.ofNat 7)
  · refine pw_eqI (if_pos c7_) ?_
    have b8_ : 0 ≤ Int32.toInt (M.1 106 0) ∧ Int32.toInt (M.1 106 0) ≤ 6 := zr_lt_l 6 c7_ b6_ (show 7 ≤ Int32.toInt (Int32.ofNat 7) ∧ Int32.toInt (Int32.ofNat 7) ≤ 7 from (by decide)) (by decide)
    show PW 151 d (4, [some (pvR 106), some (pvI n1), some (pvI n2)], [pvI 0], M) _
    refine pw_if hT (c := 0 = 0) rfl rfl (fun c9_ => ?_) (fun c9_ => absurd (by decide) c9_)
    refine pw_blkw hT 6 (pc := 22) (lo := [some (pvR 106), some (pvI n1), some (pvI n2)]) (st := []) (M := pvu M 114 (Int32.toNatClampNeg (M.1 106 0)) n1) rfl ⟨trivial, rfl, trivial, rfl, trivial, ⟨rfl, (zr_in (n := 7) b8_ (by decide) (by decide))⟩, trivial⟩ (fun M10_ e11_ => ?_)
    have o12_ : pvOk M10_ := pvok_u2 e11_ hok rfl hn1
    have f13_ : pvFr fp_eX6_append_106_x_x M M10_ := pvfr_u e11_ pvfr_0 rfl
    have e14_ : (M10_.1 106 0) = (M.1 106 0) := (pvu_n e11_ 106 0 (Or.inl (by decide)))
    have b15_ : 0 ≤ Int32.toInt (M10_.1 106 0) ∧ Int32.toInt (M10_.1 106 0) ≤ 6 := (by rw [e14_]; exact b8_)
    refine pw_blkw hT 6 (pc := 32) (lo := [some (pvR 106), some (pvI n1), some (pvI n2)]) (st := []) (M := pvu M10_ 122 (Int32.toNatClampNeg (M10_.1 106 0)) n2) rfl ⟨trivial, rfl, trivial, rfl, trivial, ⟨rfl, (zr_in (n := 7) b15_ (by decide) (by decide))⟩, trivial⟩ (fun M16_ e17_ => ?_)
    have o18_ : pvOk M16_ := pvok_u2 e17_ o12_ rfl hn2
    have f19_ : pvFr fp_eX6_append_106_x_x M M16_ := pvfr_u e17_ f13_ rfl
    have e20_ : (M16_.1 106 0) = (M10_.1 106 0) := (pvu_n e17_ 106 0 (Or.inl (by decide)))
    have b21_ : 0 ≤ Int32.toInt (M16_.1 106 0) ∧ Int32.toInt (M16_.1 106 0) ≤ 6 := (by rw [e20_]; exact b15_)
    obtain ⟨q23_, b22_⟩ : (Int32.toInt ((M16_.1 106 0) + 1) = Int32.toInt (M16_.1 106 0) + 1) ∧ (1 ≤ Int32.toInt ((M16_.1 106 0) + 1) ∧ Int32.toInt ((M16_.1 106 0) + 1) ≤ 7) := zadd_k (M16_.1 106 0) 1 1 1 7 b21_ (by decide) (by decide) (by decide) (by decide) (by decide)
    refine pw_blkw hT 6 (pc := 42) (lo := [some (pvR 106), some (pvI n1), some (pvI n2)]) (st := []) (M := pvu M16_ 106 0 ((M16_.1 106 0) + 1)) rfl ⟨trivial, trivial, rfl, trivial, trivial, rfl, trivial⟩ (fun M24_ e25_ => ?_)
    have o26_ : pvOk M24_ := pvok_u2 e25_ o18_ rfl (zr_wide b22_ (by decide) (by decide))
    have f27_ : pvFr fp_eX6_append_106_x_x M M24_ := pvfr_u e25_ f19_ rfl
    have e28_ : (M24_.1 106 0) = ((M16_.1 106 0) + 1) := (pvu_s e25_)
    have b29_ : 1 ≤ Int32.toInt (M24_.1 106 0) ∧ Int32.toInt (M24_.1 106 0) ≤ 7 := (by rw [e28_]; exact b22_)
    refine pw_blk hT 2 (S' := (46, [some (pvR 106), some (pvI n1), some (pvI n2)], [pvI (M24_.1 106 0)], M24_)) rfl ⟨trivial, rfl, trivial⟩ ?_
    exact pw_ret hT rfl (r := some (pvI (M24_.1 106 0))) (M' := M24_) ⟨rfl, rfl⟩ ⟨⟨_, rfl, b29_, (by rw [if_pos c7_]; first | done | exact (show (M24_.1 106 0) = ((M.1 106 0) + 1) from by rw [((pvu_s e25_).trans (show ((M16_.1 106 0) + 1) = ((M.1 106 0) + 1) from by rw [((pvu_n e17_ 106 0 (Or.inl (by decide))).trans (pvu_n e11_ 106 0 (Or.inl (by decide))))]))]) | (rw [if_pos c7_]; exact (show (M24_.1 106 0) = ((M.1 106 0) + 1) from by rw [((pvu_s e25_).trans (show ((M16_.1 106 0) + 1) = ((M.1 106 0) + 1) from by rw [((pvu_n e17_ 106 0 (Or.inl (by decide))).trans (pvu_n e11_ 106 0 (Or.inl (by decide))))]))])))⟩, o26_, f27_, (zAp_y (by decide) (by decide) (by decide) (by have u := b8_; omega) e11_ e17_ e25_), (by rw [if_pos c7_]; first | done | exact ((pvu_s e25_).trans (show ((M16_.1 106 0) + 1) = ((M.1 106 0) + 1) from by rw [((pvu_n e17_ 106 0 (Or.inl (by decide))).trans (pvu_n e11_ 106 0 (Or.inl (by decide))))])) | (rw [if_pos c7_]; done) | (rw [if_pos c7_]; exact ((pvu_s e25_).trans (show ((M16_.1 106 0) + 1) = ((M.1 106 0) + 1) from by rw [((pvu_n e17_ 106 0 (Or.inl (by decide))).trans (pvu_n e11_ 106 0 (Or.inl (by decide))))]))))⟩
  · refine pw_eqI (if_neg c7_) ?_
    have b30_ : 7 ≤ Int32.toInt (M.1 106 0) ∧ Int32.toInt (M.1 106 0) ≤ 7 := zr_nlt_l 7 c7_ b6_ (show 7 ≤ Int32.toInt (Int32.ofNat 7) ∧ Int32.toInt (Int32.ofNat 7) ≤ 7 from (by decide)) (by decide)
    show PW 151 d (4, [some (pvR 106), some (pvI n1), some (pvI n2)], [pvI 1], M) _
    refine pw_if hT (c := 1 = 0) rfl rfl (fun c31_ => absurd c31_ (by decide)) (fun c31_ => ?_)
    refine pw_blk hT 2 (S' := (11, [some (pvR 106), some (pvI n1), some (pvI n2)], [pvI (M.1 106 0)], M)) rfl ⟨trivial, rfl, trivial⟩ ?_
    exact pw_ret hT rfl (r := some (pvI (M.1 106 0))) (M' := M) ⟨rfl, rfl⟩ ⟨⟨_, rfl, (zr_wide b30_ (by decide) (by decide)), (by rw [if_neg c7_]; first | done | (rw [if_neg c7_]; done))⟩, hok, pvfr_0, (zAp_n (by have u := b30_; omega)), (by rw [if_neg c7_]; first | done | exact rfl | (rw [if_neg c7_]; done) | (rw [if_neg c7_]; exact rfl))⟩
def fpL_eX6_append_104_x_x : List (Nat × Nat × Nat) := [(0, 104, 1), (0, 112, 0), (0, 120, 0)]
def fp_eX6_append_104_x_x (q k : Nat) : Bool := pvfp fpL_eX6_append_104_x_x q k
set_option maxHeartbeats 4000000 in
set_option maxRecDepth 10000 in
theorem se_X6_append_104_x_x (M : pvM) (hok : pvOk M) (n1 : Int32) (n2 : Int32) (hn1 : 0 ≤ Int32.toInt n1 ∧ Int32.toInt n1 ≤ 6) (hn2 : 0 ≤ Int32.toInt n2 ∧ Int32.toInt n2 ≤ 9999) (d : Nat) : PW 151 d (0, [some (pvR 104), some (pvI n1), some (pvI n2)], [], M) (fun r X => (∃ x : Int32, r = some (pvI x) ∧ (1 ≤ Int32.toInt x ∧ Int32.toInt x ≤ 8) ∧ x = (if (M.1 104 0) < (Int32.ofNat 8) then ((M.1 104 0) + 1) else (M.1 104 0))) ∧ pvOk X ∧ pvFr fp_eX6_append_104_x_x M X ∧ zAp 104 112 120 8 n1 n2 M X ∧ X.1 104 0 = (if (M.1 104 0) < (Int32.ofNat 8) then ((M.1 104 0) + 1) else (M.1 104 0))) := by
  have hT : pvdom 151 = pvD_151 := rfl
  refine pw_blk hT 1 (S' := (1, [some (pvR 104), some (pvI n1), some (pvI n2)], [pvR 104], M)) rfl ⟨trivial, trivial⟩ ?_
  refine pw_callT hT (as := [pvR 104]) (lo1 := [some (pvR 104)]) (d1 := d) (rest := []) rfl rfl rfl rfl rfl (fun _ => rfl) (Nat.zero_le _) rfl rfl rfl (sf_X6_isFull_104 M hok d) ?_
  have b6_ : 0 ≤ Int32.toInt (M.1 104 0) ∧ Int32.toInt (M.1 104 0) ≤ 8 := pvok_r hok 104 0 rfl
  by_cases c7_ : (M.1 104 0) < (Int32.ofNat 8)
  · refine pw_eqI (if_pos c7_) ?_
    have b8_ : 0 ≤ Int32.toInt (M.1 104 0) ∧ Int32.toInt (M.1 104 0) ≤ 7 := zr_lt_l 7 c7_ b6_ (show 8 ≤ Int32.toInt (Int32.ofNat 8) ∧ Int32.toInt (Int32.ofNat 8) ≤ 8 from (by decide)) (by decide)
    show PW 151 d (4, [some (pvR 104), some (pvI n1), some (pvI n2)], [pvI 0], M) _
    refine pw_if hT (c := 0 = 0) rfl rfl (fun c9_ => ?_) (fun c9_ => absurd (by decide) c9_)
    refine pw_blkw hT 6 (pc := 22) (lo := [some (pvR 104), some (pvI n1), some (pvI n2)]) (st := []) (M := pvu M 112 (Int32.toNatClampNeg (M.1 104 0)) n1) rfl ⟨trivial, rfl, trivial, rfl, trivial, ⟨rfl, (zr_in (n := 8) b8_ (by decide) (by decide))⟩, trivial⟩ (fun M10_ e11_ => ?_)
    have o12_ : pvOk M10_ := pvok_u2 e11_ hok rfl hn1
    have f13_ : pvFr fp_eX6_append_104_x_x M M10_ := pvfr_u e11_ pvfr_0 rfl
    have e14_ : (M10_.1 104 0) = (M.1 104 0) := (pvu_n e11_ 104 0 (Or.inl (by decide)))
    have b15_ : 0 ≤ Int32.toInt (M10_.1 104 0) ∧ Int32.toInt (M10_.1 104 0) ≤ 7 := (by rw [e14_]; exact b8_)
    refine pw_blkw hT 6 (pc := 32) (lo := [some (pvR 104), some (pvI n1), some (pvI n2)]) (st := []) (M := pvu M10_ 120 (Int32.toNatClampNeg (M10_.1 104 0)) n2) rfl ⟨trivial, rfl, trivial, rfl, trivial, ⟨rfl, (zr_in (n := 8) b15_ (by decide) (by decide))⟩, trivial⟩ (fun M16_ e17_ => ?_)
    have o18_ : pvOk M16_ := pvok_u2 e17_ o12_ rfl hn2
    have f19_ : pvFr fp_eX6_append_104_x_x M M16_ := pvfr_u e17_ f13_ rfl
    have e20_ : (M16_.1 104 0) = (M10_.1 104 0) := (pvu_n e17_ 104 0 (Or.inl (by decide)))
    have b21_ : 0 ≤ Int32.toInt (M16_.1 104 0) ∧ Int32.toInt (M16_.1 104 0) ≤ 7 := (by rw [e20_]; exact b15_)
    obtain ⟨q23_, b22_⟩ : (Int32.toInt ((M16_.1 104 0) + 1) = Int32.toInt (M16_.1 104 0) + 1) ∧ (1 ≤ Int32.toInt ((M16_.1 104 0) + 1) ∧ Int32.toInt ((M16_.1 104 0) + 1) ≤ 8) := zadd_k (M16_.1 104 0) 1 1 1 8 b21_ (by decide) (by decide) (by decide) (by decide) (by decide)
    refine pw_blkw hT 6 (pc := 42) (lo := [some (pvR 104), some (pvI n1), some (pvI n2)]) (st := []) (M := pvu M16_ 104 0 ((M16_.1 104 0) + 1)) rfl ⟨trivial, trivial, rfl, trivial, trivial, rfl, trivial⟩ (fun M24_ e25_ => ?_)
    have o26_ : pvOk M24_ := pvok_u2 e25_ o18_ rfl (zr_wide b22_ (by decide) (by decide))
    have f27_ : pvFr fp_eX6_append_104_x_x M M24_ := pvfr_u e25_ f19_ rfl
    have e28_ : (M24_.1 104 0) = ((M16_.1 104 0) + 1) := (pvu_s e25_)
    have b29_ : 1 ≤ Int32.toInt (M24_.1 104 0) ∧ Int32.toInt (M24_.1 104 0) ≤ 8 := (by rw [e28_]; exact b22_)
    refine pw_blk hT 2 (S' := (46, [some (pvR 104), some (pvI n1), some (pvI n2)], [pvI (M24_.1 104 0)], M24_)) rfl ⟨trivial, rfl, trivial⟩ ?_
    exact pw_ret hT rfl (r := some (pvI (M24_.1 104 0))) (M' := M24_) ⟨rfl, rfl⟩ ⟨⟨_, rfl, b29_, (by rw [if_pos c7_]; first | done | exact (show (M24_.1 104 0) = ((M.1 104 0) + 1) from by rw [((pvu_s e25_).trans (show ((M16_.1 104 0) + 1) = ((M.1 104 0) + 1) from by rw [((pvu_n e17_ 104 0 (Or.inl (by decide))).trans (pvu_n e11_ 104 0 (Or.inl (by decide))))]))]) | (rw [if_pos c7_]; exact (show (M24_.1 104 0) = ((M.1 104 0) + 1) from by rw [((pvu_s e25_).trans (show ((M16_.1 104 0) + 1) = ((M.1 104 0) + 1) from by rw [((pvu_n e17_ 104 0 (Or.inl (by decide))).trans (pvu_n e11_ 104 0 (Or.inl (by decide))))]))])))⟩, o26_, f27_, (zAp_y (by decide) (by decide) (by decide) (by have u := b8_; omega) e11_ e17_ e25_), (by rw [if_pos c7_]; first | done | exact ((pvu_s e25_).trans (show ((M16_.1 104 0) + 1) = ((M.1 104 0) + 1) from by rw [((pvu_n e17_ 104 0 (Or.inl (by decide))).trans (pvu_n e11_ 104 0 (Or.inl (by decide))))])) | (rw [if_pos c7_]; done) | (rw [if_pos c7_]; exact ((pvu_s e25_).trans (show ((M16_.1 104 0) + 1) = ((M.1 104 0) + 1) from by rw [((pvu_n e17_ 104 0 (Or.inl (by decide))).trans (pvu_n e11_ 104 0 (Or.inl (by decide))))]))))⟩
  · refine pw_eqI (if_neg c7_) ?_
    have b30_ : 8 ≤ Int32.toInt (M.1 104 0) ∧ Int32.toInt (M.1 104 0) ≤ 8 := zr_nlt_l 8 c7_ b6_ (show 8 ≤ Int32.toInt (Int32.ofNat 8) ∧ Int32.toInt (Int32.ofNat 8) ≤ 8 from (by decide)) (by decide)
    show PW 151 d (4, [some (pvR 104), some (pvI n1), some (pvI n2)], [pvI 1], M) _
    refine pw_if hT (c := 1 = 0) rfl rfl (fun c31_ => absurd c31_ (by decide)) (fun c31_ => ?_)
    refine pw_blk hT 2 (S' := (11, [some (pvR 104), some (pvI n1), some (pvI n2)], [pvI (M.1 104 0)], M)) rfl ⟨trivial, rfl, trivial⟩ ?_
    exact pw_ret hT rfl (r := some (pvI (M.1 104 0))) (M' := M) ⟨rfl, rfl⟩ ⟨⟨_, rfl, (zr_wide b30_ (by decide) (by decide)), (by rw [if_neg c7_]; first | done | (rw [if_neg c7_]; done))⟩, hok, pvfr_0, (zAp_n (by have u := b30_; omega)), (by rw [if_neg c7_]; first | done | exact rfl | (rw [if_neg c7_]; done) | (rw [if_neg c7_]; exact rfl))⟩
