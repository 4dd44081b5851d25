def fpL_eX9_worth_0_x : List (Nat × Nat × Nat) := [(0, 12, 0), (0, 13, 0), (0, 14, 0), (0, 5, 2), (0, 5, 3), (1, 112, 0)]
def fp_eX9_worth_0_x (q k : Nat) : Bool := pvfp fpL_eX9_worth_0_x q k
theorem fp_eX9_worth_0_x_fp_eX1_beginFromNow_5 (a b : Nat) (h : fp_eX1_beginFromNow_5 a b = true) : fp_eX9_worth_0_x a b = true := pvfp_sub (l1 := fpL_eX1_beginFromNow_5) (l2 := fpL_eX9_worth_0_x) (by decide) a b h
set_option maxHeartbeats 4000000 in
set_option maxRecDepth 10000 in
theorem se_X9_worth_0_x (M : pvM) (hok : pvOk M) (n1 : Int32) (d : Nat) : PW 212 d (0, [some (pvR 0), some (pvI n1), none], [], M) (fun r X => (∃ x : Int32, r = some (pvI x) ∧ True) ∧ pvOk X ∧ pvFr fp_eX9_worth_0_x M X ∧ yAn (yGwo n1) r M X) := by
  have hT : pvdom 212 = pvD_212 := rfl
  refine pw_blk hT 3 (S' := (5, [some (pvR 0), some (pvI n1), none], [pvI n1, pvR 8], M)) rfl ⟨trivial, rfl, trivial, trivial⟩ ?_
  refine pw_callT hT (as := [pvR 8, pvI n1]) (lo1 := [some (pvR 8), some (pvI n1)]) (d1 := d) (rest := []) rfl rfl rfl rfl rfl (fun _ => rfl) (Nat.zero_le _) rfl rfl rfl (sf_X7_has_8_x M hok n1 d) ?_
  by_cases c6_ : n1 < 0
  · refine pw_eqI (if_pos c6_) ?_
    have b7_ : (-2147483648) ≤ Int32.toInt n1 ∧ Int32.toInt n1 ≤ (-1) := zr_lt_l (-1) c6_ (zbnd n1) (show 0 ≤ Int32.toInt 0 ∧ Int32.toInt 0 ≤ 0 from (by decide)) (by decide)
    show PW 212 d (8, [some (pvR 0), some (pvI n1), none], [pvI 0], M) _
    refine pw_ifn hT (c := 0 = 0) rfl rfl (fun c8_ => absurd (by decide) c8_) (fun c8_ => ?_)
    refine pw_blk hT 1 (S' := (12, [some (pvR 0), some (pvI n1), none], [pvI (-1)], M)) rfl ⟨trivial, trivial⟩ ?_
    exact pw_ret hT rfl (r := some (pvI (-1))) (M' := M) ⟨rfl, rfl⟩ ⟨⟨_, rfl, trivial⟩, hok, pvfr_0, (yGwo_n (zvl_l c6_) (by decide))⟩
  · refine pw_eqI (if_neg c6_) ?_
    have b9_ : 0 ≤ Int32.toInt n1 ∧ Int32.toInt n1 ≤ 2147483647 := zr_nlt_l 0 c6_ (zbnd n1) (show 0 ≤ Int32.toInt 0 ∧ Int32.toInt 0 ≤ 0 from (by decide)) (by decide)
    have b10_ : 0 ≤ Int32.toInt (M.1 8 1) ∧ Int32.toInt (M.1 8 1) ≤ 7 := pvok_r hok 8 1 rfl
    by_cases c11_ : (M.1 8 1) ≤ n1
    · refine pw_eqI (if_pos c11_) ?_
      have d12_ : Int32.toInt (M.1 8 1) ≤ Int32.toInt n1 := (zi_le _ _).mp c11_
      show PW 212 d (8, [some (pvR 0), some (pvI n1), none], [pvI 0], M) _
      refine pw_ifn hT (c := 0 = 0) rfl rfl (fun c13_ => absurd (by decide) c13_) (fun c13_ => ?_)
      refine pw_blk hT 1 (S' := (12, [some (pvR 0), some (pvI n1), none], [pvI (-1)], M)) rfl ⟨trivial, trivial⟩ ?_
      exact pw_ret hT rfl (r := some (pvI (-1))) (M' := M) ⟨rfl, rfl⟩ ⟨⟨_, rfl, trivial⟩, hok, pvfr_0, (yGwo_n (zvl_u c11_) (by decide))⟩
    · refine pw_eqI (if_neg c11_) ?_
      have b14_ : 1 ≤ Int32.toInt (M.1 8 1) ∧ Int32.toInt (M.1 8 1) ≤ 7 := zr_nle_l 1 c11_ b10_ b9_ (by decide)
      have b15_ : 0 ≤ Int32.toInt n1 ∧ Int32.toInt n1 ≤ 6 := zr_nle_r 6 c11_ b9_ b14_ (by decide)
      have d16_ : Int32.toInt (M.1 8 1) > Int32.toInt n1 := Int.not_le.mp ((not_congr (zi_le _ _)).mp c11_)
      show PW 212 d (8, [some (pvR 0), some (pvI n1), none], [pvI 1], M) _
      refine pw_ifn hT (c := 1 = 0) rfl rfl (fun c17_ => ?_) (fun c17_ => absurd c17_ (by decide))
      refine pw_blk hT 2 (S' := (17, [some (pvR 0), some (pvI n1), none], [pvR 5], M)) rfl ⟨trivial, rfl, trivial⟩ ?_
      refine pw_callVd hT (as := [pvR 5]) (lo1 := [some (pvR 5)]) (d1 := d) (rest := []) rfl rfl rfl rfl rfl (fun _ => rfl) (Nat.zero_le _) rfl rfl rfl (se_X1_beginFromNow_5 M hok d) (fun M20_ o22_ g23_ d18_ => ?_)
      have f24_ : pvFr fp_eX9_worth_0_x M M20_ := pvfr_t g23_ pvfr_0 fp_eX9_worth_0_x_fp_eX1_beginFromNow_5
      refine pw_blk hT 2 (S' := (24, [some (pvR 0), some (pvI n1), none], [pvR 5], M20_)) rfl ⟨trivial, rfl, trivial⟩ ?_
      refine pw_callGp hT (as := [pvR 5]) (lo1 := [some (pvR 5)]) (d1 := d) (rest := []) rfl rfl rfl rfl rfl (fun _ => rfl) (Nat.zero_le _) rfl rfl rfl (se_X1_cost_5 M20_ o22_ d) (fun x25_ b27_ => ?_)
      obtain ⟨b30_, d31_⟩ := b27_
      refine pw_blkw hT 7 (pc := 38) (lo := [some (pvR 0), some (pvI n1), some (pvI x25_)]) (st := []) (M := pvu M20_ 12 (Int32.toNatClampNeg n1) 0) rfl ⟨trivial, trivial, rfl, rfl, trivial, trivial, ⟨rfl, (zr_in (n := 7) b15_ (by decide) (by decide))⟩, trivial⟩ (fun M32_ e33_ => ?_)
      have o34_ : pvOk M32_ := pvok_u2 e33_ o22_ rfl (zr_wide (show 0 ≤ Int32.toInt 0 ∧ Int32.toInt 0 ≤ 0 from (by decide)) (by decide) (by decide))
      have f35_ : pvFr fp_eX9_worth_0_x M M32_ := pvfr_u e33_ f24_ rfl
      refine pw_blk hT 3 (S' := (43, [some (pvR 0), some (pvI n1), some (pvI x25_)], [pvR 5, pvI x25_], M32_)) rfl ⟨trivial, trivial, rfl, trivial⟩ ?_
      refine pw_callGp hT (as := [pvR 5]) (lo1 := [some (pvR 5)]) (d1 := d) (rest := [pvI x25_]) rfl rfl rfl rfl rfl (fun _ => rfl) (Nat.zero_le _) rfl rfl rfl (se_X1_cost_5 M32_ o34_ d) (fun x36_ b38_ => ?_)
      obtain ⟨b41_, d42_⟩ := b38_
      refine pw_blk hT 1 (S' := (47, [some (pvR 0), some (pvI n1), some (pvI x25_)], [pvI (x25_ - x36_)], M32_)) rfl ⟨trivial, trivial⟩ ?_
      exact pw_ret hT rfl (r := some (pvI (x25_ - x36_))) (M' := M32_) ⟨rfl, rfl⟩ ⟨⟨_, rfl, trivial⟩, o34_, f35_, (yGwo_y hok o22_ o34_ d18_ (zvl_y c6_ c11_) d31_ e33_ (by decide) d42_)⟩
