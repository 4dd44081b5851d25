def fp_X10_worth_124_x (q k : Nat) : Bool := (Nat.beq q 124 && Nat.beq k 32) || Nat.beq q 131 || Nat.beq q 141 || Nat.beq q 142 || Nat.beq q 143
theorem fp_X10_worth_124_x_fp_X10_costOfNone_124 (a b : Nat) (h : fp_X10_costOfNone_124 a b = true) : fp_X10_worth_124_x a b = true := by unfold fp_X10_costOfNone_124 at h; unfold fp_X10_worth_124_x; revert h; simp <;> omega
theorem fp_X10_worth_124_x_fp_X10_layRain_124 (a b : Nat) (h : fp_X10_layRain_124 a b = true) : fp_X10_worth_124_x a b = true := by unfold fp_X10_layRain_124 at h; unfold fp_X10_worth_124_x; revert h; simp <;> omega
set_option maxHeartbeats 4000000 in
set_option maxRecDepth 10000 in
theorem sf_X10_worth_124_x (M : pvM) (hok : pvOk M) (n1 : Int32) (d : Nat) : PW 101 d (0, [some (pvR 124), some (pvI n1), none, none], [], M) (fun r X => (∃ x : Int32, r = some (pvI x) ∧ (-9000000) ≤ Int32.toInt x ∧ Int32.toInt x ≤ 9000000) ∧ pvOk X ∧ pvFr fp_X10_worth_124_x M X) := by
  have hT : pvdom 101 = pvD_101 := rfl
  refine pw_blk hT 2 (S' := (2, [some (pvR 124), some (pvI n1), none, none], [pvI n1, pvR 124], M)) rfl ⟨trivial, trivial, trivial⟩ ?_
  refine pw_callT hT (as := [pvR 124, pvI n1]) (lo1 := [some (pvR 124), some (pvI n1)]) (d1 := d) (rest := []) rfl rfl rfl rfl rfl (fun _ => rfl) (Nat.zero_le _) rfl rfl rfl (sf_X10_isWindow_124_x M hok n1 d) ?_
  by_cases c6_ : n1 < 0
  · refine pw_eqI (if_pos c6_) ?_
    have b7_ : (-2147483648) ≤ Int32.toInt n1 ∧ Int32.toInt n1 ≤ (-1) := zr_lt_l (-1) c6_ (zbnd n1) (show 0 ≤ Int32.toInt 0 ∧ Int32.toInt 0 ≤ 0 from (by decide)) (by decide)
    show PW 101 d (5, [some (pvR 124), some (pvI n1), none, none], [pvI 0], M) _
    refine pw_ifn hT (c := 0 = 0) rfl rfl (fun c8_ => absurd (by decide) c8_) (fun c8_ => ?_)
    refine pw_blk hT 1 (S' := (9, [some (pvR 124), some (pvI n1), none, none], [pvI (-1)], M)) rfl ⟨trivial, trivial⟩ ?_
    exact pw_ret hT rfl (r := some (pvI (-1))) (M' := M) ⟨rfl, rfl⟩ ⟨⟨_, rfl, (zr_wide (show (-1) ≤ Int32.toInt (-1) ∧ Int32.toInt (-1) ≤ (-1) from (by decide)) (by decide) (by decide))⟩, hok, pvfr_0⟩
  · refine pw_eqI (if_neg c6_) ?_
    have b9_ : 0 ≤ Int32.toInt n1 ∧ Int32.toInt n1 ≤ 2147483647 := zr_nlt_l 0 c6_ (zbnd n1) (show 0 ≤ Int32.toInt 0 ∧ Int32.toInt 0 ≤ 0 from (by decide)) (by decide)
    have b10_ : 0 ≤ Int32.toInt (M.1 124 0) ∧ Int32.toInt (M.1 124 0) ≤ 7 := pvok_r hok 124 0 rfl
    obtain ⟨q12_, b11_⟩ : (Int32.toInt ((M.1 124 0) - 1) = Int32.toInt (M.1 124 0) - Int32.toInt 1) ∧ ((-1) ≤ Int32.toInt ((M.1 124 0) - 1) ∧ Int32.toInt ((M.1 124 0) - 1) ≤ 6) := zsub_r (M.1 124 0) 1 (-1) 6 b10_ (show 1 ≤ Int32.toInt 1 ∧ Int32.toInt 1 ≤ 1 from (by decide)) (by decide) (by decide) (by decide) (by decide)
    have u13_ : Int32.toInt 1 = 1 := by decide
    by_cases c14_ : ((M.1 124 0) - 1) < n1
    · refine pw_eqI (if_pos c14_) ?_
      have d15_ : Int32.toInt ((M.1 124 0) - 1) < Int32.toInt n1 := (zi_lt _ _).mp c14_
      show PW 101 d (5, [some (pvR 124), some (pvI n1), none, none], [pvI 0], M) _
      refine pw_ifn hT (c := 0 = 0) rfl rfl (fun c16_ => absurd (by decide) c16_) (fun c16_ => ?_)
      refine pw_blk hT 1 (S' := (9, [some (pvR 124), some (pvI n1), none, none], [pvI (-1)], M)) rfl ⟨trivial, trivial⟩ ?_
      exact pw_ret hT rfl (r := some (pvI (-1))) (M' := M) ⟨rfl, rfl⟩ ⟨⟨_, rfl, (zr_wide (show (-1) ≤ Int32.toInt (-1) ∧ Int32.toInt (-1) ≤ (-1) from (by decide)) (by decide) (by decide))⟩, hok, pvfr_0⟩
    · refine pw_eqI (if_neg c14_) ?_
      have b17_ : 0 ≤ Int32.toInt ((M.1 124 0) - 1) ∧ Int32.toInt ((M.1 124 0) - 1) ≤ 6 := zr_nlt_l 0 c14_ b11_ b9_ (by decide)
      have b18_ : 0 ≤ Int32.toInt n1 ∧ Int32.toInt n1 ≤ 6 := zr_nlt_r 6 c14_ b9_ b17_ (by decide)
      have d19_ : Int32.toInt ((M.1 124 0) - 1) ≥ Int32.toInt n1 := Int.not_lt.mp ((not_congr (zi_lt _ _)).mp c14_)
      show PW 101 d (5, [some (pvR 124), some (pvI n1), none, none], [pvI 1], M) _
      refine pw_ifn hT (c := 1 = 0) rfl rfl (fun c20_ => ?_) (fun c20_ => absurd c20_ (by decide))
      refine pw_blk hT 1 (S' := (11, [some (pvR 124), some (pvI n1), none, none], [pvR 124], M)) rfl ⟨trivial, trivial⟩ ?_
      refine pw_callV hT (as := [pvR 124]) (lo1 := [some (pvR 124), none, none]) (d1 := d) (rest := []) rfl rfl rfl rfl rfl (fun _ => rfl) (Nat.zero_le _) rfl rfl rfl (sf_X10_layRain_124 M hok d) (fun M22_ o24_ g25_ => ?_)
      have f26_ : pvFr fp_X10_worth_124_x M M22_ := pvfr_t g25_ pvfr_0 fp_X10_worth_124_x_fp_X10_layRain_124
      refine pw_blk hT 1 (S' := (15, [some (pvR 124), some (pvI n1), none, none], [pvR 124], M22_)) rfl ⟨trivial, trivial⟩ ?_
      refine pw_callG hT (as := [pvR 124]) (lo1 := [some (pvR 124)]) (d1 := d) (rest := []) rfl rfl rfl rfl rfl (fun _ => rfl) (Nat.zero_le _) rfl rfl rfl (sf_X10_costOfNone_124 M22_ o24_ d) (fun x27_ M28_ b29_ o30_ g31_ => ?_)
      have f32_ : pvFr fp_X10_worth_124_x M M28_ := pvfr_t g31_ f26_ fp_X10_worth_124_x_fp_X10_costOfNone_124
      have b33_ : 0 ≤ Int32.toInt (M28_.1 131 (Int32.toNatClampNeg n1)) ∧ Int32.toInt (M28_.1 131 (Int32.toNatClampNeg n1)) ≤ 1 := pvok_r o30_ 131 (Int32.toNatClampNeg n1) rfl
      refine pw_blkw hT 11 (pc := 33) (lo := [some (pvR 124), some (pvI n1), some (pvI x27_), some (pvI (M28_.1 131 (Int32.toNatClampNeg n1)))]) (st := []) (M := pvu M28_ 131 (Int32.toNatClampNeg n1) (vp_nar .boolean 1)) rfl ⟨trivial, trivial, rfl, trivial, ⟨rfl, (zr_in (n := 7) b18_ (by decide) (by decide))⟩, trivial, trivial, rfl, trivial, trivial, ⟨rfl, (zr_in (n := 7) b18_ (by decide) (by decide))⟩, trivial⟩ (fun M34_ e35_ => ?_)
      have o36_ : pvOk M34_ := pvok_u2 e35_ o30_ rfl (zboolr 1)
      have f37_ : pvFr fp_X10_worth_124_x M M34_ := pvfr_u e35_ f32_ rfl
      refine pw_blk hT 2 (S' := (35, [some (pvR 124), some (pvI n1), some (pvI x27_), some (pvI (M28_.1 131 (Int32.toNatClampNeg n1)))], [pvR 124, pvI x27_], M34_)) rfl ⟨trivial, trivial, trivial⟩ ?_
      refine pw_callG hT (as := [pvR 124]) (lo1 := [some (pvR 124)]) (d1 := d) (rest := [pvI x27_]) rfl rfl rfl rfl rfl (fun _ => rfl) (Nat.zero_le _) rfl rfl rfl (sf_X10_costOfNone_124 M34_ o36_ d) (fun x38_ M39_ b40_ o41_ g42_ => ?_)
      have f43_ : pvFr fp_X10_worth_124_x M M39_ := pvfr_t g42_ f37_ fp_X10_worth_124_x_fp_X10_costOfNone_124
      obtain ⟨q45_, b44_⟩ : (Int32.toInt (x27_ - x38_) = Int32.toInt x27_ - Int32.toInt x38_) ∧ ((-9000000) ≤ Int32.toInt (x27_ - x38_) ∧ Int32.toInt (x27_ - x38_) ≤ 9000000) := zsub_r x27_ x38_ (-9000000) 9000000 b29_ b40_ (by decide) (by decide) (by decide) (by decide)
      refine pw_blkw hT 7 (pc := 47) (lo := [some (pvR 124), some (pvI n1), some (pvI (x27_ - x38_)), some (pvI (M28_.1 131 (Int32.toNatClampNeg n1)))]) (st := []) (M := pvu M39_ 131 (Int32.toNatClampNeg n1) (vp_nar .boolean (M28_.1 131 (Int32.toNatClampNeg n1)))) rfl ⟨trivial, trivial, trivial, rfl, trivial, trivial, ⟨rfl, (zr_in (n := 7) b18_ (by decide) (by decide))⟩, trivial⟩ (fun M46_ e47_ => ?_)
      have o48_ : pvOk M46_ := pvok_u2 e47_ o41_ rfl (zboolr (M28_.1 131 (Int32.toNatClampNeg n1)))
      have f49_ : pvFr fp_X10_worth_124_x M M46_ := pvfr_u e47_ f43_ rfl
      refine pw_blk hT 1 (S' := (48, [some (pvR 124), some (pvI n1), some (pvI (x27_ - x38_)), some (pvI (M28_.1 131 (Int32.toNatClampNeg n1)))], [pvI (x27_ - x38_)], M46_)) rfl ⟨trivial, trivial⟩ ?_
      exact pw_ret hT rfl (r := some (pvI (x27_ - x38_))) (M' := M46_) ⟨rfl, rfl⟩ ⟨⟨_, rfl, b44_⟩, o48_, f49_⟩
