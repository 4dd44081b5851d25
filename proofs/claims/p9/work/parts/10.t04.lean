def fpL_X10_stand_124_x_x : List (Nat × Nat × Nat) := [(0, 124, 6), (0, 124, 7)]
def fp_X10_stand_124_x_x (q k : Nat) : Bool := pvfp fpL_X10_stand_124_x_x q k
set_option maxHeartbeats 4000000 in
set_option maxRecDepth 10000 in
theorem sf_X10_stand_124_x_x (M : pvM) (hok : pvOk M) (n1 : Int32) (n2 : Int32) (d : Nat) : PW 78 d (0, [some (pvR 124), some (pvI n1), some (pvI n2)], [], M) (fun r X => (∃ x : Int32, r = some (pvI x) ∧ ((-2) ≤ Int32.toInt x ∧ Int32.toInt x ≤ 1) ∧ x = (if n1 < 0 then (-2) else (if 3 < n1 then (-2) else (if n2 < 0 then (-2) else (if 4 < n2 then (-2) else 1))))) ∧ pvOk X ∧ pvFr fp_X10_stand_124_x_x M X) := by
  have hT : pvdom 78 = pvD_78 := rfl
  refine pw_blk hT 3 (S' := (3, [some (pvR 124), some (pvI n1), some (pvI n2)], [pvI n2, pvI n1, pvR 124], M)) rfl ⟨trivial, trivial, trivial, trivial⟩ ?_
  refine pw_callT hT (as := [pvR 124, pvI n1, pvI n2]) (lo1 := [some (pvR 124), some (pvI n1), some (pvI n2)]) (d1 := d) (rest := []) rfl rfl rfl rfl rfl (fun _ => rfl) (Nat.zero_le _) rfl rfl rfl (sf_X10_isPlace_124_x_x M hok n1 n2 d) ?_
  by_cases c6_ : n1 < 0
  · refine pw_eqI (if_pos c6_) ?_
    have b7_ : (-2147483648) ≤ Int32.toInt n1 ∧ Int32.toInt n1 ≤ (-1) := zr_lt_l (-1) c6_ (zbnd n1) (show 0 ≤ Int32.toInt 0 ∧ Int32.toInt 0 ≤ 0 from (by decide)) (by decide)
    show PW 78 d (6, [some (pvR 124), some (pvI n1), some (pvI n2)], [pvI 0], M) _
    refine pw_ifn hT (c := 0 = 0) rfl rfl (fun c8_ => absurd (by decide) c8_) (fun c8_ => ?_)
    refine pw_blk hT 1 (S' := (11, [some (pvR 124), some (pvI n1), some (pvI n2)], [pvI (-2)], M)) rfl ⟨trivial, trivial⟩ ?_
    exact pw_ret hT rfl (r := some (pvI (-2))) (M' := M) ⟨rfl, rfl⟩ ⟨⟨_, rfl, (zr_wide (show (-2) ≤ Int32.toInt (-2) ∧ Int32.toInt (-2) ≤ (-2) from (by decide)) (by decide) (by decide)), (by rw [if_pos c6_])⟩, hok, pvfr_0⟩
  · refine pw_eqI (if_neg c6_) ?_
    have b9_ : 0 ≤ Int32.toInt n1 ∧ Int32.toInt n1 ≤ 2147483647 := zr_nlt_l 0 c6_ (zbnd n1) (show 0 ≤ Int32.toInt 0 ∧ Int32.toInt 0 ≤ 0 from (by decide)) (by decide)
    by_cases c10_ : 3 < n1
    · refine pw_eqI (if_pos c10_) ?_
      have b11_ : 4 ≤ Int32.toInt n1 ∧ Int32.toInt n1 ≤ 2147483647 := zr_lt_r 4 c10_ b9_ (show 3 ≤ Int32.toInt 3 ∧ Int32.toInt 3 ≤ 3 from (by decide)) (by decide)
      show PW 78 d (6, [some (pvR 124), some (pvI n1), some (pvI n2)], [pvI 0], M) _
      refine pw_ifn hT (c := 0 = 0) rfl rfl (fun c12_ => absurd (by decide) c12_) (fun c12_ => ?_)
      refine pw_blk hT 1 (S' := (11, [some (pvR 124), some (pvI n1), some (pvI n2)], [pvI (-2)], M)) rfl ⟨trivial, trivial⟩ ?_
      exact pw_ret hT rfl (r := some (pvI (-2))) (M' := M) ⟨rfl, rfl⟩ ⟨⟨_, rfl, (zr_wide (show (-2) ≤ Int32.toInt (-2) ∧ Int32.toInt (-2) ≤ (-2) from (by decide)) (by decide) (by decide)), (by rw [if_neg c6_, if_pos c10_])⟩, hok, pvfr_0⟩
    · refine pw_eqI (if_neg c10_) ?_
      have b13_ : 0 ≤ Int32.toInt n1 ∧ Int32.toInt n1 ≤ 3 := zr_nlt_r 3 c10_ b9_ (show 3 ≤ Int32.toInt 3 ∧ Int32.toInt 3 ≤ 3 from (by decide)) (by decide)
      by_cases c14_ : n2 < 0
      · refine pw_eqI (if_pos c14_) ?_
        have b15_ : (-2147483648) ≤ Int32.toInt n2 ∧ Int32.toInt n2 ≤ (-1) := zr_lt_l (-1) c14_ (zbnd n2) (show 0 ≤ Int32.toInt 0 ∧ Int32.toInt 0 ≤ 0 from (by decide)) (by decide)
        show PW 78 d (6, [some (pvR 124), some (pvI n1), some (pvI n2)], [pvI 0], M) _
        refine pw_ifn hT (c := 0 = 0) rfl rfl (fun c16_ => absurd (by decide) c16_) (fun c16_ => ?_)
        refine pw_blk hT 1 (S' := (11, [some (pvR 124), some (pvI n1), some (pvI n2)], [pvI (-2)], M)) rfl ⟨trivial, trivial⟩ ?_
        exact pw_ret hT rfl (r := some (pvI (-2))) (M' := M) ⟨rfl, rfl⟩ ⟨⟨_, rfl, (zr_wide (show (-2) ≤ Int32.toInt (-2) ∧ Int32.toInt (-2) ≤ (-2) from (by decide)) (by decide) (by decide)), (by rw [if_neg c6_, if_neg c10_, if_pos c14_])⟩, hok, pvfr_0⟩
      · refine pw_eqI (if_neg c14_) ?_
        have b17_ : 0 ≤ Int32.toInt n2 ∧ Int32.toInt n2 ≤ 2147483647 := zr_nlt_l 0 c14_ (zbnd n2) (show 0 ≤ Int32.toInt 0 ∧ Int32.toInt 0 ≤ 0 from (by decide)) (by decide)
        by_cases c18_ : 4 < n2
        · refine pw_eqI (if_pos c18_) ?_
          have b19_ : 5 ≤ Int32.toInt n2 ∧ Int32.toInt n2 ≤ 2147483647 := zr_lt_r 5 c18_ b17_ (show 4 ≤ Int32.toInt 4 ∧ Int32.toInt 4 ≤ 4 from (by decide)) (by decide)
          show PW 78 d (6, [some (pvR 124), some (pvI n1), some (pvI n2)], [pvI 0], M) _
          refine pw_ifn hT (c := 0 = 0) rfl rfl (fun c20_ => absurd (by decide) c20_) (fun c20_ => ?_)
          refine pw_blk hT 1 (S' := (11, [some (pvR 124), some (pvI n1), some (pvI n2)], [pvI (-2)], M)) rfl ⟨trivial, trivial⟩ ?_
          exact pw_ret hT rfl (r := some (pvI (-2))) (M' := M) ⟨rfl, rfl⟩ ⟨⟨_, rfl, (zr_wide (show (-2) ≤ Int32.toInt (-2) ∧ Int32.toInt (-2) ≤ (-2) from (by decide)) (by decide) (by decide)), (by rw [if_neg c6_, if_neg c10_, if_neg c14_, if_pos c18_])⟩, hok, pvfr_0⟩
        · refine pw_eqI (if_neg c18_) ?_
          have b21_ : 0 ≤ Int32.toInt n2 ∧ Int32.toInt n2 ≤ 4 := zr_nlt_r 4 c18_ b17_ (show 4 ≤ Int32.toInt 4 ∧ Int32.toInt 4 ≤ 4 from (by decide)) (by decide)
          show PW 78 d (6, [some (pvR 124), some (pvI n1), some (pvI n2)], [pvI 1], M) _
          refine pw_ifn hT (c := 1 = 0) rfl rfl (fun c22_ => ?_) (fun c22_ => absurd c22_ (by decide))
          refine pw_blkw hT 3 (pc := 17) (lo := [some (pvR 124), some (pvI n1), some (pvI n2)]) (st := []) (M := pvu M 124 5 n1) rfl ⟨trivial, trivial, rfl, trivial⟩ (fun M23_ e24_ => ?_)
          have o25_ : pvOk M23_ := pvok_u2 e24_ hok rfl b13_
          have f26_ : pvFr fp_X10_stand_124_x_x M M23_ := pvfr_u e24_ pvfr_0 rfl
          refine pw_blkw hT 3 (pc := 22) (lo := [some (pvR 124), some (pvI n1), some (pvI n2)]) (st := []) (M := pvu M23_ 124 6 n2) rfl ⟨trivial, trivial, rfl, trivial⟩ (fun M27_ e28_ => ?_)
          have o29_ : pvOk M27_ := pvok_u2 e28_ o25_ rfl b21_
          have f30_ : pvFr fp_X10_stand_124_x_x M M27_ := pvfr_u e28_ f26_ rfl
          refine pw_blk hT 1 (S' := (23, [some (pvR 124), some (pvI n1), some (pvI n2)], [pvI 1], M27_)) rfl ⟨trivial, trivial⟩ ?_
          exact pw_ret hT rfl (r := some (pvI 1)) (M' := M27_) ⟨rfl, rfl⟩ ⟨⟨_, rfl, (zr_wide (show 1 ≤ Int32.toInt 1 ∧ Int32.toInt 1 ≤ 1 from (by decide)) (by decide) (by decide)), (by rw [if_neg c6_, if_neg c10_, if_neg c14_, if_neg c18_])⟩, o29_, f30_⟩
set_option maxHeartbeats 4000000 in
set_option maxRecDepth 10000 in
theorem sf_X10_taken_124_x_x (M : pvM) (hok : pvOk M) (n1 : Int32) (n2 : Int32) (d : Nat) : PW 81 d (0, [some (pvR 124), some (pvI n1), some (pvI n2), none], [], M) (fun r X => (∃ x : Int32, r = some (pvI x) ∧ (-12) ≤ Int32.toInt x ∧ Int32.toInt x ≤ 6) ∧ X = M) := by
  have hT : pvdom 81 = pvD_81 := rfl
  refine pw_blk hT 4 (S' := (5, [some (pvR 124), some (pvI n1), some (pvI n2), none], [pvI 6, pvI 0, pvI n2, pvR 124], M)) rfl ⟨trivial, trivial, trivial, trivial, trivial⟩ ?_
  refine pw_callT hT (as := [pvR 124, pvI n2, pvI 0, pvI 6]) (lo1 := [some (pvR 124), some (pvI n2), some (pvI 0), some (pvI 6)]) (d1 := d) (rest := []) rfl rfl rfl rfl rfl (fun _ => rfl) (Nat.zero_le _) rfl rfl rfl (sf_X10_in_124_x_x_x M hok n2 0 6 d) ?_
  by_cases c6_ : n2 < 0
  · refine pw_eqI (if_pos c6_) ?_
    have b7_ : (-2147483648) ≤ Int32.toInt n2 ∧ Int32.toInt n2 ≤ (-1) := zr_lt_l (-1) c6_ (zbnd n2) (show 0 ≤ Int32.toInt 0 ∧ Int32.toInt 0 ≤ 0 from (by decide)) (by decide)
    show PW 81 d (8, [some (pvR 124), some (pvI n1), some (pvI n2), none], [pvI 0], M) _
    refine pw_ifn hT (c := 0 = 0) rfl rfl (fun c8_ => absurd (by decide) c8_) (fun c8_ => ?_)
    refine pw_blk hT 1 (S' := (13, [some (pvR 124), some (pvI n1), some (pvI n2), none], [pvI (-2)], M)) rfl ⟨trivial, trivial⟩ ?_
    exact pw_ret hT rfl (r := some (pvI (-2))) (M' := M) ⟨rfl, rfl⟩ ⟨⟨_, rfl, (zr_wide (show (-2) ≤ Int32.toInt (-2) ∧ Int32.toInt (-2) ≤ (-2) from (by decide)) (by decide) (by decide))⟩, rfl⟩
  · refine pw_eqI (if_neg c6_) ?_
    have b9_ : 0 ≤ Int32.toInt n2 ∧ Int32.toInt n2 ≤ 2147483647 := zr_nlt_l 0 c6_ (zbnd n2) (show 0 ≤ Int32.toInt 0 ∧ Int32.toInt 0 ≤ 0 from (by decide)) (by decide)
    by_cases c10_ : 6 < n2
    · refine pw_eqI (if_pos c10_) ?_
      have b11_ : 7 ≤ Int32.toInt n2 ∧ Int32.toInt n2 ≤ 2147483647 := zr_lt_r 7 c10_ b9_ (show 6 ≤ Int32.toInt 6 ∧ Int32.toInt 6 ≤ 6 from (by decide)) (by decide)
      show PW 81 d (8, [some (pvR 124), some (pvI n1), some (pvI n2), none], [pvI 0], M) _
      refine pw_ifn hT (c := 0 = 0) rfl rfl (fun c12_ => absurd (by decide) c12_) (fun c12_ => ?_)
      refine pw_blk hT 1 (S' := (13, [some (pvR 124), some (pvI n1), some (pvI n2), none], [pvI (-2)], M)) rfl ⟨trivial, trivial⟩ ?_
      exact pw_ret hT rfl (r := some (pvI (-2))) (M' := M) ⟨rfl, rfl⟩ ⟨⟨_, rfl, (zr_wide (show (-2) ≤ Int32.toInt (-2) ∧ Int32.toInt (-2) ≤ (-2) from (by decide)) (by decide) (by decide))⟩, rfl⟩
    · refine pw_eqI (if_neg c10_) ?_
      have b13_ : 0 ≤ Int32.toInt n2 ∧ Int32.toInt n2 ≤ 6 := zr_nlt_r 6 c10_ b9_ (show 6 ≤ Int32.toInt 6 ∧ Int32.toInt 6 ≤ 6 from (by decide)) (by decide)
      show PW 81 d (8, [some (pvR 124), some (pvI n1), some (pvI n2), none], [pvI 1], M) _
      refine pw_ifn hT (c := 1 = 0) rfl rfl (fun c14_ => ?_) (fun c14_ => absurd c14_ (by decide))
      refine pw_blk hT 2 (S' := (16, [some (pvR 124), some (pvI n1), some (pvI n2), none], [pvI n1, pvR 124], M)) rfl ⟨trivial, trivial, trivial⟩ ?_
      refine pw_callT hT (as := [pvR 124, pvI n1]) (lo1 := [some (pvR 124), some (pvI n1)]) (d1 := d) (rest := []) rfl rfl rfl rfl rfl (fun _ => rfl) (Nat.zero_le _) rfl rfl rfl (sf_X10_isWindow_124_x M hok n1 d) ?_
      by_cases c20_ : n1 < 0
      · refine pw_eqI (if_pos c20_) ?_
        have b21_ : (-2147483648) ≤ Int32.toInt n1 ∧ Int32.toInt n1 ≤ (-1) := zr_lt_l (-1) c20_ (zbnd n1) (show 0 ≤ Int32.toInt 0 ∧ Int32.toInt 0 ≤ 0 from (by decide)) (by decide)
        show PW 81 d (19, [some (pvR 124), some (pvI n1), some (pvI n2), none], [pvI 0], M) _
        refine pw_ifn hT (c := 0 = 0) rfl rfl (fun c22_ => absurd (by decide) c22_) (fun c22_ => ?_)
        refine pw_blk hT 1 (S' := (24, [some (pvR 124), some (pvI n1), some (pvI n2), none], [pvI (-11)], M)) rfl ⟨trivial, trivial⟩ ?_
        exact pw_ret hT rfl (r := some (pvI (-11))) (M' := M) ⟨rfl, rfl⟩ ⟨⟨_, rfl, (zr_wide (show (-11) ≤ Int32.toInt (-11) ∧ Int32.toInt (-11) ≤ (-11) from (by decide)) (by decide) (by decide))⟩, rfl⟩
      · refine pw_eqI (if_neg c20_) ?_
        have b23_ : 0 ≤ Int32.toInt n1 ∧ Int32.toInt n1 ≤ 2147483647 := zr_nlt_l 0 c20_ (zbnd n1) (show 0 ≤ Int32.toInt 0 ∧ Int32.toInt 0 ≤ 0 from (by decide)) (by decide)
        have b24_ : 0 ≤ Int32.toInt (M.1 124 0) ∧ Int32.toInt (M.1 124 0) ≤ 7 := pvok_r hok 124 0 rfl
        obtain ⟨q26_, b25_⟩ : (Int32.toInt ((M.1 124 0) - 1) = Int32.toInt (M.1 124 0) - 1) ∧ ((-1) ≤ Int32.toInt ((M.1 124 0) - 1) ∧ Int32.toInt ((M.1 124 0) - 1) ≤ 6) := zsub_k (M.1 124 0) 1 1 (-1) 6 b24_ (by decide) (by decide) (by decide) (by decide) (by decide)
        by_cases c27_ : ((M.1 124 0) - 1) < n1
        · refine pw_eqI (if_pos c27_) ?_
          have d28_ : Int32.toInt ((M.1 124 0) - 1) < Int32.toInt n1 := (zi_lt _ _).mp c27_
          show PW 81 d (19, [some (pvR 124), some (pvI n1), some (pvI n2), none], [pvI 0], M) _
          refine pw_ifn hT (c := 0 = 0) rfl rfl (fun c29_ => absurd (by decide) c29_) (fun c29_ => ?_)
          refine pw_blk hT 1 (S' := (24, [some (pvR 124), some (pvI n1), some (pvI n2), none], [pvI (-11)], M)) rfl ⟨trivial, trivial⟩ ?_
          exact pw_ret hT rfl (r := some (pvI (-11))) (M' := M) ⟨rfl, rfl⟩ ⟨⟨_, rfl, (zr_wide (show (-11) ≤ Int32.toInt (-11) ∧ Int32.toInt (-11) ≤ (-11) from (by decide)) (by decide) (by decide))⟩, rfl⟩
        · refine pw_eqI (if_neg c27_) ?_
          have b30_ : 0 ≤ Int32.toInt ((M.1 124 0) - 1) ∧ Int32.toInt ((M.1 124 0) - 1) ≤ 6 := zr_nlt_l 0 c27_ b25_ b23_ (by decide)
          have b31_ : 0 ≤ Int32.toInt n1 ∧ Int32.toInt n1 ≤ 6 := zr_nlt_r 6 c27_ b23_ b30_ (by decide)
          have d32_ : Int32.toInt ((M.1 124 0) - 1) ≥ Int32.toInt n1 := Int.not_lt.mp ((not_congr (zi_lt _ _)).mp c27_)
          show PW 81 d (19, [some (pvR 124), some (pvI n1), some (pvI n2), none], [pvI 1], M) _
          refine pw_ifn hT (c := 1 = 0) rfl rfl (fun c33_ => ?_) (fun c33_ => absurd c33_ (by decide))
          have b34_ : 0 ≤ Int32.toInt (M.1 125 (Int32.toNatClampNeg n1)) ∧ Int32.toInt (M.1 125 (Int32.toNatClampNeg n1)) ≤ 6 := pvok_r hok 125 (Int32.toNatClampNeg n1) rfl
          refine pw_blk hT 6 (S' := (33, [some (pvR 124), some (pvI n1), some (pvI n2), some (pvI (M.1 125 (Int32.toNatClampNeg n1)))], [pvI n2], M)) rfl ⟨trivial, rfl, trivial, ⟨rfl, (zr_in (n := 7) b31_ (by decide) (by decide))⟩, trivial, trivial, trivial⟩ ?_
          refine pw_if hT (c := n2 = 0) rfl rfl (fun c35_ => ?_) (fun c35_ => ?_)
          · have b36_ : 0 ≤ Int32.toInt n2 ∧ Int32.toInt n2 ≤ 0 := (by have u0 := b13_; have u1 := (zi_eq _ _).mp c35_; have u2 := (show 0 ≤ Int32.toInt 0 ∧ Int32.toInt 0 ≤ 0 from (by decide)); omega)
            refine pw_blk hT 2 (S' := (78, [some (pvR 124), some (pvI n1), some (pvI n2), some (pvI (M.1 125 (Int32.toNatClampNeg n1)))], [pvI (M.1 125 (Int32.toNatClampNeg n1))], M)) rfl ⟨trivial, trivial, trivial⟩ ?_
            exact pw_ret hT rfl (r := some (pvI (M.1 125 (Int32.toNatClampNeg n1)))) (M' := M) ⟨rfl, rfl⟩ ⟨⟨_, rfl, (zr_wide b34_ (by decide) (by decide))⟩, rfl⟩
          · have b37_ : 1 ≤ Int32.toInt n2 ∧ Int32.toInt n2 ≤ 6 := (by have u0 := b13_; have u1 := (not_congr (zi_eq _ _)).mp c35_; have u2 := (show 0 ≤ Int32.toInt 0 ∧ Int32.toInt 0 ≤ 0 from (by decide)); omega)
            refine pw_blk hT 2 (S' := (38, [some (pvR 124), some (pvI n1), some (pvI n2), some (pvI (M.1 125 (Int32.toNatClampNeg n1)))], [pvI n2, pvI (M.1 125 (Int32.toNatClampNeg n1))], M)) rfl ⟨trivial, trivial, trivial⟩ ?_
            refine pw_ic hT (c := (M.1 125 (Int32.toNatClampNeg n1)) = n2) rfl rfl (fun c38_ => ?_) (fun c38_ => ?_)
            · have b39_ : 1 ≤ Int32.toInt (M.1 125 (Int32.toNatClampNeg n1)) ∧ Int32.toInt (M.1 125 (Int32.toNatClampNeg n1)) ≤ 6 := (by have u0 := b34_; have u1 := (zi_eq _ _).mp c38_; have u2 := b37_; omega)
              have d40_ : Int32.toInt (M.1 125 (Int32.toNatClampNeg n1)) = Int32.toInt n2 := (zi_eq _ _).mp c38_
              refine pw_blk hT 2 (S' := (78, [some (pvR 124), some (pvI n1), some (pvI n2), some (pvI (M.1 125 (Int32.toNatClampNeg n1)))], [pvI (M.1 125 (Int32.toNatClampNeg n1))], M)) rfl ⟨trivial, trivial, trivial⟩ ?_
              exact pw_ret hT rfl (r := some (pvI (M.1 125 (Int32.toNatClampNeg n1)))) (M' := M) ⟨rfl, rfl⟩ ⟨⟨_, rfl, (zr_wide b39_ (by decide) (by decide))⟩, rfl⟩
            · refine pw_blk hT 2 (S' := (43, [some (pvR 124), some (pvI n1), some (pvI n2), some (pvI (M.1 125 (Int32.toNatClampNeg n1)))], [pvI 1, pvI n2], M)) rfl ⟨trivial, trivial, trivial⟩ ?_
              refine pw_icn hT (c := n2 = 1) rfl rfl (fun c41_ => ?_) (fun c41_ => ?_)
              · have b42_ : 2 ≤ Int32.toInt n2 ∧ Int32.toInt n2 ≤ 6 := (by have u0 := b37_; have u1 := (not_congr (zi_eq _ _)).mp c41_; have u2 := (show 1 ≤ Int32.toInt 1 ∧ Int32.toInt 1 ≤ 1 from (by decide)); omega)
                refine pw_blk hT 2 (S' := (53, [some (pvR 124), some (pvI n1), some (pvI n2), some (pvI (M.1 125 (Int32.toNatClampNeg n1)))], [pvI 2, pvI n2], M)) rfl ⟨trivial, trivial, trivial⟩ ?_
                refine pw_icn hT (c := n2 = 2) rfl rfl (fun c43_ => ?_) (fun c43_ => ?_)
                · have b44_ : 3 ≤ Int32.toInt n2 ∧ Int32.toInt n2 ≤ 6 := (by have u0 := b42_; have u1 := (not_congr (zi_eq _ _)).mp c43_; have u2 := (show 2 ≤ Int32.toInt 2 ∧ Int32.toInt 2 ≤ 2 from (by decide)); omega)
                  refine pw_blk hT 2 (S' := (63, [some (pvR 124), some (pvI n1), some (pvI n2), some (pvI (M.1 125 (Int32.toNatClampNeg n1)))], [pvI 3, pvI n2], M)) rfl ⟨trivial, trivial, trivial⟩ ?_
                  refine pw_icn hT (c := n2 = 3) rfl rfl (fun c45_ => ?_) (fun c45_ => ?_)
                  · have b46_ : 4 ≤ Int32.toInt n2 ∧ Int32.toInt n2 ≤ 6 := (by have u0 := b44_; have u1 := (not_congr (zi_eq _ _)).mp c45_; have u2 := (show 3 ≤ Int32.toInt 3 ∧ Int32.toInt 3 ≤ 3 from (by decide)); omega)
                    refine pw_blk hT 1 (S' := (78, [some (pvR 124), some (pvI n1), some (pvI n2), some (pvI (M.1 125 (Int32.toNatClampNeg n1)))], [pvI (-12)], M)) rfl ⟨trivial, trivial⟩ ?_
                    exact pw_ret hT rfl (r := some (pvI (-12))) (M' := M) ⟨rfl, rfl⟩ ⟨⟨_, rfl, (zr_wide (show (-12) ≤ Int32.toInt (-12) ∧ Int32.toInt (-12) ≤ (-12) from (by decide)) (by decide) (by decide))⟩, rfl⟩
                  · have b47_ : 3 ≤ Int32.toInt n2 ∧ Int32.toInt n2 ≤ 3 := (by have u0 := b44_; have u1 := (zi_eq _ _).mp c45_; have u2 := (show 3 ≤ Int32.toInt 3 ∧ Int32.toInt 3 ≤ 3 from (by decide)); omega)
                    refine pw_blk hT 2 (S' := (69, [some (pvR 124), some (pvI n1), some (pvI n2), some (pvI (M.1 125 (Int32.toNatClampNeg n1)))], [pvI 6, pvI (M.1 125 (Int32.toNatClampNeg n1))], M)) rfl ⟨trivial, trivial, trivial⟩ ?_
                    refine pw_icn hT (c := (M.1 125 (Int32.toNatClampNeg n1)) = 6) rfl rfl (fun c48_ => ?_) (fun c48_ => ?_)
                    · have b49_ : 0 ≤ Int32.toInt (M.1 125 (Int32.toNatClampNeg n1)) ∧ Int32.toInt (M.1 125 (Int32.toNatClampNeg n1)) ≤ 5 := (by have u0 := b34_; have u1 := (not_congr (zi_eq _ _)).mp c48_; have u2 := (show 6 ≤ Int32.toInt 6 ∧ Int32.toInt 6 ≤ 6 from (by decide)); omega)
                      refine pw_blk hT 1 (S' := (78, [some (pvR 124), some (pvI n1), some (pvI n2), some (pvI (M.1 125 (Int32.toNatClampNeg n1)))], [pvI (-12)], M)) rfl ⟨trivial, trivial⟩ ?_
                      exact pw_ret hT rfl (r := some (pvI (-12))) (M' := M) ⟨rfl, rfl⟩ ⟨⟨_, rfl, (zr_wide (show (-12) ≤ Int32.toInt (-12) ∧ Int32.toInt (-12) ≤ (-12) from (by decide)) (by decide) (by decide))⟩, rfl⟩
                    · have b50_ : 6 ≤ Int32.toInt (M.1 125 (Int32.toNatClampNeg n1)) ∧ Int32.toInt (M.1 125 (Int32.toNatClampNeg n1)) ≤ 6 := (by have u0 := b34_; have u1 := (zi_eq _ _).mp c48_; have u2 := (show 6 ≤ Int32.toInt 6 ∧ Int32.toInt 6 ≤ 6 from (by decide)); omega)
                      refine pw_blk hT 2 (S' := (78, [some (pvR 124), some (pvI n1), some (pvI n2), some (pvI (M.1 125 (Int32.toNatClampNeg n1)))], [pvI (M.1 125 (Int32.toNatClampNeg n1))], M)) rfl ⟨trivial, trivial, trivial⟩ ?_
                      exact pw_ret hT rfl (r := some (pvI (M.1 125 (Int32.toNatClampNeg n1)))) (M' := M) ⟨rfl, rfl⟩ ⟨⟨_, rfl, (zr_wide b50_ (by decide) (by decide))⟩, rfl⟩
                · have b51_ : 2 ≤ Int32.toInt n2 ∧ Int32.toInt n2 ≤ 2 := (by have u0 := b42_; have u1 := (zi_eq _ _).mp c43_; have u2 := (show 2 ≤ Int32.toInt 2 ∧ Int32.toInt 2 ≤ 2 from (by decide)); omega)
                  refine pw_blk hT 2 (S' := (58, [some (pvR 124), some (pvI n1), some (pvI n2), some (pvI (M.1 125 (Int32.toNatClampNeg n1)))], [pvI 5, pvI (M.1 125 (Int32.toNatClampNeg n1))], M)) rfl ⟨trivial, trivial, trivial⟩ ?_
                  refine pw_ic hT (c := (M.1 125 (Int32.toNatClampNeg n1)) = 5) rfl rfl (fun c52_ => ?_) (fun c52_ => ?_)
                  · have b53_ : 5 ≤ Int32.toInt (M.1 125 (Int32.toNatClampNeg n1)) ∧ Int32.toInt (M.1 125 (Int32.toNatClampNeg n1)) ≤ 5 := (by have u0 := b34_; have u1 := (zi_eq _ _).mp c52_; have u2 := (show 5 ≤ Int32.toInt 5 ∧ Int32.toInt 5 ≤ 5 from (by decide)); omega)
                    refine pw_blk hT 2 (S' := (78, [some (pvR 124), some (pvI n1), some (pvI n2), some (pvI (M.1 125 (Int32.toNatClampNeg n1)))], [pvI (M.1 125 (Int32.toNatClampNeg n1))], M)) rfl ⟨trivial, trivial, trivial⟩ ?_
                    exact pw_ret hT rfl (r := some (pvI (M.1 125 (Int32.toNatClampNeg n1)))) (M' := M) ⟨rfl, rfl⟩ ⟨⟨_, rfl, (zr_wide b53_ (by decide) (by decide))⟩, rfl⟩
                  · refine pw_blk hT 2 (S' := (63, [some (pvR 124), some (pvI n1), some (pvI n2), some (pvI (M.1 125 (Int32.toNatClampNeg n1)))], [pvI 3, pvI n2], M)) rfl ⟨trivial, trivial, trivial⟩ ?_
                    refine pw_icn hT (c := n2 = 3) rfl rfl (fun c54_ => ?_) (fun c54_ => absurd c54_ (by have z0 := b51_; have z1 := (show 3 ≤ Int32.toInt 3 ∧ Int32.toInt 3 ≤ 3 from (by decide)); rw [zi_eq]; omega))
                    refine pw_blk hT 1 (S' := (78, [some (pvR 124), some (pvI n1), some (pvI n2), some (pvI (M.1 125 (Int32.toNatClampNeg n1)))], [pvI (-12)], M)) rfl ⟨trivial, trivial⟩ ?_
                    exact pw_ret hT rfl (r := some (pvI (-12))) (M' := M) ⟨rfl, rfl⟩ ⟨⟨_, rfl, (zr_wide (show (-12) ≤ Int32.toInt (-12) ∧ Int32.toInt (-12) ≤ (-12) from (by decide)) (by decide) (by decide))⟩, rfl⟩
              · have b55_ : 1 ≤ Int32.toInt n2 ∧ Int32.toInt n2 ≤ 1 := (by have u0 := b37_; have u1 := (zi_eq _ _).mp c41_; have u2 := (show 1 ≤ Int32.toInt 1 ∧ Int32.toInt 1 ≤ 1 from (by decide)); omega)
                refine pw_blk hT 2 (S' := (48, [some (pvR 124), some (pvI n1), some (pvI n2), some (pvI (M.1 125 (Int32.toNatClampNeg n1)))], [pvI 4, pvI (M.1 125 (Int32.toNatClampNeg n1))], M)) rfl ⟨trivial, trivial, trivial⟩ ?_
                refine pw_ic hT (c := (M.1 125 (Int32.toNatClampNeg n1)) = 4) rfl rfl (fun c56_ => ?_) (fun c56_ => ?_)
                · have b57_ : 4 ≤ Int32.toInt (M.1 125 (Int32.toNatClampNeg n1)) ∧ Int32.toInt (M.1 125 (Int32.toNatClampNeg n1)) ≤ 4 := (by have u0 := b34_; have u1 := (zi_eq _ _).mp c56_; have u2 := (show 4 ≤ Int32.toInt 4 ∧ Int32.toInt 4 ≤ 4 from (by decide)); omega)
                  refine pw_blk hT 2 (S' := (78, [some (pvR 124), some (pvI n1), some (pvI n2), some (pvI (M.1 125 (Int32.toNatClampNeg n1)))], [pvI (M.1 125 (Int32.toNatClampNeg n1))], M)) rfl ⟨trivial, trivial, trivial⟩ ?_
                  exact pw_ret hT rfl (r := some (pvI (M.1 125 (Int32.toNatClampNeg n1)))) (M' := M) ⟨rfl, rfl⟩ ⟨⟨_, rfl, (zr_wide b57_ (by decide) (by decide))⟩, rfl⟩
                · refine pw_blk hT 2 (S' := (53, [some (pvR 124), some (pvI n1), some (pvI n2), some (pvI (M.1 125 (Int32.toNatClampNeg n1)))], [pvI 2, pvI n2], M)) rfl ⟨trivial, trivial, trivial⟩ ?_
                  refine pw_icn hT (c := n2 = 2) rfl rfl (fun c58_ => ?_) (fun c58_ => absurd c58_ (by have z0 := b55_; have z1 := (show 2 ≤ Int32.toInt 2 ∧ Int32.toInt 2 ≤ 2 from (by decide)); rw [zi_eq]; omega))
                  refine pw_blk hT 2 (S' := (63, [some (pvR 124), some (pvI n1), some (pvI n2), some (pvI (M.1 125 (Int32.toNatClampNeg n1)))], [pvI 3, pvI n2], M)) rfl ⟨trivial, trivial, trivial⟩ ?_
                  refine pw_icn hT (c := n2 = 3) rfl rfl (fun c59_ => ?_) (fun c59_ => absurd c59_ (by have z0 := b55_; have z1 := (show 3 ≤ Int32.toInt 3 ∧ Int32.toInt 3 ≤ 3 from (by decide)); rw [zi_eq]; omega))
                  refine pw_blk hT 1 (S' := (78, [some (pvR 124), some (pvI n1), some (pvI n2), some (pvI (M.1 125 (Int32.toNatClampNeg n1)))], [pvI (-12)], M)) rfl ⟨trivial, trivial⟩ ?_
                  exact pw_ret hT rfl (r := some (pvI (-12))) (M' := M) ⟨rfl, rfl⟩ ⟨⟨_, rfl, (zr_wide (show (-12) ≤ Int32.toInt (-12) ∧ Int32.toInt (-12) ≤ (-12) from (by decide)) (by decide) (by decide))⟩, rfl⟩
set_option maxHeartbeats 4000000 in
set_option maxRecDepth 10000 in
theorem sf_X10_told_124_x (M : pvM) (hok : pvOk M) (n1 : Int32) (d : Nat) : PW 91 d (0, [some (pvR 124), some (pvI n1)], [], M) (fun r X => (∃ x : Int32, r = some (pvI x) ∧ (-1) ≤ Int32.toInt x ∧ Int32.toInt x ≤ 999999) ∧ X = M) := by
  have hT : pvdom 91 = pvD_91 := rfl
  refine pw_blk hT 1 (S' := (1, [some (pvR 124), some (pvI n1)], [pvI n1], M)) rfl ⟨trivial, trivial⟩ ?_
  refine pw_sw hT rfl rfl ?_
  refine And.intro (fun c1_ => ?_) (fun c1_ => ?_)
  · show PW 91 d (52, [some (pvR 124), some (pvI n1)], [], M) _
    have b2_ : 0 ≤ Int32.toInt n1 ∧ Int32.toInt n1 ≤ 0 := (by have u0 := (zbnd n1); have u1 := (zi_eq _ _).mp c1_; have u2 := (show 0 ≤ Int32.toInt 0 ∧ Int32.toInt 0 ≤ 0 from (by decide)); omega)
    have b3_ : 0 ≤ Int32.toInt (M.1 124 1) ∧ Int32.toInt (M.1 124 1) ≤ 9999 := pvok_r hok 124 1 rfl
    refine pw_blk hT 2 (S' := (56, [some (pvR 124), some (pvI n1)], [pvI (M.1 124 1)], M)) rfl ⟨trivial, rfl, trivial⟩ ?_
    exact pw_ret hT rfl (r := some (pvI (M.1 124 1))) (M' := M) ⟨rfl, rfl⟩ ⟨⟨_, rfl, (zr_wide b3_ (by decide) (by decide))⟩, rfl⟩
  · refine And.intro (fun c4_ => ?_) (fun c4_ => ?_)
    · show PW 91 d (57, [some (pvR 124), some (pvI n1)], [], M) _
      have b5_ : 1 ≤ Int32.toInt n1 ∧ Int32.toInt n1 ≤ 1 := (by have u0 := (zbnd n1); have u1 := (zi_eq _ _).mp c4_; have u2 := (show 1 ≤ Int32.toInt 1 ∧ Int32.toInt 1 ≤ 1 from (by decide)); omega)
      have b6_ : 0 ≤ Int32.toInt (M.1 124 2) ∧ Int32.toInt (M.1 124 2) ≤ 999999 := pvok_r hok 124 2 rfl
      refine pw_blk hT 2 (S' := (61, [some (pvR 124), some (pvI n1)], [pvI (M.1 124 2)], M)) rfl ⟨trivial, rfl, trivial⟩ ?_
      exact pw_ret hT rfl (r := some (pvI (M.1 124 2))) (M' := M) ⟨rfl, rfl⟩ ⟨⟨_, rfl, (zr_wide b6_ (by decide) (by decide))⟩, rfl⟩
    · refine And.intro (fun c7_ => ?_) (fun c7_ => ?_)
      · show PW 91 d (62, [some (pvR 124), some (pvI n1)], [], M) _
        have b8_ : 2 ≤ Int32.toInt n1 ∧ Int32.toInt n1 ≤ 2 := (by have u0 := (zbnd n1); have u1 := (zi_eq _ _).mp c7_; have u2 := (show 2 ≤ Int32.toInt 2 ∧ Int32.toInt 2 ≤ 2 from (by decide)); omega)
        have b9_ : 0 ≤ Int32.toInt (M.1 124 3) ∧ Int32.toInt (M.1 124 3) ≤ 108 := pvok_r hok 124 3 rfl
        refine pw_blk hT 2 (S' := (66, [some (pvR 124), some (pvI n1)], [pvI (M.1 124 3)], M)) rfl ⟨trivial, rfl, trivial⟩ ?_
        exact pw_ret hT rfl (r := some (pvI (M.1 124 3))) (M' := M) ⟨rfl, rfl⟩ ⟨⟨_, rfl, (zr_wide b9_ (by decide) (by decide))⟩, rfl⟩
      · refine And.intro (fun c10_ => ?_) (fun c10_ => ?_)
        · show PW 91 d (67, [some (pvR 124), some (pvI n1)], [], M) _
          have b11_ : 3 ≤ Int32.toInt n1 ∧ Int32.toInt n1 ≤ 3 := (by have u0 := (zbnd n1); have u1 := (zi_eq _ _).mp c10_; have u2 := (show 3 ≤ Int32.toInt 3 ∧ Int32.toInt 3 ≤ 3 from (by decide)); omega)
          have b12_ : 0 ≤ Int32.toInt (M.1 124 4) ∧ Int32.toInt (M.1 124 4) ≤ 4 := pvok_r hok 124 4 rfl
          refine pw_blk hT 2 (S' := (71, [some (pvR 124), some (pvI n1)], [pvI (M.1 124 4)], M)) rfl ⟨trivial, rfl, trivial⟩ ?_
          exact pw_ret hT rfl (r := some (pvI (M.1 124 4))) (M' := M) ⟨rfl, rfl⟩ ⟨⟨_, rfl, (zr_wide b12_ (by decide) (by decide))⟩, rfl⟩
        · refine And.intro (fun c13_ => ?_) (fun c13_ => ?_)
          · show PW 91 d (72, [some (pvR 124), some (pvI n1)], [], M) _
            have b14_ : 4 ≤ Int32.toInt n1 ∧ Int32.toInt n1 ≤ 4 := (by have u0 := (zbnd n1); have u1 := (zi_eq _ _).mp c13_; have u2 := (show 4 ≤ Int32.toInt 4 ∧ Int32.toInt 4 ≤ 4 from (by decide)); omega)
            refine pw_blk hT 3 (S' := (75, [some (pvR 124), some (pvI n1)], [pvI 2, pvI 2, pvR 124], M)) rfl ⟨trivial, trivial, trivial, trivial⟩ ?_
            refine pw_callGp hT (as := [pvR 124, pvI 2, pvI 2]) (lo1 := [some (pvR 124), some (pvI 2), some (pvI 2), none, none]) (d1 := d) (rest := []) rfl rfl rfl rfl rfl (fun _ => rfl) (Nat.zero_le _) rfl rfl rfl (sf_X10_lastOf_124_x_x M hok 2 2 (zr_wide (show 2 ≤ Int32.toInt 2 ∧ Int32.toInt 2 ≤ 2 from (by decide)) (by decide) (by decide)) (zr_wide (show 2 ≤ Int32.toInt 2 ∧ Int32.toInt 2 ≤ 2 from (by decide)) (by decide) (by decide)) d) (fun x15_ b17_ => ?_)
            exact pw_ret hT rfl (r := some (pvI x15_)) (M' := M) ⟨rfl, rfl⟩ ⟨⟨_, rfl, (zr_wide b17_ (by decide) (by decide))⟩, rfl⟩
          · refine And.intro (fun c20_ => ?_) (fun c20_ => ?_)
            · show PW 91 d (79, [some (pvR 124), some (pvI n1)], [], M) _
              have b21_ : 5 ≤ Int32.toInt n1 ∧ Int32.toInt n1 ≤ 5 := (by have u0 := (zbnd n1); have u1 := (zi_eq _ _).mp c20_; have u2 := (show 5 ≤ Int32.toInt 5 ∧ Int32.toInt 5 ≤ 5 from (by decide)); omega)
              refine pw_blk hT 1 (S' := (80, [some (pvR 124), some (pvI n1)], [pvR 124], M)) rfl ⟨trivial, trivial⟩ ?_
              refine pw_callGp hT (as := [pvR 124]) (lo1 := [some (pvR 124)]) (d1 := d) (rest := []) rfl rfl rfl rfl rfl (fun _ => rfl) (Nat.zero_le _) rfl rfl rfl (sf_X10_lastNow_124 M hok d) (fun x22_ b24_ => ?_)
              exact pw_ret hT rfl (r := some (pvI x22_)) (M' := M) ⟨rfl, rfl⟩ ⟨⟨_, rfl, (zr_wide b24_ (by decide) (by decide))⟩, rfl⟩
            · refine And.intro (fun c27_ => ?_) (fun c27_ => ?_)
              · show PW 91 d (84, [some (pvR 124), some (pvI n1)], [], M) _
                have b28_ : 6 ≤ Int32.toInt n1 ∧ Int32.toInt n1 ≤ 6 := (by have u0 := (zbnd n1); have u1 := (zi_eq _ _).mp c27_; have u2 := (show 6 ≤ Int32.toInt 6 ∧ Int32.toInt 6 ≤ 6 from (by decide)); omega)
                have b29_ : 0 ≤ Int32.toInt (M.1 124 5) ∧ Int32.toInt (M.1 124 5) ≤ 3 := pvok_r hok 124 5 rfl
                refine pw_blk hT 2 (S' := (88, [some (pvR 124), some (pvI n1)], [pvI (M.1 124 5)], M)) rfl ⟨trivial, rfl, trivial⟩ ?_
                exact pw_ret hT rfl (r := some (pvI (M.1 124 5))) (M' := M) ⟨rfl, rfl⟩ ⟨⟨_, rfl, (zr_wide b29_ (by decide) (by decide))⟩, rfl⟩
              · refine And.intro (fun c30_ => ?_) (fun c30_ => ?_)
                · show PW 91 d (89, [some (pvR 124), some (pvI n1)], [], M) _
                  have b31_ : 7 ≤ Int32.toInt n1 ∧ Int32.toInt n1 ≤ 7 := (by have u0 := (zbnd n1); have u1 := (zi_eq _ _).mp c30_; have u2 := (show 7 ≤ Int32.toInt 7 ∧ Int32.toInt 7 ≤ 7 from (by decide)); omega)
                  have b32_ : 0 ≤ Int32.toInt (M.1 124 6) ∧ Int32.toInt (M.1 124 6) ≤ 4 := pvok_r hok 124 6 rfl
                  refine pw_blk hT 2 (S' := (93, [some (pvR 124), some (pvI n1)], [pvI (M.1 124 6)], M)) rfl ⟨trivial, rfl, trivial⟩ ?_
                  exact pw_ret hT rfl (r := some (pvI (M.1 124 6))) (M' := M) ⟨rfl, rfl⟩ ⟨⟨_, rfl, (zr_wide b32_ (by decide) (by decide))⟩, rfl⟩
                · refine And.intro (fun c33_ => ?_) (fun c33_ => ?_)
                  · show PW 91 d (94, [some (pvR 124), some (pvI n1)], [], M) _
                    have b34_ : 8 ≤ Int32.toInt n1 ∧ Int32.toInt n1 ≤ 8 := (by have u0 := (zbnd n1); have u1 := (zi_eq _ _).mp c33_; have u2 := (show 8 ≤ Int32.toInt 8 ∧ Int32.toInt 8 ≤ 8 from (by decide)); omega)
                    refine pw_blk hT 1 (S' := (95, [some (pvR 124), some (pvI n1)], [pvR 124], M)) rfl ⟨trivial, trivial⟩ ?_
                    refine pw_callGp hT (as := [pvR 124]) (lo1 := [some (pvR 124), none, none]) (d1 := d) (rest := []) rfl rfl rfl rfl rfl (fun _ => rfl) (Nat.zero_le _) rfl rfl rfl (sf_X10_openSet_124 M hok d) (fun x35_ b37_ => ?_)
                    exact pw_ret hT rfl (r := some (pvI x35_)) (M' := M) ⟨rfl, rfl⟩ ⟨⟨_, rfl, (zr_wide b37_ (by decide) (by decide))⟩, rfl⟩
                  · show PW 91 d (99, [some (pvR 124), some (pvI n1)], [], M) _
                    refine pw_blk hT 1 (S' := (100, [some (pvR 124), some (pvI n1)], [pvI (-1)], M)) rfl ⟨trivial, trivial⟩ ?_
                    exact pw_ret hT rfl (r := some (pvI (-1))) (M' := M) ⟨rfl, rfl⟩ ⟨⟨_, rfl, (zr_wide (show (-1) ≤ Int32.toInt (-1) ∧ Int32.toInt (-1) ≤ (-1) from (by decide)) (by decide) (by decide))⟩, rfl⟩
set_option maxHeartbeats 4000000 in
set_option maxRecDepth 10000 in
theorem sf_X10_trace_124_x (M : pvM) (hok : pvOk M) (n1 : Int32) (d : Nat) : PW 92 d (0, [some (pvR 124), some (pvI n1)], [], M) (fun r X => r = some (pvI ((if n1 < 0 then (-1) else (if 19 < n1 then (-1) else (if (M.1 124 70) ≤ n1 then (-1) else (M.1 163 (Int32.toNatClampNeg n1))))))) ∧ X = M) := by
  have hT : pvdom 92 = pvD_92 := rfl
  refine pw_blk hT 4 (S' := (5, [some (pvR 124), some (pvI n1)], [pvI 19, pvI 0, pvI n1, pvR 124], M)) rfl ⟨trivial, trivial, trivial, trivial, trivial⟩ ?_
  refine pw_callT hT (as := [pvR 124, pvI n1, pvI 0, pvI 19]) (lo1 := [some (pvR 124), some (pvI n1), some (pvI 0), some (pvI 19)]) (d1 := d) (rest := []) rfl rfl rfl rfl rfl (fun _ => rfl) (Nat.zero_le _) rfl rfl rfl (sf_X10_in_124_x_x_x M hok n1 0 19 d) ?_
  by_cases c6_ : n1 < 0
  · refine pw_eqI (if_pos c6_) ?_
    have b7_ : (-2147483648) ≤ Int32.toInt n1 ∧ Int32.toInt n1 ≤ (-1) := zr_lt_l (-1) c6_ (zbnd n1) (show 0 ≤ Int32.toInt 0 ∧ Int32.toInt 0 ≤ 0 from (by decide)) (by decide)
    show PW 92 d (8, [some (pvR 124), some (pvI n1)], [pvI 0], M) _
    refine pw_if hT (c := 0 = 0) rfl rfl (fun c8_ => ?_) (fun c8_ => absurd (by decide) c8_)
    refine pw_blk hT 1 (S' := (29, [some (pvR 124), some (pvI n1)], [pvI (-1)], M)) rfl ⟨trivial, trivial⟩ ?_
    exact pw_ret hT rfl (r := some (pvI (-1))) (M' := M) ⟨rfl, rfl⟩ ⟨(by rw [if_pos c6_]), rfl⟩
  · refine pw_eqI (if_neg c6_) ?_
    have b9_ : 0 ≤ Int32.toInt n1 ∧ Int32.toInt n1 ≤ 2147483647 := zr_nlt_l 0 c6_ (zbnd n1) (show 0 ≤ Int32.toInt 0 ∧ Int32.toInt 0 ≤ 0 from (by decide)) (by decide)
    by_cases c10_ : 19 < n1
    · refine pw_eqI (if_pos c10_) ?_
      have b11_ : 20 ≤ Int32.toInt n1 ∧ Int32.toInt n1 ≤ 2147483647 := zr_lt_r 20 c10_ b9_ (show 19 ≤ Int32.toInt 19 ∧ Int32.toInt 19 ≤ 19 from (by decide)) (by decide)
      show PW 92 d (8, [some (pvR 124), some (pvI n1)], [pvI 0], M) _
      refine pw_if hT (c := 0 = 0) rfl rfl (fun c12_ => ?_) (fun c12_ => absurd (by decide) c12_)
      refine pw_blk hT 1 (S' := (29, [some (pvR 124), some (pvI n1)], [pvI (-1)], M)) rfl ⟨trivial, trivial⟩ ?_
      exact pw_ret hT rfl (r := some (pvI (-1))) (M' := M) ⟨rfl, rfl⟩ ⟨(by rw [if_neg c6_, if_pos c10_]), rfl⟩
    · refine pw_eqI (if_neg c10_) ?_
      have b13_ : 0 ≤ Int32.toInt n1 ∧ Int32.toInt n1 ≤ 19 := zr_nlt_r 19 c10_ b9_ (show 19 ≤ Int32.toInt 19 ∧ Int32.toInt 19 ≤ 19 from (by decide)) (by decide)
      show PW 92 d (8, [some (pvR 124), some (pvI n1)], [pvI 1], M) _
      refine pw_if hT (c := 1 = 0) rfl rfl (fun c14_ => absurd c14_ (by decide)) (fun c14_ => ?_)
      have b15_ : 0 ≤ Int32.toInt (M.1 124 70) ∧ Int32.toInt (M.1 124 70) ≤ 1000000 := pvok_r hok 124 70 rfl
      refine pw_blk hT 3 (S' := (16, [some (pvR 124), some (pvI n1)], [pvI (M.1 124 70), pvI n1], M)) rfl ⟨trivial, trivial, rfl, trivial⟩ ?_
      refine pw_ic hT (c := (M.1 124 70) ≤ n1) rfl rfl (fun c16_ => ?_) (fun c16_ => ?_)
      · have b17_ : 0 ≤ Int32.toInt (M.1 124 70) ∧ Int32.toInt (M.1 124 70) ≤ 19 := zr_le_l 19 c16_ b15_ b13_ (by decide)
        have d18_ : Int32.toInt (M.1 124 70) ≤ Int32.toInt n1 := (zi_le _ _).mp c16_
        refine pw_blk hT 1 (S' := (29, [some (pvR 124), some (pvI n1)], [pvI (-1)], M)) rfl ⟨trivial, trivial⟩ ?_
        exact pw_ret hT rfl (r := some (pvI (-1))) (M' := M) ⟨rfl, rfl⟩ ⟨(by rw [if_neg c6_, if_neg c10_, if_pos c16_]), rfl⟩
      · have b19_ : 1 ≤ Int32.toInt (M.1 124 70) ∧ Int32.toInt (M.1 124 70) ≤ 1000000 := zr_nle_l 1 c16_ b15_ b13_ (by decide)
        have d20_ : Int32.toInt (M.1 124 70) > Int32.toInt n1 := Int.not_le.mp ((not_congr (zi_le _ _)).mp c16_)
        refine pw_blk hT 5 (S' := (29, [some (pvR 124), some (pvI n1)], [pvI (M.1 163 (Int32.toNatClampNeg n1))], M)) rfl ⟨trivial, rfl, trivial, ⟨rfl, (zr_in (n := 20) b13_ (by decide) (by decide))⟩, trivial, trivial⟩ ?_
        exact pw_ret hT rfl (r := some (pvI (M.1 163 (Int32.toNatClampNeg n1)))) (M' := M) ⟨rfl, rfl⟩ ⟨(by rw [if_neg c6_, if_neg c10_, if_neg c16_]), rfl⟩
def fpL_X10_two_124_x : List (Nat × Nat × Nat) := [(0, 124, 33), (0, 124, 36), (0, 141, 0), (0, 142, 0), (0, 143, 0), (0, 144, 0)]
def fp_X10_two_124_x (q k : Nat) : Bool := pvfp fpL_X10_two_124_x q k
theorem fp_X10_two_124_x_fp_X10_goes_124_x_x_x (a b : Nat) (h : fp_X10_goes_124_x_x_x a b = true) : fp_X10_two_124_x a b = true := pvfp_sub (l1 := fpL_X10_goes_124_x_x_x) (l2 := fpL_X10_two_124_x) (by decide) a b h
theorem fp_X10_two_124_x_fp_X10_layOpen_124 (a b : Nat) (h : fp_X10_layOpen_124 a b = true) : fp_X10_two_124_x a b = true := pvfp_sub (l1 := fpL_X10_layOpen_124) (l2 := fpL_X10_two_124_x) (by decide) a b h
theorem fp_X10_two_124_x_fp_X10_layRain_124 (a b : Nat) (h : fp_X10_layRain_124 a b = true) : fp_X10_two_124_x a b = true := pvfp_sub (l1 := fpL_X10_layRain_124) (l2 := fpL_X10_two_124_x) (by decide) a b h
theorem fp_X10_two_124_x_fp_X10_layRound_124 (a b : Nat) (h : fp_X10_layRound_124 a b = true) : fp_X10_two_124_x a b = true := pvfp_sub (l1 := fpL_X10_layRound_124) (l2 := fpL_X10_two_124_x) (by decide) a b h
set_option maxHeartbeats 4000000 in
set_option maxRecDepth 10000 in
theorem sf_X10_two_124_x (M : pvM) (hok : pvOk M) (n1 : Int32) (hz : pvWF M) (d : Nat) : PW 93 d (0, [some (pvR 124), some (pvI n1), none, none, none], [], M) (fun r X => (∃ x : Int32, r = some (pvI x) ∧ (-1) ≤ Int32.toInt x ∧ Int32.toInt x ≤ 9000000) ∧ pvOk X ∧ pvFr fp_X10_two_124_x M X) := by
  have hT : pvdom 93 = pvD_93 := rfl
  refine pw_blk hT 4 (S' := (4, [some (pvR 124), some (pvI n1), none, none, none], [pvI 1, pvI 0, pvI n1, pvR 124], M)) rfl ⟨trivial, trivial, trivial, trivial, trivial⟩ ?_
  refine pw_callT hT (as := [pvR 124, pvI n1, pvI 0, pvI 1]) (lo1 := [some (pvR 124), some (pvI n1), some (pvI 0), some (pvI 1)]) (d1 := d) (rest := []) rfl rfl rfl rfl rfl (fun _ => rfl) (Nat.zero_le _) rfl rfl rfl (sf_X10_in_124_x_x_x M hok n1 0 1 d) ?_
  by_cases c6_ : n1 < 0
  · refine pw_eqI (if_pos c6_) ?_
    have b7_ : (-2147483648) ≤ Int32.toInt n1 ∧ Int32.toInt n1 ≤ (-1) := zr_lt_l (-1) c6_ (zbnd n1) (show 0 ≤ Int32.toInt 0 ∧ Int32.toInt 0 ≤ 0 from (by decide)) (by decide)
    show PW 93 d (7, [some (pvR 124), some (pvI n1), none, none, none], [pvI 0], M) _
    refine pw_ifn hT (c := 0 = 0) rfl rfl (fun c8_ => absurd (by decide) c8_) (fun c8_ => ?_)
    refine pw_blk hT 1 (S' := (11, [some (pvR 124), some (pvI n1), none, none, none], [pvI (-1)], M)) rfl ⟨trivial, trivial⟩ ?_
    exact pw_ret hT rfl (r := some (pvI (-1))) (M' := M) ⟨rfl, rfl⟩ ⟨⟨_, rfl, (zr_wide (show (-1) ≤ Int32.toInt (-1) ∧ Int32.toInt (-1) ≤ (-1) from (by decide)) (by decide) (by decide))⟩, hok, pvfr_0⟩
  · refine pw_eqI (if_neg c6_) ?_
    have b9_ : 0 ≤ Int32.toInt n1 ∧ Int32.toInt n1 ≤ 2147483647 := zr_nlt_l 0 c6_ (zbnd n1) (show 0 ≤ Int32.toInt 0 ∧ Int32.toInt 0 ≤ 0 from (by decide)) (by decide)
    by_cases c10_ : 1 < n1
    · refine pw_eqI (if_pos c10_) ?_
      have b11_ : 2 ≤ Int32.toInt n1 ∧ Int32.toInt n1 ≤ 2147483647 := zr_lt_r 2 c10_ b9_ (show 1 ≤ Int32.toInt 1 ∧ Int32.toInt 1 ≤ 1 from (by decide)) (by decide)
      show PW 93 d (7, [some (pvR 124), some (pvI n1), none, none, none], [pvI 0], M) _
      refine pw_ifn hT (c := 0 = 0) rfl rfl (fun c12_ => absurd (by decide) c12_) (fun c12_ => ?_)
      refine pw_blk hT 1 (S' := (11, [some (pvR 124), some (pvI n1), none, none, none], [pvI (-1)], M)) rfl ⟨trivial, trivial⟩ ?_
      exact pw_ret hT rfl (r := some (pvI (-1))) (M' := M) ⟨rfl, rfl⟩ ⟨⟨_, rfl, (zr_wide (show (-1) ≤ Int32.toInt (-1) ∧ Int32.toInt (-1) ≤ (-1) from (by decide)) (by decide) (by decide))⟩, hok, pvfr_0⟩
    · refine pw_eqI (if_neg c10_) ?_
      have b13_ : 0 ≤ Int32.toInt n1 ∧ Int32.toInt n1 ≤ 1 := zr_nlt_r 1 c10_ b9_ (show 1 ≤ Int32.toInt 1 ∧ Int32.toInt 1 ≤ 1 from (by decide)) (by decide)
      show PW 93 d (7, [some (pvR 124), some (pvI n1), none, none, none], [pvI 1], M) _
      refine pw_ifn hT (c := 1 = 0) rfl rfl (fun c14_ => ?_) (fun c14_ => absurd c14_ (by decide))
      refine pw_blk hT 1 (S' := (13, [some (pvR 124), some (pvI n1), none, none, none], [pvR 124], M)) rfl ⟨trivial, trivial⟩ ?_
      refine pw_callV hT (as := [pvR 124]) (lo1 := [some (pvR 124), none, none]) (d1 := d) (rest := []) rfl rfl rfl rfl rfl (fun _ => rfl) (Nat.zero_le _) rfl rfl rfl (sf_X10_layRain_124 M hok hz d) (fun M16_ o18_ g19_ => ?_)
      have f20_ : pvFr fp_X10_two_124_x M M16_ := pvfr_t g19_ pvfr_0 fp_X10_two_124_x_fp_X10_layRain_124
      refine pw_blk hT 1 (S' := (17, [some (pvR 124), some (pvI n1), none, none, none], [pvR 124], M16_)) rfl ⟨trivial, trivial⟩ ?_
      refine pw_callV hT (as := [pvR 124]) (lo1 := [some (pvR 124), none]) (d1 := d) (rest := []) rfl rfl rfl rfl rfl (fun _ => rfl) (Nat.zero_le _) rfl rfl rfl (sf_X10_layRound_124 M16_ o18_ d) (fun M22_ o24_ g25_ => ?_)
      have f26_ : pvFr fp_X10_two_124_x M M22_ := pvfr_t g25_ f20_ fp_X10_two_124_x_fp_X10_layRound_124
      refine pw_blk hT 1 (S' := (21, [some (pvR 124), some (pvI n1), none, none, none], [pvR 124], M22_)) rfl ⟨trivial, trivial⟩ ?_
      refine pw_callV hT (as := [pvR 124]) (lo1 := [some (pvR 124), none]) (d1 := d) (rest := []) rfl rfl rfl rfl rfl (fun _ => rfl) (Nat.zero_le _) rfl rfl rfl (sf_X10_layOpen_124 M22_ o24_ d) (fun M28_ o30_ g31_ => ?_)
      have f32_ : pvFr fp_X10_two_124_x M M28_ := pvfr_t g31_ f26_ fp_X10_two_124_x_fp_X10_layOpen_124
      have b33_ : 0 ≤ Int32.toInt (M28_.1 124 37) ∧ Int32.toInt (M28_.1 124 37) ≤ 7 := pvok_r o30_ 124 37 rfl
      have q34_ : Int32.toInt ((M28_.1 124 37) / 2) = Int32.toInt (M28_.1 124 37) / 2 := by have u0 := b33_; have u := zdiv_p (M28_.1 124 37) 2 (by omega) (by decide) (by decide); have e0 : nI 2 = (2 : Int32) := rfl; rw [e0] at u; omega
      have b35_ : 0 ≤ Int32.toInt ((M28_.1 124 37) / 2) ∧ Int32.toInt ((M28_.1 124 37) / 2) ≤ 3 := (by have u0 := b33_; omega)
      obtain ⟨q37_, b36_⟩ : (Int32.toInt ((M28_.1 124 37) - ((M28_.1 124 37) / 2)) = Int32.toInt (M28_.1 124 37) - Int32.toInt ((M28_.1 124 37) / 2)) ∧ ((-3) ≤ Int32.toInt ((M28_.1 124 37) - ((M28_.1 124 37) / 2)) ∧ Int32.toInt ((M28_.1 124 37) - ((M28_.1 124 37) / 2)) ≤ 7) := zsub_r (M28_.1 124 37) ((M28_.1 124 37) / 2) (-3) 7 b33_ b35_ (by decide) (by decide) (by decide) (by decide)
      have b38_ : 0 ≤ Int32.toInt (M28_.1 124 1) ∧ Int32.toInt (M28_.1 124 1) ≤ 9999 := pvok_r o30_ 124 1 rfl
      refine pw_blk hT 13 (S' := (43, [some (pvR 124), some (pvI n1), some (pvI ((M28_.1 124 37) - ((M28_.1 124 37) / 2))), none, none], [pvI (M28_.1 124 1), pvI ((M28_.1 124 37) - ((M28_.1 124 37) / 2)), pvI 0, pvR 124], M28_)) rfl ⟨trivial, rfl, trivial, rfl, trivial, (by decide), trivial, trivial, trivial, trivial, trivial, trivial, rfl, trivial⟩ ?_
      refine pw_callG hT (as := [pvR 124, pvI 0, pvI ((M28_.1 124 37) - ((M28_.1 124 37) / 2)), pvI (M28_.1 124 1)]) (lo1 := [some (pvR 124), some (pvI 0), some (pvI ((M28_.1 124 37) - ((M28_.1 124 37) / 2))), some (pvI (M28_.1 124 1)), none, none, none, none, none]) (d1 := d) (rest := []) rfl rfl rfl rfl rfl (fun _ => rfl) (Nat.zero_le _) rfl rfl rfl (sf_X10_goes_124_x_x_x M28_ o30_ 0 ((M28_.1 124 37) - ((M28_.1 124 37) / 2)) (M28_.1 124 1) (zr_wide (show 0 ≤ Int32.toInt 0 ∧ Int32.toInt 0 ≤ 0 from (by decide)) (by decide) (by decide)) (by have u0 := b36_; omega) (zr_wide b38_ (by decide) (by decide)) d) (fun x39_ M40_ b41_ o42_ g43_ => ?_)
      have f44_ : pvFr fp_X10_two_124_x M M40_ := pvfr_t g43_ f32_ fp_X10_two_124_x_fp_X10_goes_124_x_x_x
      have b45_ : 0 ≤ Int32.toInt (M40_.1 124 37) ∧ Int32.toInt (M40_.1 124 37) ≤ 7 := pvok_r o42_ 124 37 rfl
      have b46_ : 0 ≤ Int32.toInt (M40_.1 124 1) ∧ Int32.toInt (M40_.1 124 1) ≤ 9999 := pvok_r o42_ 124 1 rfl
      refine pw_blk hT 7 (S' := (57, [some (pvR 124), some (pvI n1), some (pvI ((M28_.1 124 37) - ((M28_.1 124 37) / 2))), some (pvI x39_), none], [pvI (M40_.1 124 1), pvI (M40_.1 124 37), pvI ((M28_.1 124 37) - ((M28_.1 124 37) / 2)), pvR 124], M40_)) rfl ⟨trivial, trivial, trivial, trivial, rfl, trivial, rfl, trivial⟩ ?_
      refine pw_callG hT (as := [pvR 124, pvI ((M28_.1 124 37) - ((M28_.1 124 37) / 2)), pvI (M40_.1 124 37), pvI (M40_.1 124 1)]) (lo1 := [some (pvR 124), some (pvI ((M28_.1 124 37) - ((M28_.1 124 37) / 2))), some (pvI (M40_.1 124 37)), some (pvI (M40_.1 124 1)), none, none, none, none, none]) (d1 := d) (rest := []) rfl rfl rfl rfl rfl (fun _ => rfl) (Nat.zero_le _) rfl rfl rfl (sf_X10_goes_124_x_x_x M40_ o42_ ((M28_.1 124 37) - ((M28_.1 124 37) / 2)) (M40_.1 124 37) (M40_.1 124 1) (by have u0 := b36_; omega) b45_ (zr_wide b46_ (by decide) (by decide)) d) (fun x47_ M48_ b49_ o50_ g51_ => ?_)
      have f52_ : pvFr fp_X10_two_124_x M M48_ := pvfr_t g51_ f44_ fp_X10_two_124_x_fp_X10_goes_124_x_x_x
      refine pw_blk hT 2 (S' := (63, [some (pvR 124), some (pvI n1), some (pvI ((M28_.1 124 37) - ((M28_.1 124 37) / 2))), some (pvI x39_), some (pvI x47_)], [pvI n1], M48_)) rfl ⟨trivial, trivial, trivial⟩ ?_
      refine pw_ifn hT (c := n1 = 0) rfl rfl (fun c53_ => ?_) (fun c53_ => ?_)
      · have b54_ : 1 ≤ Int32.toInt n1 ∧ Int32.toInt n1 ≤ 1 := (by have u0 := b13_; have u1 := (not_congr (zi_eq _ _)).mp c53_; have u2 := (show 0 ≤ Int32.toInt 0 ∧ Int32.toInt 0 ≤ 0 from (by decide)); omega)
        refine pw_blk hT 2 (S' := (76, [some (pvR 124), some (pvI n1), some (pvI ((M28_.1 124 37) - ((M28_.1 124 37) / 2))), some (pvI x39_), some (pvI x47_)], [pvI x47_, pvI x39_], M48_)) rfl ⟨trivial, trivial, trivial⟩ ?_
        refine pw_ic hT (c := x39_ ≤ x47_) rfl rfl (fun c55_ => ?_) (fun c55_ => ?_)
        · have d56_ : Int32.toInt x39_ ≤ Int32.toInt x47_ := (zi_le _ _).mp c55_
          refine pw_blk hT 1 (S' := (85, [some (pvR 124), some (pvI n1), some (pvI ((M28_.1 124 37) - ((M28_.1 124 37) / 2))), some (pvI x39_), some (pvI x47_)], [pvI x47_], M48_)) rfl ⟨trivial, trivial⟩ ?_
          exact pw_ret hT rfl (r := some (pvI x47_)) (M' := M48_) ⟨rfl, rfl⟩ ⟨⟨_, rfl, (zr_wide b49_ (by decide) (by decide))⟩, o50_, f52_⟩
        · have b57_ : 1 ≤ Int32.toInt x39_ ∧ Int32.toInt x39_ ≤ 64000 := zr_nle_l 1 c55_ b41_ b49_ (by decide)
          have b58_ : 0 ≤ Int32.toInt x47_ ∧ Int32.toInt x47_ ≤ 63999 := zr_nle_r 63999 c55_ b49_ b57_ (by decide)
          have d59_ : Int32.toInt x39_ > Int32.toInt x47_ := Int.not_le.mp ((not_congr (zi_le _ _)).mp c55_)
          refine pw_blk hT 2 (S' := (85, [some (pvR 124), some (pvI n1), some (pvI ((M28_.1 124 37) - ((M28_.1 124 37) / 2))), some (pvI x39_), some (pvI x47_)], [pvI x39_], M48_)) rfl ⟨trivial, trivial, trivial⟩ ?_
          exact pw_ret hT rfl (r := some (pvI x39_)) (M' := M48_) ⟨rfl, rfl⟩ ⟨⟨_, rfl, (zr_wide b57_ (by decide) (by decide))⟩, o50_, f52_⟩
      · have b60_ : 0 ≤ Int32.toInt n1 ∧ Int32.toInt n1 ≤ 0 := (by have u0 := b13_; have u1 := (zi_eq _ _).mp c53_; have u2 := (show 0 ≤ Int32.toInt 0 ∧ Int32.toInt 0 ≤ 0 from (by decide)); omega)
        refine pw_blk hT 1 (S' := (67, [some (pvR 124), some (pvI n1), some (pvI ((M28_.1 124 37) - ((M28_.1 124 37) / 2))), some (pvI x39_), some (pvI x47_)], [pvR 124], M48_)) rfl ⟨trivial, trivial⟩ ?_
        refine pw_callGp hT (as := [pvR 124]) (lo1 := [some (pvR 124)]) (d1 := d) (rest := []) rfl rfl rfl rfl rfl (fun _ => rfl) (Nat.zero_le _) rfl rfl rfl (sf_X10_harmTillEnd_124 M48_ o50_ d) (fun x61_ b63_ => ?_)
        refine pw_blk hT 1 (S' := (85, [some (pvR 124), some (pvI n1), some (pvI ((M28_.1 124 37) - ((M28_.1 124 37) / 2))), some (pvI x39_), some (pvI x47_)], [pvI x61_], M48_)) rfl ⟨trivial, trivial⟩ ?_
        exact pw_ret hT rfl (r := some (pvI x61_)) (M' := M48_) ⟨rfl, rfl⟩ ⟨⟨_, rfl, (zr_wide b63_ (by decide) (by decide))⟩, o50_, f52_⟩
def fpL_X10_worth_124_x : List (Nat × Nat × Nat) := [(0, 124, 33), (0, 131, 0), (0, 141, 0), (0, 142, 0), (0, 143, 0)]
def fp_X10_worth_124_x (q k : Nat) : Bool := pvfp fpL_X10_worth_124_x q k
theorem fp_X10_worth_124_x_fp_X10_costOfNone_124 (a b : Nat) (h : fp_X10_costOfNone_124 a b = true) : fp_X10_worth_124_x a b = true := pvfp_sub (l1 := fpL_X10_costOfNone_124) (l2 := fpL_X10_worth_124_x) (by decide) a b h
theorem fp_X10_worth_124_x_fp_X10_layRain_124 (a b : Nat) (h : fp_X10_layRain_124 a b = true) : fp_X10_worth_124_x a b = true := pvfp_sub (l1 := fpL_X10_layRain_124) (l2 := fpL_X10_worth_124_x) (by decide) a b h
set_option maxHeartbeats 4000000 in
set_option maxRecDepth 10000 in
theorem sf_X10_worth_124_x (M : pvM) (hok : pvOk M) (n1 : Int32) (hz : pvWF M) (d : Nat) : PW 101 d (0, [some (pvR 124), some (pvI n1), none, none], [], M) (fun r X => (∃ x : Int32, r = some (pvI x) ∧ (-9000000) ≤ Int32.toInt x ∧ Int32.toInt x ≤ 9000000) ∧ pvOk X ∧ pvFr fp_X10_worth_124_x M X) := by
  have hT : pvdom 101 = pvD_101 := rfl
  refine pw_blk hT 2 (S' := (2, [some (pvR 124), some (pvI n1), none, none], [pvI n1, pvR 124], M)) rfl ⟨trivial, trivial, trivial⟩ ?_
  refine pw_callT hT (as := [pvR 124, pvI n1]) (lo1 := [some (pvR 124), some (pvI n1)]) (d1 := d) (rest := []) rfl rfl rfl rfl rfl (fun _ => rfl) (Nat.zero_le _) rfl rfl rfl (sf_X10_isWindow_124_x M hok n1 d) ?_
  by_cases c6_ : n1 < 0
  · refine pw_eqI (if_pos c6_) ?_
    have b7_ : (-2147483648) ≤ Int32.toInt n1 ∧ Int32.toInt n1 ≤ (-1) := zr_lt_l (-1) c6_ (zbnd n1) (show 0 ≤ Int32.toInt 0 ∧ Int32.toInt 0 ≤ 0 from (by decide)) (by decide)
    show PW 101 d (5, [some (pvR 124), some (pvI n1), none, none], [pvI 0], M) _
    refine pw_ifn hT (c := 0 = 0) rfl rfl (fun c8_ => absurd (by decide) c8_) (fun c8_ => ?_)
    refine pw_blk hT 1 (S' := (9, [some (pvR 124), some (pvI n1), none, none], [pvI (-1)], M)) rfl ⟨trivial, trivial⟩ ?_
    exact pw_ret hT rfl (r := some (pvI (-1))) (M' := M) ⟨rfl, rfl⟩ ⟨⟨_, rfl, (zr_wide (show (-1) ≤ Int32.toInt (-1) ∧ Int32.toInt (-1) ≤ (-1) from (by decide)) (by decide) (by decide))⟩, hok, pvfr_0⟩
  · refine pw_eqI (if_neg c6_) ?_
    have b9_ : 0 ≤ Int32.toInt n1 ∧ Int32.toInt n1 ≤ 2147483647 := zr_nlt_l 0 c6_ (zbnd n1) (show 0 ≤ Int32.toInt 0 ∧ Int32.toInt 0 ≤ 0 from (by decide)) (by decide)
    have b10_ : 0 ≤ Int32.toInt (M.1 124 0) ∧ Int32.toInt (M.1 124 0) ≤ 7 := pvok_r hok 124 0 rfl
    obtain ⟨q12_, b11_⟩ : (Int32.toInt ((M.1 124 0) - 1) = Int32.toInt (M.1 124 0) - 1) ∧ ((-1) ≤ Int32.toInt ((M.1 124 0) - 1) ∧ Int32.toInt ((M.1 124 0) - 1) ≤ 6) := zsub_k (M.1 124 0) 1 1 (-1) 6 b10_ (by decide) (by decide) (by decide) (by decide) (by decide)
    by_cases c13_ : ((M.1 124 0) - 1) < n1
    · refine pw_eqI (if_pos c13_) ?_
      have d14_ : Int32.toInt ((M.1 124 0) - 1) < Int32.toInt n1 := (zi_lt _ _).mp c13_
      show PW 101 d (5, [some (pvR 124), some (pvI n1), none, none], [pvI 0], M) _
      refine pw_ifn hT (c := 0 = 0) rfl rfl (fun c15_ => absurd (by decide) c15_) (fun c15_ => ?_)
      refine pw_blk hT 1 (S' := (9, [some (pvR 124), some (pvI n1), none, none], [pvI (-1)], M)) rfl ⟨trivial, trivial⟩ ?_
      exact pw_ret hT rfl (r := some (pvI (-1))) (M' := M) ⟨rfl, rfl⟩ ⟨⟨_, rfl, (zr_wide (show (-1) ≤ Int32.toInt (-1) ∧ Int32.toInt (-1) ≤ (-1) from (by decide)) (by decide) (by decide))⟩, hok, pvfr_0⟩
    · refine pw_eqI (if_neg c13_) ?_
      have b16_ : 0 ≤ Int32.toInt ((M.1 124 0) - 1) ∧ Int32.toInt ((M.1 124 0) - 1) ≤ 6 := zr_nlt_l 0 c13_ b11_ b9_ (by decide)
      have b17_ : 0 ≤ Int32.toInt n1 ∧ Int32.toInt n1 ≤ 6 := zr_nlt_r 6 c13_ b9_ b16_ (by decide)
      have d18_ : Int32.toInt ((M.1 124 0) - 1) ≥ Int32.toInt n1 := Int.not_lt.mp ((not_congr (zi_lt _ _)).mp c13_)
      show PW 101 d (5, [some (pvR 124), some (pvI n1), none, none], [pvI 1], M) _
      refine pw_ifn hT (c := 1 = 0) rfl rfl (fun c19_ => ?_) (fun c19_ => absurd c19_ (by decide))
      refine pw_blk hT 1 (S' := (11, [some (pvR 124), some (pvI n1), none, none], [pvR 124], M)) rfl ⟨trivial, trivial⟩ ?_
      refine pw_callV hT (as := [pvR 124]) (lo1 := [some (pvR 124), none, none]) (d1 := d) (rest := []) rfl rfl rfl rfl rfl (fun _ => rfl) (Nat.zero_le _) rfl rfl rfl (sf_X10_layRain_124 M hok hz d) (fun M21_ o23_ g24_ => ?_)
      have f25_ : pvFr fp_X10_worth_124_x M M21_ := pvfr_t g24_ pvfr_0 fp_X10_worth_124_x_fp_X10_layRain_124
      refine pw_blk hT 1 (S' := (15, [some (pvR 124), some (pvI n1), none, none], [pvR 124], M21_)) rfl ⟨trivial, trivial⟩ ?_
      refine pw_callG hT (as := [pvR 124]) (lo1 := [some (pvR 124)]) (d1 := d) (rest := []) rfl rfl rfl rfl rfl (fun _ => rfl) (Nat.zero_le _) rfl rfl rfl (sf_X10_costOfNone_124 M21_ o23_ d) (fun x26_ M27_ b28_ o29_ g30_ => ?_)
      have f31_ : pvFr fp_X10_worth_124_x M M27_ := pvfr_t g30_ f25_ fp_X10_worth_124_x_fp_X10_costOfNone_124
      have b32_ : 0 ≤ Int32.toInt (M27_.1 131 (Int32.toNatClampNeg n1)) ∧ Int32.toInt (M27_.1 131 (Int32.toNatClampNeg n1)) ≤ 1 := pvok_r o29_ 131 (Int32.toNatClampNeg n1) rfl
      refine pw_blkw hT 11 (pc := 33) (lo := [some (pvR 124), some (pvI n1), some (pvI x26_), some (pvI (M27_.1 131 (Int32.toNatClampNeg n1)))]) (st := []) (M := pvu M27_ 131 (Int32.toNatClampNeg n1) (vp_nar .boolean 1)) rfl ⟨trivial, trivial, rfl, trivial, ⟨rfl, (zr_in (n := 7) b17_ (by decide) (by decide))⟩, trivial, trivial, rfl, trivial, trivial, ⟨rfl, (zr_in (n := 7) b17_ (by decide) (by decide))⟩, trivial⟩ (fun M33_ e34_ => ?_)
      have o35_ : pvOk M33_ := pvok_u2 e34_ o29_ rfl (zboolr 1)
      have f36_ : pvFr fp_X10_worth_124_x M M33_ := pvfr_u e34_ f31_ rfl
      refine pw_blk hT 2 (S' := (35, [some (pvR 124), some (pvI n1), some (pvI x26_), some (pvI (M27_.1 131 (Int32.toNatClampNeg n1)))], [pvR 124, pvI x26_], M33_)) rfl ⟨trivial, trivial, trivial⟩ ?_
      refine pw_callG hT (as := [pvR 124]) (lo1 := [some (pvR 124)]) (d1 := d) (rest := [pvI x26_]) rfl rfl rfl rfl rfl (fun _ => rfl) (Nat.zero_le _) rfl rfl rfl (sf_X10_costOfNone_124 M33_ o35_ d) (fun x37_ M38_ b39_ o40_ g41_ => ?_)
      have f42_ : pvFr fp_X10_worth_124_x M M38_ := pvfr_t g41_ f36_ fp_X10_worth_124_x_fp_X10_costOfNone_124
      obtain ⟨q44_, b43_⟩ : (Int32.toInt (x26_ - x37_) = Int32.toInt x26_ - Int32.toInt x37_) ∧ ((-9000000) ≤ Int32.toInt (x26_ - x37_) ∧ Int32.toInt (x26_ - x37_) ≤ 9000000) := zsub_r x26_ x37_ (-9000000) 9000000 b28_ b39_ (by decide) (by decide) (by decide) (by decide)
      refine pw_blkw hT 7 (pc := 47) (lo := [some (pvR 124), some (pvI n1), some (pvI (x26_ - x37_)), some (pvI (M27_.1 131 (Int32.toNatClampNeg n1)))]) (st := []) (M := pvu M38_ 131 (Int32.toNatClampNeg n1) (vp_nar .boolean (M27_.1 131 (Int32.toNatClampNeg n1)))) rfl ⟨trivial, trivial, trivial, rfl, trivial, trivial, ⟨rfl, (zr_in (n := 7) b17_ (by decide) (by decide))⟩, trivial⟩ (fun M45_ e46_ => ?_)
      have o47_ : pvOk M45_ := pvok_u2 e46_ o40_ rfl (zboolr (M27_.1 131 (Int32.toNatClampNeg n1)))
      have f48_ : pvFr fp_X10_worth_124_x M M45_ := pvfr_u e46_ f42_ rfl
      refine pw_blk hT 1 (S' := (48, [some (pvR 124), some (pvI n1), some (pvI (x26_ - x37_)), some (pvI (M27_.1 131 (Int32.toNatClampNeg n1)))], [pvI (x26_ - x37_)], M45_)) rfl ⟨trivial, trivial⟩ ?_
      exact pw_ret hT rfl (r := some (pvI (x26_ - x37_))) (M' := M45_) ⟨rfl, rfl⟩ ⟨⟨_, rfl, b43_⟩, o47_, f48_⟩
set_option maxHeartbeats 4000000 in
set_option maxRecDepth 10000 in
theorem sf_X7_has_8_x (M : pvM) (hok : pvOk M) (n1 : Int32) (d : Nat) : PW 159 d (0, [some (pvR 8), some (pvI n1)], [], M) (fun r X => r = some (pvI ((if n1 < 0 then 0 else (if (M.1 8 1) ≤ n1 then 0 else 1)))) ∧ X = M) := by
  have hT : pvdom 159 = pvD_159 := rfl
  refine pw_blk hT 1 (S' := (1, [some (pvR 8), some (pvI n1)], [pvI n1], M)) rfl ⟨trivial, trivial⟩ ?_
  refine pw_if hT (c := n1 < 0) rfl rfl (fun c1_ => ?_) (fun c1_ => ?_)
  · have b2_ : (-2147483648) ≤ Int32.toInt n1 ∧ Int32.toInt n1 ≤ (-1) := zr_lt_l (-1) c1_ (zbnd n1) (show 0 ≤ Int32.toInt 0 ∧ Int32.toInt 0 ≤ 0 from (by decide)) (by decide)
    refine pw_blk hT 1 (S' := (17, [some (pvR 8), some (pvI n1)], [pvI 0], M)) rfl ⟨trivial, trivial⟩ ?_
    exact pw_ret hT rfl (r := some (pvI 0)) (M' := M) ⟨Or.inl rfl, rfl, rfl⟩ ⟨(by rw [if_pos c1_]), rfl⟩
  · have b3_ : 0 ≤ Int32.toInt n1 ∧ Int32.toInt n1 ≤ 2147483647 := zr_nlt_l 0 c1_ (zbnd n1) (show 0 ≤ Int32.toInt 0 ∧ Int32.toInt 0 ≤ 0 from (by decide)) (by decide)
    have b4_ : 0 ≤ Int32.toInt (M.1 8 1) ∧ Int32.toInt (M.1 8 1) ≤ 7 := pvok_r hok 8 1 rfl
    refine pw_blk hT 3 (S' := (9, [some (pvR 8), some (pvI n1)], [pvI (M.1 8 1), pvI n1], M)) rfl ⟨trivial, trivial, rfl, trivial⟩ ?_
    refine pw_ic hT (c := (M.1 8 1) ≤ n1) rfl rfl (fun c5_ => ?_) (fun c5_ => ?_)
    · have d6_ : Int32.toInt (M.1 8 1) ≤ Int32.toInt n1 := (zi_le _ _).mp c5_
      refine pw_blk hT 1 (S' := (17, [some (pvR 8), some (pvI n1)], [pvI 0], M)) rfl ⟨trivial, trivial⟩ ?_
      exact pw_ret hT rfl (r := some (pvI 0)) (M' := M) ⟨Or.inl rfl, rfl, rfl⟩ ⟨(by rw [if_neg c1_, if_pos c5_]), rfl⟩
    · have b7_ : 1 ≤ Int32.toInt (M.1 8 1) ∧ Int32.toInt (M.1 8 1) ≤ 7 := zr_nle_l 1 c5_ b4_ b3_ (by decide)
      have b8_ : 0 ≤ Int32.toInt n1 ∧ Int32.toInt n1 ≤ 6 := zr_nle_r 6 c5_ b3_ b7_ (by decide)
      have d9_ : Int32.toInt (M.1 8 1) > Int32.toInt n1 := Int.not_le.mp ((not_congr (zi_le _ _)).mp c5_)
      refine pw_blk hT 2 (S' := (17, [some (pvR 8), some (pvI n1)], [pvI 1], M)) rfl ⟨trivial, trivial, trivial⟩ ?_
      exact pw_ret hT rfl (r := some (pvI 1)) (M' := M) ⟨Or.inr rfl, rfl, rfl⟩ ⟨(by rw [if_neg c1_, if_neg c5_]), rfl⟩
set_option maxHeartbeats 4000000 in
set_option maxRecDepth 10000 in
theorem sf_X9_within_x_x_x (M : pvM) (hok : pvOk M) (n0 : Int32) (n1 : Int32) (n2 : Int32) (d : Nat) : PW 211 d (0, [some (pvI n0), some (pvI n1), some (pvI n2)], [], M) (fun r X => r = some (pvI ((if n0 < n1 then 0 else (if n2 < n0 then 0 else 1)))) ∧ X = M) := by
  have hT : pvdom 211 = pvD_211 := rfl
  refine pw_blk hT 2 (S' := (2, [some (pvI n0), some (pvI n1), some (pvI n2)], [pvI n1, pvI n0], M)) rfl ⟨trivial, trivial, trivial⟩ ?_
  refine pw_ic hT (c := n0 < n1) rfl rfl (fun c1_ => ?_) (fun c1_ => ?_)
  · have b2_ : (-2147483648) ≤ Int32.toInt n0 ∧ Int32.toInt n0 ≤ 2147483646 := zr_lt_l 2147483646 c1_ (zbnd n0) (zbnd n1) (by decide)
    have b3_ : (-2147483647) ≤ Int32.toInt n1 ∧ Int32.toInt n1 ≤ 2147483647 := zr_lt_r (-2147483647) c1_ (zbnd n1) b2_ (by decide)
    have d4_ : Int32.toInt n0 < Int32.toInt n1 := (zi_lt _ _).mp c1_
    refine pw_blk hT 1 (S' := (15, [some (pvI n0), some (pvI n1), some (pvI n2)], [pvI 0], M)) rfl ⟨trivial, trivial⟩ ?_
    exact pw_ret hT rfl (r := some (pvI 0)) (M' := M) ⟨Or.inl rfl, rfl, rfl⟩ ⟨(by rw [if_pos c1_]), rfl⟩
  · have d5_ : Int32.toInt n0 ≥ Int32.toInt n1 := Int.not_lt.mp ((not_congr (zi_lt _ _)).mp c1_)
    refine pw_blk hT 2 (S' := (7, [some (pvI n0), some (pvI n1), some (pvI n2)], [pvI n2, pvI n0], M)) rfl ⟨trivial, trivial, trivial⟩ ?_
    refine pw_ic hT (c := n2 < n0) rfl rfl (fun c6_ => ?_) (fun c6_ => ?_)
    · have b7_ : (-2147483648) ≤ Int32.toInt n2 ∧ Int32.toInt n2 ≤ 2147483646 := zr_lt_l 2147483646 c6_ (zbnd n2) (zbnd n0) (by decide)
      have b8_ : (-2147483647) ≤ Int32.toInt n0 ∧ Int32.toInt n0 ≤ 2147483647 := zr_lt_r (-2147483647) c6_ (zbnd n0) b7_ (by decide)
      have d9_ : Int32.toInt n2 < Int32.toInt n0 := (zi_lt _ _).mp c6_
      refine pw_blk hT 1 (S' := (15, [some (pvI n0), some (pvI n1), some (pvI n2)], [pvI 0], M)) rfl ⟨trivial, trivial⟩ ?_
      exact pw_ret hT rfl (r := some (pvI 0)) (M' := M) ⟨Or.inl rfl, rfl, rfl⟩ ⟨(by rw [if_neg c1_, if_pos c6_]), rfl⟩
    · have d10_ : Int32.toInt n2 ≥ Int32.toInt n0 := Int.not_lt.mp ((not_congr (zi_lt _ _)).mp c6_)
      refine pw_blk hT 2 (S' := (15, [some (pvI n0), some (pvI n1), some (pvI n2)], [pvI 1], M)) rfl ⟨trivial, trivial, trivial⟩ ?_
      exact pw_ret hT rfl (r := some (pvI 1)) (M' := M) ⟨Or.inr rfl, rfl, rfl⟩ ⟨(by rw [if_neg c1_, if_neg c6_]), rfl⟩
set_option maxHeartbeats 4000000 in
set_option maxRecDepth 10000 in
theorem sf_X0_bodyFrom_0_0 (M : pvM) (hok : pvOk M) (d : Nat) : PW 1 d (0, [some (pvI 0), some (pvI 0), none, none, none], [], M) (fun r X => r = some (pvI (((pvstab 1041).getD (Int32.toNatClampNeg ((0 * 3) + 0)) 0))) ∧ X = M) := by
  have hT : pvdom 1 = pvD_1 := rfl
  refine pw_blk hT 4 (S' := (4, [some (pvI 0), some (pvI 0), some (pvI 0), some (pvI 0), none], [], M)) rfl ⟨trivial, trivial, trivial, trivial, trivial⟩ ?_
  refine pw_blk hT 3 (S' := (9, [some (pvI 0), some (pvI 0), some (pvI 0), some (pvI 0), none], [pvI (Int32.ofNat (pvstab 1041).length), pvI 0], M)) rfl ⟨trivial, trivial, (by decide), trivial⟩ ?_
  refine pw_ic hT (c := (Int32.ofNat (pvstab 1041).length) ≤ 0) rfl rfl (fun c1_ => absurd c1_ (by decide)) (fun c1_ => ?_)
  refine pw_blk hT 1 (S' := (13, [some (pvI 0), some (pvI 0), some (pvI 0), some (pvI 0), none], [pvI 0], M)) rfl ⟨trivial, trivial⟩ ?_
  refine pw_if hT (c := 0 < 0) rfl rfl (fun c2_ => absurd c2_ (by decide)) (fun c2_ => ?_)
  refine pw_blk hT 7 (S' := (25, [some (pvI 0), some (pvI 0), some (pvI 0), some (pvI 0), some (pvI ((0 * 3) + 0))], [pvI ((0 * 3) + 0)], M)) rfl ⟨trivial, trivial, trivial, trivial, trivial, trivial, trivial, trivial⟩ ?_
  refine pw_if hT (c := ((0 * 3) + 0) < 0) rfl rfl (fun c3_ => absurd c3_ (by decide)) (fun c3_ => ?_)
  refine pw_blk hT 3 (S' := (34, [some (pvI 0), some (pvI 0), some (pvI 0), some (pvI 0), some (pvI ((0 * 3) + 0))], [pvI (Int32.ofNat (pvstab 1041).length), pvI ((0 * 3) + 0)], M)) rfl ⟨trivial, trivial, (by decide), trivial⟩ ?_
  refine pw_ic hT (c := (Int32.ofNat (pvstab 1041).length) ≤ ((0 * 3) + 0)) rfl rfl (fun c4_ => absurd c4_ (by decide)) (fun c4_ => ?_)
  refine pw_blk hT 3 (S' := (43, [some (pvI 0), some (pvI 0), some (pvI 0), some (pvI 0), some (pvI ((0 * 3) + 0))], [pvI ((pvstab 1041).getD (Int32.toNatClampNeg ((0 * 3) + 0)) 0)], M)) rfl ⟨trivial, trivial, ⟨by decide, (zr_in (n := 21) (show 0 ≤ Int32.toInt ((0 * 3) + 0) ∧ Int32.toInt ((0 * 3) + 0) ≤ 0 from (by decide)) (by decide) (by decide))⟩, trivial⟩ ?_
  refine pw_if hT (c := ((pvstab 1041).getD (Int32.toNatClampNeg ((0 * 3) + 0)) 0) = 0) rfl rfl (fun c5_ => absurd c5_ (by decide)) (fun c5_ => ?_)
  refine pw_blk hT 3 (S' := (52, [some (pvI 0), some (pvI 0), some (pvI 0), some (pvI 0), some (pvI ((0 * 3) + 0))], [pvI ((pvstab 1041).getD (Int32.toNatClampNeg ((0 * 3) + 0)) 0)], M)) rfl ⟨trivial, trivial, ⟨by decide, (zr_in (n := 21) (show 0 ≤ Int32.toInt ((0 * 3) + 0) ∧ Int32.toInt ((0 * 3) + 0) ≤ 0 from (by decide)) (by decide) (by decide))⟩, trivial⟩ ?_
  exact pw_ret hT rfl (r := some (pvI ((pvstab 1041).getD (Int32.toNatClampNeg ((0 * 3) + 0)) 0))) (M' := M) ⟨rfl, rfl⟩ ⟨rfl, rfl⟩
def fpL_X0_note_3_x : List (Nat × Nat × Nat) := [(0, 3, 2), (0, 4, 0)]
def fp_X0_note_3_x (q k : Nat) : Bool := pvfp fpL_X0_note_3_x q k
set_option maxHeartbeats 4000000 in
set_option maxRecDepth 10000 in
theorem sf_X0_note_3_x (M : pvM) (hok : pvOk M) (n1 : Int32) (hn1 : 0 ≤ Int32.toInt n1 ∧ Int32.toInt n1 ≤ 1000) (hc3_1 : 0 ≤ Int32.toInt (M.1 3 1) ∧ Int32.toInt (M.1 3 1) ≤ 999) (d : Nat) : PW 2 d (0, [some (pvR 3), some (pvI n1)], [], M) (fun r X => r = none ∧ pvOk X ∧ pvFr fp_X0_note_3_x M X ∧ Int32.toInt (X.1 3 1) ≤ Int32.toInt (M.1 3 1) + 1) := by
  have hT : pvdom 2 = pvD_2 := rfl
  refine pw_blk hT 3 (S' := (6, [some (pvR 3), some (pvI n1)], [pvI 20, pvI (M.1 3 1)], M)) rfl ⟨trivial, rfl, trivial, trivial⟩ ?_
  refine pw_ic hT (c := 20 ≤ (M.1 3 1)) rfl rfl (fun c1_ => ?_) (fun c1_ => ?_)
  · have b2_ : 20 ≤ Int32.toInt (M.1 3 1) ∧ Int32.toInt (M.1 3 1) ≤ 999 := zr_le_r 20 c1_ hc3_1 (show 20 ≤ Int32.toInt 20 ∧ Int32.toInt 20 ≤ 20 from (by decide)) (by decide)
    obtain ⟨q4_, b3_⟩ : (Int32.toInt ((M.1 3 1) + 1) = Int32.toInt (M.1 3 1) + 1) ∧ (21 ≤ Int32.toInt ((M.1 3 1) + 1) ∧ Int32.toInt ((M.1 3 1) + 1) ≤ 1000) := zadd_k (M.1 3 1) 1 1 21 1000 b2_ (by decide) (by decide) (by decide) (by decide) (by decide)
    refine pw_blkw hT 6 (pc := 29) (lo := [some (pvR 3), some (pvI n1)]) (st := []) (M := pvu M 3 1 ((M.1 3 1) + 1)) rfl ⟨trivial, trivial, rfl, trivial, trivial, rfl, trivial⟩ (fun M5_ e6_ => ?_)
    have o7_ : pvOk M5_ := pvok_u2 e6_ hok rfl (zr_wide b3_ (by decide) (by decide))
    have f8_ : pvFr fp_X0_note_3_x M M5_ := pvfr_u e6_ pvfr_0 rfl
    exact pw_ret hT rfl (r := none) (M' := M5_) ⟨rfl, rfl⟩ ⟨rfl, o7_, f8_, (by have u0 : Int32.toInt (M5_.1 3 1) = Int32.toInt ((M.1 3 1) + 1) := congrArg Int32.toInt (pvu_s e6_); omega)⟩
  · have b9_ : 0 ≤ Int32.toInt (M.1 3 1) ∧ Int32.toInt (M.1 3 1) ≤ 19 := zr_nle_r 19 c1_ hc3_1 (show 20 ≤ Int32.toInt 20 ∧ Int32.toInt 20 ≤ 20 from (by decide)) (by decide)
    refine pw_blkw hT 6 (pc := 19) (lo := [some (pvR 3), some (pvI n1)]) (st := []) (M := pvu M 4 (Int32.toNatClampNeg (M.1 3 1)) n1) rfl ⟨trivial, rfl, trivial, rfl, trivial, ⟨rfl, (zr_in (n := 20) b9_ (by decide) (by decide))⟩, trivial⟩ (fun M10_ e11_ => ?_)
    have o12_ : pvOk M10_ := pvok_u2 e11_ hok rfl hn1
    have f13_ : pvFr fp_X0_note_3_x M M10_ := pvfr_u e11_ pvfr_0 rfl
    have e14_ : (M10_.1 3 1) = (M.1 3 1) := (pvu_n e11_ 3 1 (Or.inl (by decide)))
    have b15_ : 0 ≤ Int32.toInt (M10_.1 3 1) ∧ Int32.toInt (M10_.1 3 1) ≤ 19 := (by rw [e14_]; exact b9_)
    obtain ⟨q17_, b16_⟩ : (Int32.toInt ((M10_.1 3 1) + 1) = Int32.toInt (M10_.1 3 1) + 1) ∧ (1 ≤ Int32.toInt ((M10_.1 3 1) + 1) ∧ Int32.toInt ((M10_.1 3 1) + 1) ≤ 20) := zadd_k (M10_.1 3 1) 1 1 1 20 b15_ (by decide) (by decide) (by decide) (by decide) (by decide)
    refine pw_blkw hT 6 (pc := 29) (lo := [some (pvR 3), some (pvI n1)]) (st := []) (M := pvu M10_ 3 1 ((M10_.1 3 1) + 1)) rfl ⟨trivial, trivial, rfl, trivial, trivial, rfl, trivial⟩ (fun M18_ e19_ => ?_)
    have o20_ : pvOk M18_ := pvok_u2 e19_ o12_ rfl (zr_wide b16_ (by decide) (by decide))
    have f21_ : pvFr fp_X0_note_3_x M M18_ := pvfr_u e19_ f13_ rfl
    exact pw_ret hT rfl (r := none) (M' := M18_) ⟨rfl, rfl⟩ ⟨rfl, o20_, f21_, (by have u0 : Int32.toInt (M18_.1 3 1) = Int32.toInt ((M10_.1 3 1) + 1) := congrArg Int32.toInt (pvu_s e19_); have u1 : Int32.toInt (M10_.1 3 1) = Int32.toInt (M.1 3 1) := congrArg Int32.toInt (pvu_n e11_ 3 1 (Or.inl (by decide))); omega)⟩
def fpL_X0_run_3_0_0_x_0_0 : List (Nat × Nat × Nat) := [(0, 3, 2), (0, 4, 0)]
def fp_X0_run_3_0_0_x_0_0 (q k : Nat) : Bool := pvfp fpL_X0_run_3_0_0_x_0_0 q k
theorem fp_X0_run_3_0_0_x_0_0_fp_X0_note_3_x (a b : Nat) (h : fp_X0_note_3_x a b = true) : fp_X0_run_3_0_0_x_0_0 a b = true := pvfp_sub (l1 := fpL_X0_note_3_x) (l2 := fpL_X0_run_3_0_0_x_0_0) (by decide) a b h
set_option maxHeartbeats 4000000 in
set_option maxRecDepth 10000 in
theorem sf_X0_run_3_0_0_x_0_0 (M : pvM) (hok : pvOk M) (n3 : Int32) (hc3_1 : 0 ≤ Int32.toInt (M.1 3 1) ∧ Int32.toInt (M.1 3 1) ≤ 998) (hc3_2 : 0 ≤ Int32.toInt (M.1 3 2) ∧ Int32.toInt (M.1 3 2) ≤ 0) (d : Nat) : PW 4 d (0, [some (pvR 3), some (pvI 0), some (pvI 0), some (pvI n3), some (pvI 0), none, none], [], M) (fun r X => (∃ x : Int32, r = some (pvI x) ∧ True) ∧ pvOk X ∧ pvFr fp_X0_run_3_0_0_x_0_0 M X ∧ Int32.toInt (X.1 3 1) ≤ Int32.toInt (M.1 3 1) + 1) := by
  have hT : pvdom 4 = pvD_4 := rfl
  refine pw_blk hT 2 (S' := (4, [some (pvR 3), some (pvI 0), some (pvI 0), some (pvI n3), some (pvI 0), none, none], [pvI 40, pvI 0], M)) rfl ⟨trivial, trivial, trivial⟩ ?_
  refine pw_ic hT (c := 0 ≤ 40) rfl rfl (fun c1_ => ?_) (fun c1_ => absurd (by decide) c1_)
  refine pw_blk hT 2 (S' := (11, [some (pvR 3), some (pvI 0), some (pvI 0), some (pvI n3), some (pvI 0), none, none], [pvI 0, pvI 0], M)) rfl ⟨trivial, trivial, trivial⟩ ?_
  refine pw_callT hT (as := [pvI 0, pvI 0]) (lo1 := [some (pvI 0), some (pvI 0), none, none, none]) (d1 := d) (rest := []) rfl rfl rfl rfl rfl (fun h => absurd h (by decide)) (Nat.zero_le _) rfl rfl rfl (sf_X0_bodyFrom_0_0 M hok d) ?_
  refine pw_eqI (show ((pvstab 1041).getD (Int32.toNatClampNeg ((0 * 3) + 0)) 0) = 10 from by decide) ?_
  show PW 4 d (14, [some (pvR 3), some (pvI 0), some (pvI 0), some (pvI n3), some (pvI 0), none, none], [pvI 10], M) _
  refine pw_blk hT 7 (S' := (25, [some (pvR 3), some (pvI 0), some (pvI 0), some (pvI n3), some (pvI 0), some (pvI 10), some (pvI (0 + 1))], [pvI 10, pvR 3], M)) rfl ⟨trivial, trivial, trivial, trivial, trivial, trivial, trivial, trivial⟩ ?_
  refine pw_callVd hT (as := [pvR 3, pvI 10]) (lo1 := [some (pvR 3), some (pvI 10)]) (d1 := d) (rest := []) rfl rfl rfl rfl rfl (fun _ => rfl) (Nat.zero_le _) rfl rfl rfl (sf_X0_note_3_x M hok 10 (zr_wide (show 10 ≤ Int32.toInt 10 ∧ Int32.toInt 10 ≤ 10 from (by decide)) (by decide) (by decide)) (zr_wide hc3_1 (by decide) (by decide)) d) (fun M9_ o11_ g12_ d7_ => ?_)
  have f13_ : pvFr fp_X0_run_3_0_0_x_0_0 M M9_ := pvfr_t g12_ pvfr_0 fp_X0_run_3_0_0_x_0_0_fp_X0_note_3_x
  have b14_ : 0 ≤ Int32.toInt (M9_.1 3 1) ∧ Int32.toInt (M9_.1 3 1) ≤ 999 := (by have u0 := hc3_1; have u1 := d7_; have u2 := pvok_r o11_ 3 1 (lo := 0) (hi := 1000000) rfl; omega)
  refine pw_blk hT 1 (S' := (30, [some (pvR 3), some (pvI 0), some (pvI 0), some (pvI n3), some (pvI 0), some (pvI 10), some (pvI (0 + 1))], [pvI 10], M9_)) rfl ⟨trivial, trivial⟩ ?_
  refine pw_sw hT rfl rfl ?_
  refine And.intro (fun c15_ => ?_) (fun c15_ => absurd (by decide) c15_)
  show PW 4 d (128, [some (pvR 3), some (pvI 0), some (pvI 0), some (pvI n3), some (pvI 0), some (pvI 10), some (pvI (0 + 1))], [], M9_) _
  refine pw_blk hT 4 (S' := (134, [some (pvR 3), some (pvI 0), some (pvI 0), some (pvI n3), some (pvI 0), some (pvI 10), some (pvI (0 + 1))], [pvI (n3 + (M9_.1 3 4))], M9_)) rfl ⟨trivial, trivial, rfl, trivial, trivial⟩ ?_
  exact pw_ret hT rfl (r := some (pvI (n3 + (M9_.1 3 4)))) (M' := M9_) ⟨rfl, rfl⟩ ⟨⟨_, rfl, trivial⟩, o11_, f13_, (by omega)⟩
set_option maxHeartbeats 4000000 in
set_option maxRecDepth 10000 in
theorem sf_X0_bodyFrom_0_1 (M : pvM) (hok : pvOk M) (d : Nat) : PW 1 d (0, [some (pvI 0), some (pvI 1), none, none, none], [], M) (fun r X => r = some (pvI (((pvstab 1041).getD (Int32.toNatClampNeg ((0 * 3) + 1)) 0))) ∧ X = M) := by
  have hT : pvdom 1 = pvD_1 := rfl
  refine pw_blk hT 4 (S' := (4, [some (pvI 0), some (pvI 1), some (pvI 0), some (pvI 0), none], [], M)) rfl ⟨trivial, trivial, trivial, trivial, trivial⟩ ?_
  refine pw_blk hT 3 (S' := (9, [some (pvI 0), some (pvI 1), some (pvI 0), some (pvI 0), none], [pvI (Int32.ofNat (pvstab 1041).length), pvI 0], M)) rfl ⟨trivial, trivial, (by decide), trivial⟩ ?_
  refine pw_ic hT (c := (Int32.ofNat (pvstab 1041).length) ≤ 0) rfl rfl (fun c1_ => absurd c1_ (by decide)) (fun c1_ => ?_)
  refine pw_blk hT 1 (S' := (13, [some (pvI 0), some (pvI 1), some (pvI 0), some (pvI 0), none], [pvI 0], M)) rfl ⟨trivial, trivial⟩ ?_
  refine pw_if hT (c := 0 < 0) rfl rfl (fun c2_ => absurd c2_ (by decide)) (fun c2_ => ?_)
  refine pw_blk hT 7 (S' := (25, [some (pvI 0), some (pvI 1), some (pvI 0), some (pvI 0), some (pvI ((0 * 3) + 1))], [pvI ((0 * 3) + 1)], M)) rfl ⟨trivial, trivial, trivial, trivial, trivial, trivial, trivial, trivial⟩ ?_
  refine pw_if hT (c := ((0 * 3) + 1) < 0) rfl rfl (fun c3_ => absurd c3_ (by decide)) (fun c3_ => ?_)
  refine pw_blk hT 3 (S' := (34, [some (pvI 0), some (pvI 1), some (pvI 0), some (pvI 0), some (pvI ((0 * 3) + 1))], [pvI (Int32.ofNat (pvstab 1041).length), pvI ((0 * 3) + 1)], M)) rfl ⟨trivial, trivial, (by decide), trivial⟩ ?_
  refine pw_ic hT (c := (Int32.ofNat (pvstab 1041).length) ≤ ((0 * 3) + 1)) rfl rfl (fun c4_ => absurd c4_ (by decide)) (fun c4_ => ?_)
  refine pw_blk hT 3 (S' := (43, [some (pvI 0), some (pvI 1), some (pvI 0), some (pvI 0), some (pvI ((0 * 3) + 1))], [pvI ((pvstab 1041).getD (Int32.toNatClampNeg ((0 * 3) + 1)) 0)], M)) rfl ⟨trivial, trivial, ⟨by decide, (zr_in (n := 21) (show 1 ≤ Int32.toInt ((0 * 3) + 1) ∧ Int32.toInt ((0 * 3) + 1) ≤ 1 from (by decide)) (by decide) (by decide))⟩, trivial⟩ ?_
  refine pw_if hT (c := ((pvstab 1041).getD (Int32.toNatClampNeg ((0 * 3) + 1)) 0) = 0) rfl rfl (fun c5_ => absurd c5_ (by decide)) (fun c5_ => ?_)
  refine pw_blk hT 3 (S' := (52, [some (pvI 0), some (pvI 1), some (pvI 0), some (pvI 0), some (pvI ((0 * 3) + 1))], [pvI ((pvstab 1041).getD (Int32.toNatClampNeg ((0 * 3) + 1)) 0)], M)) rfl ⟨trivial, trivial, ⟨by decide, (zr_in (n := 21) (show 1 ≤ Int32.toInt ((0 * 3) + 1) ∧ Int32.toInt ((0 * 3) + 1) ≤ 1 from (by decide)) (by decide) (by decide))⟩, trivial⟩ ?_
  exact pw_ret hT rfl (r := some (pvI ((pvstab 1041).getD (Int32.toNatClampNeg ((0 * 3) + 1)) 0))) (M' := M) ⟨rfl, rfl⟩ ⟨rfl, rfl⟩
def fpL_X0_run_3_0_0_x_1_0 : List (Nat × Nat × Nat) := [(0, 3, 2), (0, 4, 0)]
def fp_X0_run_3_0_0_x_1_0 (q k : Nat) : Bool := pvfp fpL_X0_run_3_0_0_x_1_0 q k
theorem fp_X0_run_3_0_0_x_1_0_fp_X0_note_3_x (a b : Nat) (h : fp_X0_note_3_x a b = true) : fp_X0_run_3_0_0_x_1_0 a b = true := pvfp_sub (l1 := fpL_X0_note_3_x) (l2 := fpL_X0_run_3_0_0_x_1_0) (by decide) a b h
set_option maxHeartbeats 4000000 in
set_option maxRecDepth 10000 in
theorem sf_X0_run_3_0_0_x_1_0 (M : pvM) (hok : pvOk M) (n3 : Int32) (hc3_1 : 0 ≤ Int32.toInt (M.1 3 1) ∧ Int32.toInt (M.1 3 1) ≤ 998) (hc3_2 : 0 ≤ Int32.toInt (M.1 3 2) ∧ Int32.toInt (M.1 3 2) ≤ 0) (d : Nat) : PW 4 d (0, [some (pvR 3), some (pvI 0), some (pvI 0), some (pvI n3), some (pvI 1), none, none], [], M) (fun r X => (∃ x : Int32, r = some (pvI x) ∧ True) ∧ pvOk X ∧ pvFr fp_X0_run_3_0_0_x_1_0 M X ∧ Int32.toInt (X.1 3 1) ≤ Int32.toInt (M.1 3 1) + 1) := by
  have hT : pvdom 4 = pvD_4 := rfl
  refine pw_blk hT 2 (S' := (4, [some (pvR 3), some (pvI 0), some (pvI 0), some (pvI n3), some (pvI 1), none, none], [pvI 40, pvI 1], M)) rfl ⟨trivial, trivial, trivial⟩ ?_
  refine pw_ic hT (c := 1 ≤ 40) rfl rfl (fun c1_ => ?_) (fun c1_ => absurd (by decide) c1_)
  refine pw_blk hT 2 (S' := (11, [some (pvR 3), some (pvI 0), some (pvI 0), some (pvI n3), some (pvI 1), none, none], [pvI 0, pvI 0], M)) rfl ⟨trivial, trivial, trivial⟩ ?_
  refine pw_callT hT (as := [pvI 0, pvI 0]) (lo1 := [some (pvI 0), some (pvI 0), none, none, none]) (d1 := d) (rest := []) rfl rfl rfl rfl rfl (fun h => absurd h (by decide)) (Nat.zero_le _) rfl rfl rfl (sf_X0_bodyFrom_0_0 M hok d) ?_
  refine pw_eqI (show ((pvstab 1041).getD (Int32.toNatClampNeg ((0 * 3) + 0)) 0) = 10 from by decide) ?_
  show PW 4 d (14, [some (pvR 3), some (pvI 0), some (pvI 0), some (pvI n3), some (pvI 1), none, none], [pvI 10], M) _
  refine pw_blk hT 7 (S' := (25, [some (pvR 3), some (pvI 0), some (pvI 0), some (pvI n3), some (pvI 1), some (pvI 10), some (pvI (1 + 1))], [pvI 10, pvR 3], M)) rfl ⟨trivial, trivial, trivial, trivial, trivial, trivial, trivial, trivial⟩ ?_
  refine pw_callVd hT (as := [pvR 3, pvI 10]) (lo1 := [some (pvR 3), some (pvI 10)]) (d1 := d) (rest := []) rfl rfl rfl rfl rfl (fun _ => rfl) (Nat.zero_le _) rfl rfl rfl (sf_X0_note_3_x M hok 10 (zr_wide (show 10 ≤ Int32.toInt 10 ∧ Int32.toInt 10 ≤ 10 from (by decide)) (by decide) (by decide)) (zr_wide hc3_1 (by decide) (by decide)) d) (fun M9_ o11_ g12_ d7_ => ?_)
  have f13_ : pvFr fp_X0_run_3_0_0_x_1_0 M M9_ := pvfr_t g12_ pvfr_0 fp_X0_run_3_0_0_x_1_0_fp_X0_note_3_x
  have b14_ : 0 ≤ Int32.toInt (M9_.1 3 1) ∧ Int32.toInt (M9_.1 3 1) ≤ 999 := (by have u0 := hc3_1; have u1 := d7_; have u2 := pvok_r o11_ 3 1 (lo := 0) (hi := 1000000) rfl; omega)
  refine pw_blk hT 1 (S' := (30, [some (pvR 3), some (pvI 0), some (pvI 0), some (pvI n3), some (pvI 1), some (pvI 10), some (pvI (1 + 1))], [pvI 10], M9_)) rfl ⟨trivial, trivial⟩ ?_
  refine pw_sw hT rfl rfl ?_
  refine And.intro (fun c15_ => ?_) (fun c15_ => absurd (by decide) c15_)
  show PW 4 d (128, [some (pvR 3), some (pvI 0), some (pvI 0), some (pvI n3), some (pvI 1), some (pvI 10), some (pvI (1 + 1))], [], M9_) _
  refine pw_blk hT 4 (S' := (134, [some (pvR 3), some (pvI 0), some (pvI 0), some (pvI n3), some (pvI 1), some (pvI 10), some (pvI (1 + 1))], [pvI (n3 + (M9_.1 3 4))], M9_)) rfl ⟨trivial, trivial, rfl, trivial, trivial⟩ ?_
  exact pw_ret hT rfl (r := some (pvI (n3 + (M9_.1 3 4)))) (M' := M9_) ⟨rfl, rfl⟩ ⟨⟨_, rfl, trivial⟩, o11_, f13_, (by omega)⟩
def fpL_X0_run_3_0_1_x_0_0 : List (Nat × Nat × Nat) := [(0, 3, 2), (0, 4, 0)]
def fp_X0_run_3_0_1_x_0_0 (q k : Nat) : Bool := pvfp fpL_X0_run_3_0_1_x_0_0 q k
theorem fp_X0_run_3_0_1_x_0_0_fp_X0_note_3_x (a b : Nat) (h : fp_X0_note_3_x a b = true) : fp_X0_run_3_0_1_x_0_0 a b = true := pvfp_sub (l1 := fpL_X0_note_3_x) (l2 := fpL_X0_run_3_0_1_x_0_0) (by decide) a b h
theorem fp_X0_run_3_0_1_x_0_0_fp_X0_run_3_0_0_x_1_0 (a b : Nat) (h : fp_X0_run_3_0_0_x_1_0 a b = true) : fp_X0_run_3_0_1_x_0_0 a b = true := pvfp_sub (l1 := fpL_X0_run_3_0_0_x_1_0) (l2 := fpL_X0_run_3_0_1_x_0_0) (by decide) a b h
set_option maxHeartbeats 4000000 in
set_option maxRecDepth 10000 in
theorem sf_X0_run_3_0_1_x_0_0 (M : pvM) (hok : pvOk M) (n3 : Int32) (hc3_1 : 0 ≤ Int32.toInt (M.1 3 1) ∧ Int32.toInt (M.1 3 1) ≤ 997) (hc3_2 : 0 ≤ Int32.toInt (M.1 3 2) ∧ Int32.toInt (M.1 3 2) ≤ 0) (d : Nat) (hd : 1 ≤ d) : PW 4 d (0, [some (pvR 3), some (pvI 0), some (pvI 1), some (pvI n3), some (pvI 0), none, none], [], M) (fun r X => (∃ x : Int32, r = some (pvI x) ∧ True) ∧ pvOk X ∧ pvFr fp_X0_run_3_0_1_x_0_0 M X ∧ Int32.toInt (X.1 3 1) ≤ Int32.toInt (M.1 3 1) + 2) := by
  have hT : pvdom 4 = pvD_4 := rfl
  refine pw_blk hT 2 (S' := (4, [some (pvR 3), some (pvI 0), some (pvI 1), some (pvI n3), some (pvI 0), none, none], [pvI 40, pvI 0], M)) rfl ⟨trivial, trivial, trivial⟩ ?_
  refine pw_ic hT (c := 0 ≤ 40) rfl rfl (fun c1_ => ?_) (fun c1_ => absurd (by decide) c1_)
  refine pw_blk hT 2 (S' := (11, [some (pvR 3), some (pvI 0), some (pvI 1), some (pvI n3), some (pvI 0), none, none], [pvI 1, pvI 0], M)) rfl ⟨trivial, trivial, trivial⟩ ?_
  refine pw_callT hT (as := [pvI 0, pvI 1]) (lo1 := [some (pvI 0), some (pvI 1), none, none, none]) (d1 := d) (rest := []) rfl rfl rfl rfl rfl (fun h => absurd h (by decide)) (Nat.zero_le _) rfl rfl rfl (sf_X0_bodyFrom_0_1 M hok d) ?_
  refine pw_eqI (show ((pvstab 1041).getD (Int32.toNatClampNeg ((0 * 3) + 1)) 0) = 11 from by decide) ?_
  show PW 4 d (14, [some (pvR 3), some (pvI 0), some (pvI 1), some (pvI n3), some (pvI 0), none, none], [pvI 11], M) _
  refine pw_blk hT 7 (S' := (25, [some (pvR 3), some (pvI 0), some (pvI 1), some (pvI n3), some (pvI 0), some (pvI 11), some (pvI (0 + 1))], [pvI 11, pvR 3], M)) rfl ⟨trivial, trivial, trivial, trivial, trivial, trivial, trivial, trivial⟩ ?_
  refine pw_callVd hT (as := [pvR 3, pvI 11]) (lo1 := [some (pvR 3), some (pvI 11)]) (d1 := d) (rest := []) rfl rfl rfl rfl rfl (fun _ => rfl) (Nat.zero_le _) rfl rfl rfl (sf_X0_note_3_x M hok 11 (zr_wide (show 11 ≤ Int32.toInt 11 ∧ Int32.toInt 11 ≤ 11 from (by decide)) (by decide) (by decide)) (zr_wide hc3_1 (by decide) (by decide)) d) (fun M9_ o11_ g12_ d7_ => ?_)
  have f13_ : pvFr fp_X0_run_3_0_1_x_0_0 M M9_ := pvfr_t g12_ pvfr_0 fp_X0_run_3_0_1_x_0_0_fp_X0_note_3_x
  have b14_ : 0 ≤ Int32.toInt (M9_.1 3 1) ∧ Int32.toInt (M9_.1 3 1) ≤ 998 := (by have u0 := hc3_1; have u1 := d7_; have u2 := pvok_r o11_ 3 1 (lo := 0) (hi := 1000000) rfl; omega)
  refine pw_blk hT 1 (S' := (30, [some (pvR 3), some (pvI 0), some (pvI 1), some (pvI n3), some (pvI 0), some (pvI 11), some (pvI (0 + 1))], [pvI 11], M9_)) rfl ⟨trivial, trivial⟩ ?_
  refine pw_sw hT rfl rfl ?_
  refine And.intro (fun c15_ => absurd c15_ (by decide)) (fun c15_ => ?_)
  refine And.intro (fun c16_ => ?_) (fun c16_ => absurd (by decide) c16_)
  show PW 4 d (135, [some (pvR 3), some (pvI 0), some (pvI 1), some (pvI n3), some (pvI 0), some (pvI 11), some (pvI (0 + 1))], [], M9_) _
  have e17_ : (M9_.1 3 2) = (M.1 3 2) := (g12_ 3 2 rfl)
  have b18_ : 0 ≤ Int32.toInt (M9_.1 3 2) ∧ Int32.toInt (M9_.1 3 2) ≤ 0 := (by rw [e17_]; exact hc3_2)
  refine pw_blk hT 3 (S' := (140, [some (pvR 3), some (pvI 0), some (pvI 1), some (pvI n3), some (pvI 0), some (pvI 11), some (pvI (0 + 1))], [pvI (M9_.1 3 2), pvR 3], M9_)) rfl ⟨trivial, trivial, rfl, trivial⟩ ?_
  refine pw_eqI ((zi_eq _ (0)).mpr (by have u0 := b18_; have u1 : Int32.toInt (0) = 0 := (by decide); omega)) ?_
  refine pw_blk hT 3 (S' := (144, [some (pvR 3), some (pvI 0), some (pvI 1), some (pvI n3), some (pvI 0), some (pvI 11), some (pvI (0 + 1))], [pvI (0 + 1), pvI n3, pvI 0, pvI 0, pvR 3], M9_)) rfl ⟨trivial, trivial, trivial, trivial⟩ ?_
  refine pw_callGd hT (as := [pvR 3, pvI 0, pvI 0, pvI n3, pvI (0 + 1)]) (lo1 := [some (pvR 3), some (pvI 0), some (pvI 0), some (pvI n3), some (pvI (0 + 1)), none, none]) (d1 := (d - 1)) (rest := []) rfl rfl rfl rfl rfl (fun h => absurd h (by decide)) (show 1 ≤ d by omega) rfl rfl rfl (sf_X0_run_3_0_0_x_1_0 M9_ o11_ n3 b14_ b18_ (d - 1)) (fun x20_ M21_ b22_ o23_ g24_ d19_ => ?_)
  have f25_ : pvFr fp_X0_run_3_0_1_x_0_0 M M21_ := pvfr_t g24_ f13_ fp_X0_run_3_0_1_x_0_0_fp_X0_run_3_0_0_x_1_0
  have b26_ : 0 ≤ Int32.toInt (M21_.1 3 1) ∧ Int32.toInt (M21_.1 3 1) ≤ 999 := (by have u0 := b14_; have u1 := d19_; have u2 := pvok_r o23_ 3 1 (lo := 0) (hi := 1000000) rfl; omega)
  refine pw_blk hT 3 (S' := (152, [some (pvR 3), some (pvI 0), some (pvI 1), some (pvI n3), some (pvI 0), some (pvI 11), some (pvI (0 + 1))], [pvI (x20_ - (M21_.1 3 3))], M21_)) rfl ⟨trivial, rfl, trivial, trivial⟩ ?_
  exact pw_ret hT rfl (r := some (pvI (x20_ - (M21_.1 3 3)))) (M' := M21_) ⟨rfl, rfl⟩ ⟨⟨_, rfl, trivial⟩, o23_, f25_, (by omega)⟩
set_option maxHeartbeats 4000000 in
set_option maxRecDepth 10000 in
theorem sf_X0_bodyFrom_0_2 (M : pvM) (hok : pvOk M) (d : Nat) : PW 1 d (0, [some (pvI 0), some (pvI 2), none, none, none], [], M) (fun r X => r = some (pvI (((pvstab 1041).getD (Int32.toNatClampNeg ((0 * 3) + 2)) 0))) ∧ X = M) := by
  have hT : pvdom 1 = pvD_1 := rfl
  refine pw_blk hT 4 (S' := (4, [some (pvI 0), some (pvI 2), some (pvI 0), some (pvI 0), none], [], M)) rfl ⟨trivial, trivial, trivial, trivial, trivial⟩ ?_
  refine pw_blk hT 3 (S' := (9, [some (pvI 0), some (pvI 2), some (pvI 0), some (pvI 0), none], [pvI (Int32.ofNat (pvstab 1041).length), pvI 0], M)) rfl ⟨trivial, trivial, (by decide), trivial⟩ ?_
  refine pw_ic hT (c := (Int32.ofNat (pvstab 1041).length) ≤ 0) rfl rfl (fun c1_ => absurd c1_ (by decide)) (fun c1_ => ?_)
  refine pw_blk hT 1 (S' := (13, [some (pvI 0), some (pvI 2), some (pvI 0), some (pvI 0), none], [pvI 0], M)) rfl ⟨trivial, trivial⟩ ?_
  refine pw_if hT (c := 0 < 0) rfl rfl (fun c2_ => absurd c2_ (by decide)) (fun c2_ => ?_)
  refine pw_blk hT 7 (S' := (25, [some (pvI 0), some (pvI 2), some (pvI 0), some (pvI 0), some (pvI ((0 * 3) + 2))], [pvI ((0 * 3) + 2)], M)) rfl ⟨trivial, trivial, trivial, trivial, trivial, trivial, trivial, trivial⟩ ?_
  refine pw_if hT (c := ((0 * 3) + 2) < 0) rfl rfl (fun c3_ => absurd c3_ (by decide)) (fun c3_ => ?_)
  refine pw_blk hT 3 (S' := (34, [some (pvI 0), some (pvI 2), some (pvI 0), some (pvI 0), some (pvI ((0 * 3) + 2))], [pvI (Int32.ofNat (pvstab 1041).length), pvI ((0 * 3) + 2)], M)) rfl ⟨trivial, trivial, (by decide), trivial⟩ ?_
  refine pw_ic hT (c := (Int32.ofNat (pvstab 1041).length) ≤ ((0 * 3) + 2)) rfl rfl (fun c4_ => absurd c4_ (by decide)) (fun c4_ => ?_)
  refine pw_blk hT 3 (S' := (43, [some (pvI 0), some (pvI 2), some (pvI 0), some (pvI 0), some (pvI ((0 * 3) + 2))], [pvI ((pvstab 1041).getD (Int32.toNatClampNeg ((0 * 3) + 2)) 0)], M)) rfl ⟨trivial, trivial, ⟨by decide, (zr_in (n := 21) (show 2 ≤ Int32.toInt ((0 * 3) + 2) ∧ Int32.toInt ((0 * 3) + 2) ≤ 2 from (by decide)) (by decide) (by decide))⟩, trivial⟩ ?_
  refine pw_if hT (c := ((pvstab 1041).getD (Int32.toNatClampNeg ((0 * 3) + 2)) 0) = 0) rfl rfl (fun c5_ => absurd c5_ (by decide)) (fun c5_ => ?_)
  refine pw_blk hT 3 (S' := (52, [some (pvI 0), some (pvI 2), some (pvI 0), some (pvI 0), some (pvI ((0 * 3) + 2))], [pvI ((pvstab 1041).getD (Int32.toNatClampNeg ((0 * 3) + 2)) 0)], M)) rfl ⟨trivial, trivial, ⟨by decide, (zr_in (n := 21) (show 2 ≤ Int32.toInt ((0 * 3) + 2) ∧ Int32.toInt ((0 * 3) + 2) ≤ 2 from (by decide)) (by decide) (by decide))⟩, trivial⟩ ?_
  exact pw_ret hT rfl (r := some (pvI ((pvstab 1041).getD (Int32.toNatClampNeg ((0 * 3) + 2)) 0))) (M' := M) ⟨rfl, rfl⟩ ⟨rfl, rfl⟩
def fpL_X0_run_3_0_0_x_2_0 : List (Nat × Nat × Nat) := [(0, 3, 2), (0, 4, 0)]
def fp_X0_run_3_0_0_x_2_0 (q k : Nat) : Bool := pvfp fpL_X0_run_3_0_0_x_2_0 q k
theorem fp_X0_run_3_0_0_x_2_0_fp_X0_note_3_x (a b : Nat) (h : fp_X0_note_3_x a b = true) : fp_X0_run_3_0_0_x_2_0 a b = true := pvfp_sub (l1 := fpL_X0_note_3_x) (l2 := fpL_X0_run_3_0_0_x_2_0) (by decide) a b h
set_option maxHeartbeats 4000000 in
set_option maxRecDepth 10000 in
theorem sf_X0_run_3_0_0_x_2_0 (M : pvM) (hok : pvOk M) (n3 : Int32) (hc3_1 : 0 ≤ Int32.toInt (M.1 3 1) ∧ Int32.toInt (M.1 3 1) ≤ 998) (hc3_2 : 0 ≤ Int32.toInt (M.1 3 2) ∧ Int32.toInt (M.1 3 2) ≤ 0) (d : Nat) : PW 4 d (0, [some (pvR 3), some (pvI 0), some (pvI 0), some (pvI n3), some (pvI 2), none, none], [], M) (fun r X => (∃ x : Int32, r = some (pvI x) ∧ True) ∧ pvOk X ∧ pvFr fp_X0_run_3_0_0_x_2_0 M X ∧ Int32.toInt (X.1 3 1) ≤ Int32.toInt (M.1 3 1) + 1) := by
  have hT : pvdom 4 = pvD_4 := rfl
  refine pw_blk hT 2 (S' := (4, [some (pvR 3), some (pvI 0), some (pvI 0), some (pvI n3), some (pvI 2), none, none], [pvI 40, pvI 2], M)) rfl ⟨trivial, trivial, trivial⟩ ?_
  refine pw_ic hT (c := 2 ≤ 40) rfl rfl (fun c1_ => ?_) (fun c1_ => absurd (by decide) c1_)
  refine pw_blk hT 2 (S' := (11, [some (pvR 3), some (pvI 0), some (pvI 0), some (pvI n3), some (pvI 2), none, none], [pvI 0, pvI 0], M)) rfl ⟨trivial, trivial, trivial⟩ ?_
  refine pw_callT hT (as := [pvI 0, pvI 0]) (lo1 := [some (pvI 0), some (pvI 0), none, none, none]) (d1 := d) (rest := []) rfl rfl rfl rfl rfl (fun h => absurd h (by decide)) (Nat.zero_le _) rfl rfl rfl (sf_X0_bodyFrom_0_0 M hok d) ?_
  refine pw_eqI (show ((pvstab 1041).getD (Int32.toNatClampNeg ((0 * 3) + 0)) 0) = 10 from by decide) ?_
  show PW 4 d (14, [some (pvR 3), some (pvI 0), some (pvI 0), some (pvI n3), some (pvI 2), none, none], [pvI 10], M) _
  refine pw_blk hT 7 (S' := (25, [some (pvR 3), some (pvI 0), some (pvI 0), some (pvI n3), some (pvI 2), some (pvI 10), some (pvI (2 + 1))], [pvI 10, pvR 3], M)) rfl ⟨trivial, trivial, trivial, trivial, trivial, trivial, trivial, trivial⟩ ?_
  refine pw_callVd hT (as := [pvR 3, pvI 10]) (lo1 := [some (pvR 3), some (pvI 10)]) (d1 := d) (rest := []) rfl rfl rfl rfl rfl (fun _ => rfl) (Nat.zero_le _) rfl rfl rfl (sf_X0_note_3_x M hok 10 (zr_wide (show 10 ≤ Int32.toInt 10 ∧ Int32.toInt 10 ≤ 10 from (by decide)) (by decide) (by decide)) (zr_wide hc3_1 (by decide) (by decide)) d) (fun M9_ o11_ g12_ d7_ => ?_)
  have f13_ : pvFr fp_X0_run_3_0_0_x_2_0 M M9_ := pvfr_t g12_ pvfr_0 fp_X0_run_3_0_0_x_2_0_fp_X0_note_3_x
  have b14_ : 0 ≤ Int32.toInt (M9_.1 3 1) ∧ Int32.toInt (M9_.1 3 1) ≤ 999 := (by have u0 := hc3_1; have u1 := d7_; have u2 := pvok_r o11_ 3 1 (lo := 0) (hi := 1000000) rfl; omega)
  refine pw_blk hT 1 (S' := (30, [some (pvR 3), some (pvI 0), some (pvI 0), some (pvI n3), some (pvI 2), some (pvI 10), some (pvI (2 + 1))], [pvI 10], M9_)) rfl ⟨trivial, trivial⟩ ?_
  refine pw_sw hT rfl rfl ?_
  refine And.intro (fun c15_ => ?_) (fun c15_ => absurd (by decide) c15_)
  show PW 4 d (128, [some (pvR 3), some (pvI 0), some (pvI 0), some (pvI n3), some (pvI 2), some (pvI 10), some (pvI (2 + 1))], [], M9_) _
  refine pw_blk hT 4 (S' := (134, [some (pvR 3), some (pvI 0), some (pvI 0), some (pvI n3), some (pvI 2), some (pvI 10), some (pvI (2 + 1))], [pvI (n3 + (M9_.1 3 4))], M9_)) rfl ⟨trivial, trivial, rfl, trivial, trivial⟩ ?_
  exact pw_ret hT rfl (r := some (pvI (n3 + (M9_.1 3 4)))) (M' := M9_) ⟨rfl, rfl⟩ ⟨⟨_, rfl, trivial⟩, o11_, f13_, (by omega)⟩
def fpL_X0_run_3_0_1_x_1_0 : List (Nat × Nat × Nat) := [(0, 3, 2), (0, 4, 0)]
def fp_X0_run_3_0_1_x_1_0 (q k : Nat) : Bool := pvfp fpL_X0_run_3_0_1_x_1_0 q k
theorem fp_X0_run_3_0_1_x_1_0_fp_X0_note_3_x (a b : Nat) (h : fp_X0_note_3_x a b = true) : fp_X0_run_3_0_1_x_1_0 a b = true := pvfp_sub (l1 := fpL_X0_note_3_x) (l2 := fpL_X0_run_3_0_1_x_1_0) (by decide) a b h
theorem fp_X0_run_3_0_1_x_1_0_fp_X0_run_3_0_0_x_2_0 (a b : Nat) (h : fp_X0_run_3_0_0_x_2_0 a b = true) : fp_X0_run_3_0_1_x_1_0 a b = true := pvfp_sub (l1 := fpL_X0_run_3_0_0_x_2_0) (l2 := fpL_X0_run_3_0_1_x_1_0) (by decide) a b h
set_option maxHeartbeats 4000000 in
set_option maxRecDepth 10000 in
theorem sf_X0_run_3_0_1_x_1_0 (M : pvM) (hok : pvOk M) (n3 : Int32) (hc3_1 : 0 ≤ Int32.toInt (M.1 3 1) ∧ Int32.toInt (M.1 3 1) ≤ 997) (hc3_2 : 0 ≤ Int32.toInt (M.1 3 2) ∧ Int32.toInt (M.1 3 2) ≤ 0) (d : Nat) (hd : 1 ≤ d) : PW 4 d (0, [some (pvR 3), some (pvI 0), some (pvI 1), some (pvI n3), some (pvI 1), none, none], [], M) (fun r X => (∃ x : Int32, r = some (pvI x) ∧ True) ∧ pvOk X ∧ pvFr fp_X0_run_3_0_1_x_1_0 M X ∧ Int32.toInt (X.1 3 1) ≤ Int32.toInt (M.1 3 1) + 2) := by
  have hT : pvdom 4 = pvD_4 := rfl
  refine pw_blk hT 2 (S' := (4, [some (pvR 3), some (pvI 0), some (pvI 1), some (pvI n3), some (pvI 1), none, none], [pvI 40, pvI 1], M)) rfl ⟨trivial, trivial, trivial⟩ ?_
  refine pw_ic hT (c := 1 ≤ 40) rfl rfl (fun c1_ => ?_) (fun c1_ => absurd (by decide) c1_)
  refine pw_blk hT 2 (S' := (11, [some (pvR 3), some (pvI 0), some (pvI 1), some (pvI n3), some (pvI 1), none, none], [pvI 1, pvI 0], M)) rfl ⟨trivial, trivial, trivial⟩ ?_
  refine pw_callT hT (as := [pvI 0, pvI 1]) (lo1 := [some (pvI 0), some (pvI 1), none, none, none]) (d1 := d) (rest := []) rfl rfl rfl rfl rfl (fun h => absurd h (by decide)) (Nat.zero_le _) rfl rfl rfl (sf_X0_bodyFrom_0_1 M hok d) ?_
  refine pw_eqI (show ((pvstab 1041).getD (Int32.toNatClampNeg ((0 * 3) + 1)) 0) = 11 from by decide) ?_
  show PW 4 d (14, [some (pvR 3), some (pvI 0), some (pvI 1), some (pvI n3), some (pvI 1), none, none], [pvI 11], M) _
  refine pw_blk hT 7 (S' := (25, [some (pvR 3), some (pvI 0), some (pvI 1), some (pvI n3), some (pvI 1), some (pvI 11), some (pvI (1 + 1))], [pvI 11, pvR 3], M)) rfl ⟨trivial, trivial, trivial, trivial, trivial, trivial, trivial, trivial⟩ ?_
  refine pw_callVd hT (as := [pvR 3, pvI 11]) (lo1 := [some (pvR 3), some (pvI 11)]) (d1 := d) (rest := []) rfl rfl rfl rfl rfl (fun _ => rfl) (Nat.zero_le _) rfl rfl rfl (sf_X0_note_3_x M hok 11 (zr_wide (show 11 ≤ Int32.toInt 11 ∧ Int32.toInt 11 ≤ 11 from (by decide)) (by decide) (by decide)) (zr_wide hc3_1 (by decide) (by decide)) d) (fun M9_ o11_ g12_ d7_ => ?_)
  have f13_ : pvFr fp_X0_run_3_0_1_x_1_0 M M9_ := pvfr_t g12_ pvfr_0 fp_X0_run_3_0_1_x_1_0_fp_X0_note_3_x
  have b14_ : 0 ≤ Int32.toInt (M9_.1 3 1) ∧ Int32.toInt (M9_.1 3 1) ≤ 998 := (by have u0 := hc3_1; have u1 := d7_; have u2 := pvok_r o11_ 3 1 (lo := 0) (hi := 1000000) rfl; omega)
  refine pw_blk hT 1 (S' := (30, [some (pvR 3), some (pvI 0), some (pvI 1), some (pvI n3), some (pvI 1), some (pvI 11), some (pvI (1 + 1))], [pvI 11], M9_)) rfl ⟨trivial, trivial⟩ ?_
  refine pw_sw hT rfl rfl ?_
  refine And.intro (fun c15_ => absurd c15_ (by decide)) (fun c15_ => ?_)
  refine And.intro (fun c16_ => ?_) (fun c16_ => absurd (by decide) c16_)
  show PW 4 d (135, [some (pvR 3), some (pvI 0), some (pvI 1), some (pvI n3), some (pvI 1), some (pvI 11), some (pvI (1 + 1))], [], M9_) _
  have e17_ : (M9_.1 3 2) = (M.1 3 2) := (g12_ 3 2 rfl)
  have b18_ : 0 ≤ Int32.toInt (M9_.1 3 2) ∧ Int32.toInt (M9_.1 3 2) ≤ 0 := (by rw [e17_]; exact hc3_2)
  refine pw_blk hT 3 (S' := (140, [some (pvR 3), some (pvI 0), some (pvI 1), some (pvI n3), some (pvI 1), some (pvI 11), some (pvI (1 + 1))], [pvI (M9_.1 3 2), pvR 3], M9_)) rfl ⟨trivial, trivial, rfl, trivial⟩ ?_
  refine pw_eqI ((zi_eq _ (0)).mpr (by have u0 := b18_; have u1 : Int32.toInt (0) = 0 := (by decide); omega)) ?_
  refine pw_blk hT 3 (S' := (144, [some (pvR 3), some (pvI 0), some (pvI 1), some (pvI n3), some (pvI 1), some (pvI 11), some (pvI (1 + 1))], [pvI (1 + 1), pvI n3, pvI 0, pvI 0, pvR 3], M9_)) rfl ⟨trivial, trivial, trivial, trivial⟩ ?_
  refine pw_callGd hT (as := [pvR 3, pvI 0, pvI 0, pvI n3, pvI (1 + 1)]) (lo1 := [some (pvR 3), some (pvI 0), some (pvI 0), some (pvI n3), some (pvI (1 + 1)), none, none]) (d1 := (d - 1)) (rest := []) rfl rfl rfl rfl rfl (fun h => absurd h (by decide)) (show 1 ≤ d by omega) rfl rfl rfl (sf_X0_run_3_0_0_x_2_0 M9_ o11_ n3 b14_ b18_ (d - 1)) (fun x20_ M21_ b22_ o23_ g24_ d19_ => ?_)
  have f25_ : pvFr fp_X0_run_3_0_1_x_1_0 M M21_ := pvfr_t g24_ f13_ fp_X0_run_3_0_1_x_1_0_fp_X0_run_3_0_0_x_2_0
  have b26_ : 0 ≤ Int32.toInt (M21_.1 3 1) ∧ Int32.toInt (M21_.1 3 1) ≤ 999 := (by have u0 := b14_; have u1 := d19_; have u2 := pvok_r o23_ 3 1 (lo := 0) (hi := 1000000) rfl; omega)
  refine pw_blk hT 3 (S' := (152, [some (pvR 3), some (pvI 0), some (pvI 1), some (pvI n3), some (pvI 1), some (pvI 11), some (pvI (1 + 1))], [pvI (x20_ - (M21_.1 3 3))], M21_)) rfl ⟨trivial, rfl, trivial, trivial⟩ ?_
  exact pw_ret hT rfl (r := some (pvI (x20_ - (M21_.1 3 3)))) (M' := M21_) ⟨rfl, rfl⟩ ⟨⟨_, rfl, trivial⟩, o23_, f25_, (by omega)⟩
def fpL_X0_run_3_0_2_x_0_0 : List (Nat × Nat × Nat) := [(0, 3, 2), (0, 4, 0)]
def fp_X0_run_3_0_2_x_0_0 (q k : Nat) : Bool := pvfp fpL_X0_run_3_0_2_x_0_0 q k
theorem fp_X0_run_3_0_2_x_0_0_fp_X0_note_3_x (a b : Nat) (h : fp_X0_note_3_x a b = true) : fp_X0_run_3_0_2_x_0_0 a b = true := pvfp_sub (l1 := fpL_X0_note_3_x) (l2 := fpL_X0_run_3_0_2_x_0_0) (by decide) a b h
theorem fp_X0_run_3_0_2_x_0_0_fp_X0_run_3_0_1_x_1_0 (a b : Nat) (h : fp_X0_run_3_0_1_x_1_0 a b = true) : fp_X0_run_3_0_2_x_0_0 a b = true := pvfp_sub (l1 := fpL_X0_run_3_0_1_x_1_0) (l2 := fpL_X0_run_3_0_2_x_0_0) (by decide) a b h
set_option maxHeartbeats 4000000 in
set_option maxRecDepth 10000 in
theorem sf_X0_run_3_0_2_x_0_0 (M : pvM) (hok : pvOk M) (n3 : Int32) (hc3_1 : 0 ≤ Int32.toInt (M.1 3 1) ∧ Int32.toInt (M.1 3 1) ≤ 996) (hc3_2 : 0 ≤ Int32.toInt (M.1 3 2) ∧ Int32.toInt (M.1 3 2) ≤ 0) (d : Nat) (hd : 2 ≤ d) : PW 4 d (0, [some (pvR 3), some (pvI 0), some (pvI 2), some (pvI n3), some (pvI 0), none, none], [], M) (fun r X => (∃ x : Int32, r = some (pvI x) ∧ True) ∧ pvOk X ∧ pvFr fp_X0_run_3_0_2_x_0_0 M X ∧ Int32.toInt (X.1 3 1) ≤ Int32.toInt (M.1 3 1) + 3) := by
  have hT : pvdom 4 = pvD_4 := rfl
  refine pw_blk hT 2 (S' := (4, [some (pvR 3), some (pvI 0), some (pvI 2), some (pvI n3), some (pvI 0), none, none], [pvI 40, pvI 0], M)) rfl ⟨trivial, trivial, trivial⟩ ?_
  refine pw_ic hT (c := 0 ≤ 40) rfl rfl (fun c1_ => ?_) (fun c1_ => absurd (by decide) c1_)
  refine pw_blk hT 2 (S' := (11, [some (pvR 3), some (pvI 0), some (pvI 2), some (pvI n3), some (pvI 0), none, none], [pvI 2, pvI 0], M)) rfl ⟨trivial, trivial, trivial⟩ ?_
  refine pw_callT hT (as := [pvI 0, pvI 2]) (lo1 := [some (pvI 0), some (pvI 2), none, none, none]) (d1 := d) (rest := []) rfl rfl rfl rfl rfl (fun h => absurd h (by decide)) (Nat.zero_le _) rfl rfl rfl (sf_X0_bodyFrom_0_2 M hok d) ?_
  refine pw_eqI (show ((pvstab 1041).getD (Int32.toNatClampNeg ((0 * 3) + 2)) 0) = 12 from by decide) ?_
  show PW 4 d (14, [some (pvR 3), some (pvI 0), some (pvI 2), some (pvI n3), some (pvI 0), none, none], [pvI 12], M) _
  refine pw_blk hT 7 (S' := (25, [some (pvR 3), some (pvI 0), some (pvI 2), some (pvI n3), some (pvI 0), some (pvI 12), some (pvI (0 + 1))], [pvI 12, pvR 3], M)) rfl ⟨trivial, trivial, trivial, trivial, trivial, trivial, trivial, trivial⟩ ?_
  refine pw_callVd hT (as := [pvR 3, pvI 12]) (lo1 := [some (pvR 3), some (pvI 12)]) (d1 := d) (rest := []) rfl rfl rfl rfl rfl (fun _ => rfl) (Nat.zero_le _) rfl rfl rfl (sf_X0_note_3_x M hok 12 (zr_wide (show 12 ≤ Int32.toInt 12 ∧ Int32.toInt 12 ≤ 12 from (by decide)) (by decide) (by decide)) (zr_wide hc3_1 (by decide) (by decide)) d) (fun M9_ o11_ g12_ d7_ => ?_)
  have f13_ : pvFr fp_X0_run_3_0_2_x_0_0 M M9_ := pvfr_t g12_ pvfr_0 fp_X0_run_3_0_2_x_0_0_fp_X0_note_3_x
  have b14_ : 0 ≤ Int32.toInt (M9_.1 3 1) ∧ Int32.toInt (M9_.1 3 1) ≤ 997 := (by have u0 := hc3_1; have u1 := d7_; have u2 := pvok_r o11_ 3 1 (lo := 0) (hi := 1000000) rfl; omega)
  refine pw_blk hT 1 (S' := (30, [some (pvR 3), some (pvI 0), some (pvI 2), some (pvI n3), some (pvI 0), some (pvI 12), some (pvI (0 + 1))], [pvI 12], M9_)) rfl ⟨trivial, trivial⟩ ?_
  refine pw_sw hT rfl rfl ?_
  refine And.intro (fun c15_ => absurd c15_ (by decide)) (fun c15_ => ?_)
  refine And.intro (fun c16_ => absurd c16_ (by decide)) (fun c16_ => ?_)
  refine And.intro (fun c17_ => ?_) (fun c17_ => absurd (by decide) c17_)
  show PW 4 d (153, [some (pvR 3), some (pvI 0), some (pvI 2), some (pvI n3), some (pvI 0), some (pvI 12), some (pvI (0 + 1))], [], M9_) _
  have e18_ : (M9_.1 3 2) = (M.1 3 2) := (g12_ 3 2 rfl)
  have b19_ : 0 ≤ Int32.toInt (M9_.1 3 2) ∧ Int32.toInt (M9_.1 3 2) ≤ 0 := (by rw [e18_]; exact hc3_2)
  refine pw_blk hT 3 (S' := (158, [some (pvR 3), some (pvI 0), some (pvI 2), some (pvI n3), some (pvI 0), some (pvI 12), some (pvI (0 + 1))], [pvI (M9_.1 3 2), pvR 3], M9_)) rfl ⟨trivial, trivial, rfl, trivial⟩ ?_
  refine pw_eqI ((zi_eq _ (0)).mpr (by have u0 := b19_; have u1 : Int32.toInt (0) = 0 := (by decide); omega)) ?_
  refine pw_blk hT 3 (S' := (162, [some (pvR 3), some (pvI 0), some (pvI 2), some (pvI n3), some (pvI 0), some (pvI 12), some (pvI (0 + 1))], [pvI (0 + 1), pvI n3, pvI 1, pvI 0, pvR 3], M9_)) rfl ⟨trivial, trivial, trivial, trivial⟩ ?_
  refine pw_callGd hT (as := [pvR 3, pvI 0, pvI 1, pvI n3, pvI (0 + 1)]) (lo1 := [some (pvR 3), some (pvI 0), some (pvI 1), some (pvI n3), some (pvI (0 + 1)), none, none]) (d1 := (d - 1)) (rest := []) rfl rfl rfl rfl rfl (fun h => absurd h (by decide)) (show 1 ≤ d by omega) rfl rfl rfl (sf_X0_run_3_0_1_x_1_0 M9_ o11_ n3 b14_ b19_ (d - 1) (by omega)) (fun x21_ M22_ b23_ o24_ g25_ d20_ => ?_)
  have f26_ : pvFr fp_X0_run_3_0_2_x_0_0 M M22_ := pvfr_t g25_ f13_ fp_X0_run_3_0_2_x_0_0_fp_X0_run_3_0_1_x_1_0
  have b27_ : 0 ≤ Int32.toInt (M22_.1 3 1) ∧ Int32.toInt (M22_.1 3 1) ≤ 999 := (by have u0 := b14_; have u1 := d20_; have u2 := pvok_r o24_ 3 1 (lo := 0) (hi := 1000000) rfl; omega)
  refine pw_blk hT 2 (S' := (167, [some (pvR 3), some (pvI 0), some (pvI 2), some (pvI n3), some (pvI 0), some (pvI 12), some (pvI (0 + 1))], [pvI (x21_ * 2)], M22_)) rfl ⟨trivial, trivial, trivial⟩ ?_
  exact pw_ret hT rfl (r := some (pvI (x21_ * 2))) (M' := M22_) ⟨rfl, rfl⟩ ⟨⟨_, rfl, trivial⟩, o24_, f26_, (by omega)⟩
set_option maxHeartbeats 4000000 in
set_option maxRecDepth 10000 in
theorem sf_X3_above_1 (M : pvM) (hok : pvOk M) (d : Nat) : PW 131 d (0, [some (pvI 1)], [], M) (fun r X => r = some (pvI (((pvstab 1040).getD (Int32.toNatClampNeg 1) 0))) ∧ X = M) := by
  have hT : pvdom 131 = pvD_131 := rfl
  refine pw_blk hT 1 (S' := (1, [some (pvI 1)], [pvI 1], M)) rfl ⟨trivial, trivial⟩ ?_
  refine pw_if hT (c := 1 < 0) rfl rfl (fun c1_ => absurd c1_ (by decide)) (fun c1_ => ?_)
  refine pw_blk hT 3 (S' := (9, [some (pvI 1)], [pvI (Int32.ofNat (pvstab 1040).length), pvI 1], M)) rfl ⟨trivial, trivial, (by decide), trivial⟩ ?_
  refine pw_ic hT (c := 1 < (Int32.ofNat (pvstab 1040).length)) rfl rfl (fun c2_ => ?_) (fun c2_ => absurd (by decide) c2_)
  refine pw_blk hT 3 (S' := (21, [some (pvI 1)], [pvI ((pvstab 1040).getD (Int32.toNatClampNeg 1) 0)], M)) rfl ⟨trivial, trivial, ⟨by decide, (zr_in (n := 7) (show 1 ≤ Int32.toInt 1 ∧ Int32.toInt 1 ≤ 1 from (by decide)) (by decide) (by decide))⟩, trivial⟩ ?_
  exact pw_ret hT rfl (r := some (pvI ((pvstab 1040).getD (Int32.toNatClampNeg 1) 0))) (M' := M) ⟨rfl, rfl⟩ ⟨rfl, rfl⟩
set_option maxHeartbeats 4000000 in
set_option maxRecDepth 10000 in
theorem sf_X0_bodyFrom_1_0 (M : pvM) (hok : pvOk M) (d : Nat) : PW 1 d (0, [some (pvI 1), some (pvI 0), none, none, none], [], M) (fun r X => r = some (pvI (((pvstab 1041).getD (Int32.toNatClampNeg ((0 * 3) + 0)) 0))) ∧ X = M) := by
  have hT : pvdom 1 = pvD_1 := rfl
  refine pw_blk hT 4 (S' := (4, [some (pvI 1), some (pvI 0), some (pvI 1), some (pvI 0), none], [], M)) rfl ⟨trivial, trivial, trivial, trivial, trivial⟩ ?_
  refine pw_blk hT 3 (S' := (9, [some (pvI 1), some (pvI 0), some (pvI 1), some (pvI 0), none], [pvI (Int32.ofNat (pvstab 1041).length), pvI 0], M)) rfl ⟨trivial, trivial, (by decide), trivial⟩ ?_
  refine pw_ic hT (c := (Int32.ofNat (pvstab 1041).length) ≤ 0) rfl rfl (fun c1_ => absurd c1_ (by decide)) (fun c1_ => ?_)
  refine pw_blk hT 1 (S' := (13, [some (pvI 1), some (pvI 0), some (pvI 1), some (pvI 0), none], [pvI 1], M)) rfl ⟨trivial, trivial⟩ ?_
  refine pw_if hT (c := 1 < 0) rfl rfl (fun c2_ => absurd c2_ (by decide)) (fun c2_ => ?_)
  refine pw_blk hT 7 (S' := (25, [some (pvI 1), some (pvI 0), some (pvI 1), some (pvI 0), some (pvI ((1 * 3) + 0))], [pvI ((1 * 3) + 0)], M)) rfl ⟨trivial, trivial, trivial, trivial, trivial, trivial, trivial, trivial⟩ ?_
  refine pw_if hT (c := ((1 * 3) + 0) < 0) rfl rfl (fun c3_ => absurd c3_ (by decide)) (fun c3_ => ?_)
  refine pw_blk hT 3 (S' := (34, [some (pvI 1), some (pvI 0), some (pvI 1), some (pvI 0), some (pvI ((1 * 3) + 0))], [pvI (Int32.ofNat (pvstab 1041).length), pvI ((1 * 3) + 0)], M)) rfl ⟨trivial, trivial, (by decide), trivial⟩ ?_
  refine pw_ic hT (c := (Int32.ofNat (pvstab 1041).length) ≤ ((1 * 3) + 0)) rfl rfl (fun c4_ => absurd c4_ (by decide)) (fun c4_ => ?_)
  refine pw_blk hT 3 (S' := (43, [some (pvI 1), some (pvI 0), some (pvI 1), some (pvI 0), some (pvI ((1 * 3) + 0))], [pvI ((pvstab 1041).getD (Int32.toNatClampNeg ((1 * 3) + 0)) 0)], M)) rfl ⟨trivial, trivial, ⟨by decide, (zr_in (n := 21) (show 3 ≤ Int32.toInt ((1 * 3) + 0) ∧ Int32.toInt ((1 * 3) + 0) ≤ 3 from (by decide)) (by decide) (by decide))⟩, trivial⟩ ?_
  refine pw_if hT (c := ((pvstab 1041).getD (Int32.toNatClampNeg ((1 * 3) + 0)) 0) = 0) rfl rfl (fun c5_ => ?_) (fun c5_ => absurd (by decide) c5_)
  refine pw_blk hT 1 (S' := (54, [some (pvI 1), some (pvI 0), some (pvI 1), some (pvI 0), some (pvI ((1 * 3) + 0))], [pvI 1], M)) rfl ⟨trivial, trivial⟩ ?_
  refine pw_callT hT (as := [pvI 1]) (lo1 := [some (pvI 1)]) (d1 := d) (rest := []) rfl rfl rfl rfl rfl (fun h => absurd h (by decide)) (Nat.zero_le _) rfl rfl rfl (sf_X3_above_1 M hok d) ?_
  refine pw_eqI (show ((pvstab 1040).getD (Int32.toNatClampNeg 1) 0) = 0 from by decide) ?_
  show PW 1 d (57, [some (pvI 1), some (pvI 0), some (pvI 1), some (pvI 0), some (pvI ((1 * 3) + 0))], [pvI 0], M) _
  refine pw_blk hT 3 (S' := (4, [some (pvI 1), some (pvI 0), some (pvI 0), some (pvI (0 + 1)), some (pvI ((1 * 3) + 0))], [], M)) rfl ⟨trivial, trivial, trivial, trivial⟩ ?_
  refine pw_blk hT 3 (S' := (9, [some (pvI 1), some (pvI 0), some (pvI 0), some (pvI (0 + 1)), some (pvI ((1 * 3) + 0))], [pvI (Int32.ofNat (pvstab 1041).length), pvI (0 + 1)], M)) rfl ⟨trivial, trivial, (by decide), trivial⟩ ?_
  refine pw_ic hT (c := (Int32.ofNat (pvstab 1041).length) ≤ (0 + 1)) rfl rfl (fun c11_ => absurd c11_ (by decide)) (fun c11_ => ?_)
  refine pw_blk hT 1 (S' := (13, [some (pvI 1), some (pvI 0), some (pvI 0), some (pvI (0 + 1)), some (pvI ((1 * 3) + 0))], [pvI 0], M)) rfl ⟨trivial, trivial⟩ ?_
  refine pw_if hT (c := 0 < 0) rfl rfl (fun c12_ => absurd c12_ (by decide)) (fun c12_ => ?_)
  refine pw_blk hT 7 (S' := (25, [some (pvI 1), some (pvI 0), some (pvI 0), some (pvI (0 + 1)), some (pvI ((0 * 3) + 0))], [pvI ((0 * 3) + 0)], M)) rfl ⟨trivial, trivial, trivial, trivial, trivial, trivial, trivial, trivial⟩ ?_
  refine pw_if hT (c := ((0 * 3) + 0) < 0) rfl rfl (fun c13_ => absurd c13_ (by decide)) (fun c13_ => ?_)
  refine pw_blk hT 3 (S' := (34, [some (pvI 1), some (pvI 0), some (pvI 0), some (pvI (0 + 1)), some (pvI ((0 * 3) + 0))], [pvI (Int32.ofNat (pvstab 1041).length), pvI ((0 * 3) + 0)], M)) rfl ⟨trivial, trivial, (by decide), trivial⟩ ?_
  refine pw_ic hT (c := (Int32.ofNat (pvstab 1041).length) ≤ ((0 * 3) + 0)) rfl rfl (fun c14_ => absurd c14_ (by decide)) (fun c14_ => ?_)
  refine pw_blk hT 3 (S' := (43, [some (pvI 1), some (pvI 0), some (pvI 0), some (pvI (0 + 1)), some (pvI ((0 * 3) + 0))], [pvI ((pvstab 1041).getD (Int32.toNatClampNeg ((0 * 3) + 0)) 0)], M)) rfl ⟨trivial, trivial, ⟨by decide, (zr_in (n := 21) (show 0 ≤ Int32.toInt ((0 * 3) + 0) ∧ Int32.toInt ((0 * 3) + 0) ≤ 0 from (by decide)) (by decide) (by decide))⟩, trivial⟩ ?_
  refine pw_if hT (c := ((pvstab 1041).getD (Int32.toNatClampNeg ((0 * 3) + 0)) 0) = 0) rfl rfl (fun c15_ => absurd c15_ (by decide)) (fun c15_ => ?_)
  refine pw_blk hT 3 (S' := (52, [some (pvI 1), some (pvI 0), some (pvI 0), some (pvI (0 + 1)), some (pvI ((0 * 3) + 0))], [pvI ((pvstab 1041).getD (Int32.toNatClampNeg ((0 * 3) + 0)) 0)], M)) rfl ⟨trivial, trivial, ⟨by decide, (zr_in (n := 21) (show 0 ≤ Int32.toInt ((0 * 3) + 0) ∧ Int32.toInt ((0 * 3) + 0) ≤ 0 from (by decide)) (by decide) (by decide))⟩, trivial⟩ ?_
  exact pw_ret hT rfl (r := some (pvI ((pvstab 1041).getD (Int32.toNatClampNeg ((0 * 3) + 0)) 0))) (M' := M) ⟨rfl, rfl⟩ ⟨rfl, rfl⟩
def fpL_X0_run_3_1_0_x_0_1 : List (Nat × Nat × Nat) := [(0, 3, 2), (0, 4, 0)]
def fp_X0_run_3_1_0_x_0_1 (q k : Nat) : Bool := pvfp fpL_X0_run_3_1_0_x_0_1 q k
theorem fp_X0_run_3_1_0_x_0_1_fp_X0_note_3_x (a b : Nat) (h : fp_X0_note_3_x a b = true) : fp_X0_run_3_1_0_x_0_1 a b = true := pvfp_sub (l1 := fpL_X0_note_3_x) (l2 := fpL_X0_run_3_1_0_x_0_1) (by decide) a b h
set_option maxHeartbeats 4000000 in
set_option maxRecDepth 10000 in
theorem sf_X0_run_3_1_0_x_0_1 (M : pvM) (hok : pvOk M) (n3 : Int32) (hc3_1 : 0 ≤ Int32.toInt (M.1 3 1) ∧ Int32.toInt (M.1 3 1) ≤ 998) (hc3_2 : 1 ≤ Int32.toInt (M.1 3 2) ∧ Int32.toInt (M.1 3 2) ≤ 1) (d : Nat) : PW 4 d (0, [some (pvR 3), some (pvI 1), some (pvI 0), some (pvI n3), some (pvI 0), none, none], [], M) (fun r X => (∃ x : Int32, r = some (pvI x) ∧ True) ∧ pvOk X ∧ pvFr fp_X0_run_3_1_0_x_0_1 M X ∧ Int32.toInt (X.1 3 1) ≤ Int32.toInt (M.1 3 1) + 1) := by
  have hT : pvdom 4 = pvD_4 := rfl
  refine pw_blk hT 2 (S' := (4, [some (pvR 3), some (pvI 1), some (pvI 0), some (pvI n3), some (pvI 0), none, none], [pvI 40, pvI 0], M)) rfl ⟨trivial, trivial, trivial⟩ ?_
  refine pw_ic hT (c := 0 ≤ 40) rfl rfl (fun c1_ => ?_) (fun c1_ => absurd (by decide) c1_)
  refine pw_blk hT 2 (S' := (11, [some (pvR 3), some (pvI 1), some (pvI 0), some (pvI n3), some (pvI 0), none, none], [pvI 0, pvI 1], M)) rfl ⟨trivial, trivial, trivial⟩ ?_
  refine pw_callT hT (as := [pvI 1, pvI 0]) (lo1 := [some (pvI 1), some (pvI 0), none, none, none]) (d1 := d) (rest := []) rfl rfl rfl rfl rfl (fun h => absurd h (by decide)) (Nat.zero_le _) rfl rfl rfl (sf_X0_bodyFrom_1_0 M hok d) ?_
  refine pw_eqI (show ((pvstab 1041).getD (Int32.toNatClampNeg ((0 * 3) + 0)) 0) = 10 from by decide) ?_
  show PW 4 d (14, [some (pvR 3), some (pvI 1), some (pvI 0), some (pvI n3), some (pvI 0), none, none], [pvI 10], M) _
  refine pw_blk hT 7 (S' := (25, [some (pvR 3), some (pvI 1), some (pvI 0), some (pvI n3), some (pvI 0), some (pvI 10), some (pvI (0 + 1))], [pvI 10, pvR 3], M)) rfl ⟨trivial, trivial, trivial, trivial, trivial, trivial, trivial, trivial⟩ ?_
  refine pw_callVd hT (as := [pvR 3, pvI 10]) (lo1 := [some (pvR 3), some (pvI 10)]) (d1 := d) (rest := []) rfl rfl rfl rfl rfl (fun _ => rfl) (Nat.zero_le _) rfl rfl rfl (sf_X0_note_3_x M hok 10 (zr_wide (show 10 ≤ Int32.toInt 10 ∧ Int32.toInt 10 ≤ 10 from (by decide)) (by decide) (by decide)) (zr_wide hc3_1 (by decide) (by decide)) d) (fun M9_ o11_ g12_ d7_ => ?_)
  have f13_ : pvFr fp_X0_run_3_1_0_x_0_1 M M9_ := pvfr_t g12_ pvfr_0 fp_X0_run_3_1_0_x_0_1_fp_X0_note_3_x
  have b14_ : 0 ≤ Int32.toInt (M9_.1 3 1) ∧ Int32.toInt (M9_.1 3 1) ≤ 999 := (by have u0 := hc3_1; have u1 := d7_; have u2 := pvok_r o11_ 3 1 (lo := 0) (hi := 1000000) rfl; omega)
  refine pw_blk hT 1 (S' := (30, [some (pvR 3), some (pvI 1), some (pvI 0), some (pvI n3), some (pvI 0), some (pvI 10), some (pvI (0 + 1))], [pvI 10], M9_)) rfl ⟨trivial, trivial⟩ ?_
  refine pw_sw hT rfl rfl ?_
  refine And.intro (fun c15_ => ?_) (fun c15_ => absurd (by decide) c15_)
  show PW 4 d (128, [some (pvR 3), some (pvI 1), some (pvI 0), some (pvI n3), some (pvI 0), some (pvI 10), some (pvI (0 + 1))], [], M9_) _
  refine pw_blk hT 4 (S' := (134, [some (pvR 3), some (pvI 1), some (pvI 0), some (pvI n3), some (pvI 0), some (pvI 10), some (pvI (0 + 1))], [pvI (n3 + (M9_.1 3 4))], M9_)) rfl ⟨trivial, trivial, rfl, trivial, trivial⟩ ?_
  exact pw_ret hT rfl (r := some (pvI (n3 + (M9_.1 3 4)))) (M' := M9_) ⟨rfl, rfl⟩ ⟨⟨_, rfl, trivial⟩, o11_, f13_, (by omega)⟩
set_option maxHeartbeats 4000000 in
set_option maxRecDepth 10000 in
theorem sf_X0_bodyFrom_1_1 (M : pvM) (hok : pvOk M) (d : Nat) : PW 1 d (0, [some (pvI 1), some (pvI 1), none, none, none], [], M) (fun r X => r = some (pvI (((pvstab 1041).getD (Int32.toNatClampNeg ((1 * 3) + 1)) 0))) ∧ X = M) := by
  have hT : pvdom 1 = pvD_1 := rfl
  refine pw_blk hT 4 (S' := (4, [some (pvI 1), some (pvI 1), some (pvI 1), some (pvI 0), none], [], M)) rfl ⟨trivial, trivial, trivial, trivial, trivial⟩ ?_
  refine pw_blk hT 3 (S' := (9, [some (pvI 1), some (pvI 1), some (pvI 1), some (pvI 0), none], [pvI (Int32.ofNat (pvstab 1041).length), pvI 0], M)) rfl ⟨trivial, trivial, (by decide), trivial⟩ ?_
  refine pw_ic hT (c := (Int32.ofNat (pvstab 1041).length) ≤ 0) rfl rfl (fun c1_ => absurd c1_ (by decide)) (fun c1_ => ?_)
  refine pw_blk hT 1 (S' := (13, [some (pvI 1), some (pvI 1), some (pvI 1), some (pvI 0), none], [pvI 1], M)) rfl ⟨trivial, trivial⟩ ?_
  refine pw_if hT (c := 1 < 0) rfl rfl (fun c2_ => absurd c2_ (by decide)) (fun c2_ => ?_)
  refine pw_blk hT 7 (S' := (25, [some (pvI 1), some (pvI 1), some (pvI 1), some (pvI 0), some (pvI ((1 * 3) + 1))], [pvI ((1 * 3) + 1)], M)) rfl ⟨trivial, trivial, trivial, trivial, trivial, trivial, trivial, trivial⟩ ?_
  refine pw_if hT (c := ((1 * 3) + 1) < 0) rfl rfl (fun c3_ => absurd c3_ (by decide)) (fun c3_ => ?_)
  refine pw_blk hT 3 (S' := (34, [some (pvI 1), some (pvI 1), some (pvI 1), some (pvI 0), some (pvI ((1 * 3) + 1))], [pvI (Int32.ofNat (pvstab 1041).length), pvI ((1 * 3) + 1)], M)) rfl ⟨trivial, trivial, (by decide), trivial⟩ ?_
  refine pw_ic hT (c := (Int32.ofNat (pvstab 1041).length) ≤ ((1 * 3) + 1)) rfl rfl (fun c4_ => absurd c4_ (by decide)) (fun c4_ => ?_)
  refine pw_blk hT 3 (S' := (43, [some (pvI 1), some (pvI 1), some (pvI 1), some (pvI 0), some (pvI ((1 * 3) + 1))], [pvI ((pvstab 1041).getD (Int32.toNatClampNeg ((1 * 3) + 1)) 0)], M)) rfl ⟨trivial, trivial, ⟨by decide, (zr_in (n := 21) (show 4 ≤ Int32.toInt ((1 * 3) + 1) ∧ Int32.toInt ((1 * 3) + 1) ≤ 4 from (by decide)) (by decide) (by decide))⟩, trivial⟩ ?_
  refine pw_if hT (c := ((pvstab 1041).getD (Int32.toNatClampNeg ((1 * 3) + 1)) 0) = 0) rfl rfl (fun c5_ => absurd c5_ (by decide)) (fun c5_ => ?_)
  refine pw_blk hT 3 (S' := (52, [some (pvI 1), some (pvI 1), some (pvI 1), some (pvI 0), some (pvI ((1 * 3) + 1))], [pvI ((pvstab 1041).getD (Int32.toNatClampNeg ((1 * 3) + 1)) 0)], M)) rfl ⟨trivial, trivial, ⟨by decide, (zr_in (n := 21) (show 4 ≤ Int32.toInt ((1 * 3) + 1) ∧ Int32.toInt ((1 * 3) + 1) ≤ 4 from (by decide)) (by decide) (by decide))⟩, trivial⟩ ?_
  exact pw_ret hT rfl (r := some (pvI ((pvstab 1041).getD (Int32.toNatClampNeg ((1 * 3) + 1)) 0))) (M' := M) ⟨rfl, rfl⟩ ⟨rfl, rfl⟩
def fpL_X0_run_3_1_0_x_2_1 : List (Nat × Nat × Nat) := [(0, 3, 2), (0, 4, 0)]
def fp_X0_run_3_1_0_x_2_1 (q k : Nat) : Bool := pvfp fpL_X0_run_3_1_0_x_2_1 q k
theorem fp_X0_run_3_1_0_x_2_1_fp_X0_note_3_x (a b : Nat) (h : fp_X0_note_3_x a b = true) : fp_X0_run_3_1_0_x_2_1 a b = true := pvfp_sub (l1 := fpL_X0_note_3_x) (l2 := fpL_X0_run_3_1_0_x_2_1) (by decide) a b h
set_option maxHeartbeats 4000000 in
set_option maxRecDepth 10000 in
theorem sf_X0_run_3_1_0_x_2_1 (M : pvM) (hok : pvOk M) (n3 : Int32) (hc3_1 : 0 ≤ Int32.toInt (M.1 3 1) ∧ Int32.toInt (M.1 3 1) ≤ 998) (hc3_2 : 1 ≤ Int32.toInt (M.1 3 2) ∧ Int32.toInt (M.1 3 2) ≤ 1) (d : Nat) : PW 4 d (0, [some (pvR 3), some (pvI 1), some (pvI 0), some (pvI n3), some (pvI 2), none, none], [], M) (fun r X => (∃ x : Int32, r = some (pvI x) ∧ True) ∧ pvOk X ∧ pvFr fp_X0_run_3_1_0_x_2_1 M X ∧ Int32.toInt (X.1 3 1) ≤ Int32.toInt (M.1 3 1) + 1) := by
  have hT : pvdom 4 = pvD_4 := rfl
  refine pw_blk hT 2 (S' := (4, [some (pvR 3), some (pvI 1), some (pvI 0), some (pvI n3), some (pvI 2), none, none], [pvI 40, pvI 2], M)) rfl ⟨trivial, trivial, trivial⟩ ?_
  refine pw_ic hT (c := 2 ≤ 40) rfl rfl (fun c1_ => ?_) (fun c1_ => absurd (by decide) c1_)
  refine pw_blk hT 2 (S' := (11, [some (pvR 3), some (pvI 1), some (pvI 0), some (pvI n3), some (pvI 2), none, none], [pvI 0, pvI 1], M)) rfl ⟨trivial, trivial, trivial⟩ ?_
  refine pw_callT hT (as := [pvI 1, pvI 0]) (lo1 := [some (pvI 1), some (pvI 0), none, none, none]) (d1 := d) (rest := []) rfl rfl rfl rfl rfl (fun h => absurd h (by decide)) (Nat.zero_le _) rfl rfl rfl (sf_X0_bodyFrom_1_0 M hok d) ?_
  refine pw_eqI (show ((pvstab 1041).getD (Int32.toNatClampNeg ((0 * 3) + 0)) 0) = 10 from by decide) ?_
  show PW 4 d (14, [some (pvR 3), some (pvI 1), some (pvI 0), some (pvI n3), some (pvI 2), none, none], [pvI 10], M) _
  refine pw_blk hT 7 (S' := (25, [some (pvR 3), some (pvI 1), some (pvI 0), some (pvI n3), some (pvI 2), some (pvI 10), some (pvI (2 + 1))], [pvI 10, pvR 3], M)) rfl ⟨trivial, trivial, trivial, trivial, trivial, trivial, trivial, trivial⟩ ?_
  refine pw_callVd hT (as := [pvR 3, pvI 10]) (lo1 := [some (pvR 3), some (pvI 10)]) (d1 := d) (rest := []) rfl rfl rfl rfl rfl (fun _ => rfl) (Nat.zero_le _) rfl rfl rfl (sf_X0_note_3_x M hok 10 (zr_wide (show 10 ≤ Int32.toInt 10 ∧ Int32.toInt 10 ≤ 10 from (by decide)) (by decide) (by decide)) (zr_wide hc3_1 (by decide) (by decide)) d) (fun M9_ o11_ g12_ d7_ => ?_)
  have f13_ : pvFr fp_X0_run_3_1_0_x_2_1 M M9_ := pvfr_t g12_ pvfr_0 fp_X0_run_3_1_0_x_2_1_fp_X0_note_3_x
  have b14_ : 0 ≤ Int32.toInt (M9_.1 3 1) ∧ Int32.toInt (M9_.1 3 1) ≤ 999 := (by have u0 := hc3_1; have u1 := d7_; have u2 := pvok_r o11_ 3 1 (lo := 0) (hi := 1000000) rfl; omega)
  refine pw_blk hT 1 (S' := (30, [some (pvR 3), some (pvI 1), some (pvI 0), some (pvI n3), some (pvI 2), some (pvI 10), some (pvI (2 + 1))], [pvI 10], M9_)) rfl ⟨trivial, trivial⟩ ?_
  refine pw_sw hT rfl rfl ?_
  refine And.intro (fun c15_ => ?_) (fun c15_ => absurd (by decide) c15_)
  show PW 4 d (128, [some (pvR 3), some (pvI 1), some (pvI 0), some (pvI n3), some (pvI 2), some (pvI 10), some (pvI (2 + 1))], [], M9_) _
  refine pw_blk hT 4 (S' := (134, [some (pvR 3), some (pvI 1), some (pvI 0), some (pvI n3), some (pvI 2), some (pvI 10), some (pvI (2 + 1))], [pvI (n3 + (M9_.1 3 4))], M9_)) rfl ⟨trivial, trivial, rfl, trivial, trivial⟩ ?_
  exact pw_ret hT rfl (r := some (pvI (n3 + (M9_.1 3 4)))) (M' := M9_) ⟨rfl, rfl⟩ ⟨⟨_, rfl, trivial⟩, o11_, f13_, (by omega)⟩
def fpL_X0_run_3_0_1_x_1_1 : List (Nat × Nat × Nat) := [(0, 3, 2), (0, 4, 0)]
def fp_X0_run_3_0_1_x_1_1 (q k : Nat) : Bool := pvfp fpL_X0_run_3_0_1_x_1_1 q k
theorem fp_X0_run_3_0_1_x_1_1_fp_X0_note_3_x (a b : Nat) (h : fp_X0_note_3_x a b = true) : fp_X0_run_3_0_1_x_1_1 a b = true := pvfp_sub (l1 := fpL_X0_note_3_x) (l2 := fpL_X0_run_3_0_1_x_1_1) (by decide) a b h
theorem fp_X0_run_3_0_1_x_1_1_fp_X0_run_3_1_0_x_2_1 (a b : Nat) (h : fp_X0_run_3_1_0_x_2_1 a b = true) : fp_X0_run_3_0_1_x_1_1 a b = true := pvfp_sub (l1 := fpL_X0_run_3_1_0_x_2_1) (l2 := fpL_X0_run_3_0_1_x_1_1) (by decide) a b h
set_option maxHeartbeats 4000000 in
set_option maxRecDepth 10000 in
theorem sf_X0_run_3_0_1_x_1_1 (M : pvM) (hok : pvOk M) (n3 : Int32) (hc3_1 : 0 ≤ Int32.toInt (M.1 3 1) ∧ Int32.toInt (M.1 3 1) ≤ 997) (hc3_2 : 1 ≤ Int32.toInt (M.1 3 2) ∧ Int32.toInt (M.1 3 2) ≤ 1) (d : Nat) (hd : 1 ≤ d) : PW 4 d (0, [some (pvR 3), some (pvI 0), some (pvI 1), some (pvI n3), some (pvI 1), none, none], [], M) (fun r X => (∃ x : Int32, r = some (pvI x) ∧ True) ∧ pvOk X ∧ pvFr fp_X0_run_3_0_1_x_1_1 M X ∧ Int32.toInt (X.1 3 1) ≤ Int32.toInt (M.1 3 1) + 2) := by
  have hT : pvdom 4 = pvD_4 := rfl
  refine pw_blk hT 2 (S' := (4, [some (pvR 3), some (pvI 0), some (pvI 1), some (pvI n3), some (pvI 1), none, none], [pvI 40, pvI 1], M)) rfl ⟨trivial, trivial, trivial⟩ ?_
  refine pw_ic hT (c := 1 ≤ 40) rfl rfl (fun c1_ => ?_) (fun c1_ => absurd (by decide) c1_)
  refine pw_blk hT 2 (S' := (11, [some (pvR 3), some (pvI 0), some (pvI 1), some (pvI n3), some (pvI 1), none, none], [pvI 1, pvI 0], M)) rfl ⟨trivial, trivial, trivial⟩ ?_
  refine pw_callT hT (as := [pvI 0, pvI 1]) (lo1 := [some (pvI 0), some (pvI 1), none, none, none]) (d1 := d) (rest := []) rfl rfl rfl rfl rfl (fun h => absurd h (by decide)) (Nat.zero_le _) rfl rfl rfl (sf_X0_bodyFrom_0_1 M hok d) ?_
  refine pw_eqI (show ((pvstab 1041).getD (Int32.toNatClampNeg ((0 * 3) + 1)) 0) = 11 from by decide) ?_
  show PW 4 d (14, [some (pvR 3), some (pvI 0), some (pvI 1), some (pvI n3), some (pvI 1), none, none], [pvI 11], M) _
  refine pw_blk hT 7 (S' := (25, [some (pvR 3), some (pvI 0), some (pvI 1), some (pvI n3), some (pvI 1), some (pvI 11), some (pvI (1 + 1))], [pvI 11, pvR 3], M)) rfl ⟨trivial, trivial, trivial, trivial, trivial, trivial, trivial, trivial⟩ ?_
  refine pw_callVd hT (as := [pvR 3, pvI 11]) (lo1 := [some (pvR 3), some (pvI 11)]) (d1 := d) (rest := []) rfl rfl rfl rfl rfl (fun _ => rfl) (Nat.zero_le _) rfl rfl rfl (sf_X0_note_3_x M hok 11 (zr_wide (show 11 ≤ Int32.toInt 11 ∧ Int32.toInt 11 ≤ 11 from (by decide)) (by decide) (by decide)) (zr_wide hc3_1 (by decide) (by decide)) d) (fun M9_ o11_ g12_ d7_ => ?_)
  have f13_ : pvFr fp_X0_run_3_0_1_x_1_1 M M9_ := pvfr_t g12_ pvfr_0 fp_X0_run_3_0_1_x_1_1_fp_X0_note_3_x
  have b14_ : 0 ≤ Int32.toInt (M9_.1 3 1) ∧ Int32.toInt (M9_.1 3 1) ≤ 998 := (by have u0 := hc3_1; have u1 := d7_; have u2 := pvok_r o11_ 3 1 (lo := 0) (hi := 1000000) rfl; omega)
  refine pw_blk hT 1 (S' := (30, [some (pvR 3), some (pvI 0), some (pvI 1), some (pvI n3), some (pvI 1), some (pvI 11), some (pvI (1 + 1))], [pvI 11], M9_)) rfl ⟨trivial, trivial⟩ ?_
  refine pw_sw hT rfl rfl ?_
  refine And.intro (fun c15_ => absurd c15_ (by decide)) (fun c15_ => ?_)
  refine And.intro (fun c16_ => ?_) (fun c16_ => absurd (by decide) c16_)
  show PW 4 d (135, [some (pvR 3), some (pvI 0), some (pvI 1), some (pvI n3), some (pvI 1), some (pvI 11), some (pvI (1 + 1))], [], M9_) _
  have e17_ : (M9_.1 3 2) = (M.1 3 2) := (g12_ 3 2 rfl)
  have b18_ : 1 ≤ Int32.toInt (M9_.1 3 2) ∧ Int32.toInt (M9_.1 3 2) ≤ 1 := (by rw [e17_]; exact hc3_2)
  refine pw_blk hT 3 (S' := (140, [some (pvR 3), some (pvI 0), some (pvI 1), some (pvI n3), some (pvI 1), some (pvI 11), some (pvI (1 + 1))], [pvI (M9_.1 3 2), pvR 3], M9_)) rfl ⟨trivial, trivial, rfl, trivial⟩ ?_
  refine pw_eqI ((zi_eq _ (1)).mpr (by have u0 := b18_; have u1 : Int32.toInt (1) = 1 := (by decide); omega)) ?_
  refine pw_blk hT 3 (S' := (144, [some (pvR 3), some (pvI 0), some (pvI 1), some (pvI n3), some (pvI 1), some (pvI 11), some (pvI (1 + 1))], [pvI (1 + 1), pvI n3, pvI 0, pvI 1, pvR 3], M9_)) rfl ⟨trivial, trivial, trivial, trivial⟩ ?_
  refine pw_callGd hT (as := [pvR 3, pvI 1, pvI 0, pvI n3, pvI (1 + 1)]) (lo1 := [some (pvR 3), some (pvI 1), some (pvI 0), some (pvI n3), some (pvI (1 + 1)), none, none]) (d1 := (d - 1)) (rest := []) rfl rfl rfl rfl rfl (fun h => absurd h (by decide)) (show 1 ≤ d by omega) rfl rfl rfl (sf_X0_run_3_1_0_x_2_1 M9_ o11_ n3 b14_ b18_ (d - 1)) (fun x20_ M21_ b22_ o23_ g24_ d19_ => ?_)
  have f25_ : pvFr fp_X0_run_3_0_1_x_1_1 M M21_ := pvfr_t g24_ f13_ fp_X0_run_3_0_1_x_1_1_fp_X0_run_3_1_0_x_2_1
  have b26_ : 0 ≤ Int32.toInt (M21_.1 3 1) ∧ Int32.toInt (M21_.1 3 1) ≤ 999 := (by have u0 := b14_; have u1 := d19_; have u2 := pvok_r o23_ 3 1 (lo := 0) (hi := 1000000) rfl; omega)
  refine pw_blk hT 3 (S' := (152, [some (pvR 3), some (pvI 0), some (pvI 1), some (pvI n3), some (pvI 1), some (pvI 11), some (pvI (1 + 1))], [pvI (x20_ - (M21_.1 3 3))], M21_)) rfl ⟨trivial, rfl, trivial, trivial⟩ ?_
  exact pw_ret hT rfl (r := some (pvI (x20_ - (M21_.1 3 3)))) (M' := M21_) ⟨rfl, rfl⟩ ⟨⟨_, rfl, trivial⟩, o23_, f25_, (by omega)⟩
def fpL_X0_run_3_1_1_x_0_1 : List (Nat × Nat × Nat) := [(0, 3, 2), (0, 4, 0)]
def fp_X0_run_3_1_1_x_0_1 (q k : Nat) : Bool := pvfp fpL_X0_run_3_1_1_x_0_1 q k
theorem fp_X0_run_3_1_1_x_0_1_fp_X0_note_3_x (a b : Nat) (h : fp_X0_note_3_x a b = true) : fp_X0_run_3_1_1_x_0_1 a b = true := pvfp_sub (l1 := fpL_X0_note_3_x) (l2 := fpL_X0_run_3_1_1_x_0_1) (by decide) a b h
theorem fp_X0_run_3_1_1_x_0_1_fp_X0_run_3_0_1_x_1_1 (a b : Nat) (h : fp_X0_run_3_0_1_x_1_1 a b = true) : fp_X0_run_3_1_1_x_0_1 a b = true := pvfp_sub (l1 := fpL_X0_run_3_0_1_x_1_1) (l2 := fpL_X0_run_3_1_1_x_0_1) (by decide) a b h
set_option maxHeartbeats 4000000 in
set_option maxRecDepth 10000 in
theorem sf_X0_run_3_1_1_x_0_1 (M : pvM) (hok : pvOk M) (n3 : Int32) (hc3_1 : 0 ≤ Int32.toInt (M.1 3 1) ∧ Int32.toInt (M.1 3 1) ≤ 996) (hc3_2 : 1 ≤ Int32.toInt (M.1 3 2) ∧ Int32.toInt (M.1 3 2) ≤ 1) (d : Nat) (hd : 2 ≤ d) : PW 4 d (0, [some (pvR 3), some (pvI 1), some (pvI 1), some (pvI n3), some (pvI 0), none, none], [], M) (fun r X => (∃ x : Int32, r = some (pvI x) ∧ True) ∧ pvOk X ∧ pvFr fp_X0_run_3_1_1_x_0_1 M X ∧ Int32.toInt (X.1 3 1) ≤ Int32.toInt (M.1 3 1) + 3) := by
  have hT : pvdom 4 = pvD_4 := rfl
  refine pw_blk hT 2 (S' := (4, [some (pvR 3), some (pvI 1), some (pvI 1), some (pvI n3), some (pvI 0), none, none], [pvI 40, pvI 0], M)) rfl ⟨trivial, trivial, trivial⟩ ?_
  refine pw_ic hT (c := 0 ≤ 40) rfl rfl (fun c1_ => ?_) (fun c1_ => absurd (by decide) c1_)
  refine pw_blk hT 2 (S' := (11, [some (pvR 3), some (pvI 1), some (pvI 1), some (pvI n3), some (pvI 0), none, none], [pvI 1, pvI 1], M)) rfl ⟨trivial, trivial, trivial⟩ ?_
  refine pw_callT hT (as := [pvI 1, pvI 1]) (lo1 := [some (pvI 1), some (pvI 1), none, none, none]) (d1 := d) (rest := []) rfl rfl rfl rfl rfl (fun h => absurd h (by decide)) (Nat.zero_le _) rfl rfl rfl (sf_X0_bodyFrom_1_1 M hok d) ?_
  refine pw_eqI (show ((pvstab 1041).getD (Int32.toNatClampNeg ((1 * 3) + 1)) 0) = 20 from by decide) ?_
  show PW 4 d (14, [some (pvR 3), some (pvI 1), some (pvI 1), some (pvI n3), some (pvI 0), none, none], [pvI 20], M) _
  refine pw_blk hT 7 (S' := (25, [some (pvR 3), some (pvI 1), some (pvI 1), some (pvI n3), some (pvI 0), some (pvI 20), some (pvI (0 + 1))], [pvI 20, pvR 3], M)) rfl ⟨trivial, trivial, trivial, trivial, trivial, trivial, trivial, trivial⟩ ?_
  refine pw_callVd hT (as := [pvR 3, pvI 20]) (lo1 := [some (pvR 3), some (pvI 20)]) (d1 := d) (rest := []) rfl rfl rfl rfl rfl (fun _ => rfl) (Nat.zero_le _) rfl rfl rfl (sf_X0_note_3_x M hok 20 (zr_wide (show 20 ≤ Int32.toInt 20 ∧ Int32.toInt 20 ≤ 20 from (by decide)) (by decide) (by decide)) (zr_wide hc3_1 (by decide) (by decide)) d) (fun M9_ o11_ g12_ d7_ => ?_)
  have f13_ : pvFr fp_X0_run_3_1_1_x_0_1 M M9_ := pvfr_t g12_ pvfr_0 fp_X0_run_3_1_1_x_0_1_fp_X0_note_3_x
  have b14_ : 0 ≤ Int32.toInt (M9_.1 3 1) ∧ Int32.toInt (M9_.1 3 1) ≤ 997 := (by have u0 := hc3_1; have u1 := d7_; have u2 := pvok_r o11_ 3 1 (lo := 0) (hi := 1000000) rfl; omega)
  refine pw_blk hT 1 (S' := (30, [some (pvR 3), some (pvI 1), some (pvI 1), some (pvI n3), some (pvI 0), some (pvI 20), some (pvI (0 + 1))], [pvI 20], M9_)) rfl ⟨trivial, trivial⟩ ?_
  refine pw_sw hT rfl rfl ?_
  refine And.intro (fun c15_ => absurd c15_ (by decide)) (fun c15_ => ?_)
  refine And.intro (fun c16_ => absurd c16_ (by decide)) (fun c16_ => ?_)
  refine And.intro (fun c17_ => absurd c17_ (by decide)) (fun c17_ => ?_)
  refine And.intro (fun c18_ => ?_) (fun c18_ => absurd (by decide) c18_)
  show PW 4 d (168, [some (pvR 3), some (pvI 1), some (pvI 1), some (pvI n3), some (pvI 0), some (pvI 20), some (pvI (0 + 1))], [], M9_) _
  refine pw_blk hT 5 (S' := (174, [some (pvR 3), some (pvI 1), some (pvI 1), some (pvI n3), some (pvI 0), some (pvI 20), some (pvI (0 + 1))], [pvI (0 + 1), pvI n3, pvI 1, pvI 0, pvR 3], M9_)) rfl ⟨trivial, trivial, trivial, trivial, trivial, trivial⟩ ?_
  have e19_ : (M9_.1 3 2) = (M.1 3 2) := (g12_ 3 2 rfl)
  have b20_ : 1 ≤ Int32.toInt (M9_.1 3 2) ∧ Int32.toInt (M9_.1 3 2) ≤ 1 := (by rw [e19_]; exact hc3_2)
  refine pw_callGd hT (as := [pvR 3, pvI 0, pvI 1, pvI n3, pvI (0 + 1)]) (lo1 := [some (pvR 3), some (pvI 0), some (pvI 1), some (pvI n3), some (pvI (0 + 1)), none, none]) (d1 := (d - 1)) (rest := []) rfl rfl rfl rfl rfl (fun h => absurd h (by decide)) (show 1 ≤ d by omega) rfl rfl rfl (sf_X0_run_3_0_1_x_1_1 M9_ o11_ n3 b14_ b20_ (d - 1) (by omega)) (fun x22_ M23_ b24_ o25_ g26_ d21_ => ?_)
  have f27_ : pvFr fp_X0_run_3_1_1_x_0_1 M M23_ := pvfr_t g26_ f13_ fp_X0_run_3_1_1_x_0_1_fp_X0_run_3_0_1_x_1_1
  have b28_ : 0 ≤ Int32.toInt (M23_.1 3 1) ∧ Int32.toInt (M23_.1 3 1) ≤ 999 := (by have u0 := b14_; have u1 := d21_; have u2 := pvok_r o25_ 3 1 (lo := 0) (hi := 1000000) rfl; omega)
  refine pw_blk hT 2 (S' := (180, [some (pvR 3), some (pvI 1), some (pvI 1), some (pvI n3), some (pvI 0), some (pvI 20), some (pvI (0 + 1))], [pvI (x22_ ^^^ 6)], M23_)) rfl ⟨trivial, trivial, trivial⟩ ?_
  exact pw_ret hT rfl (r := some (pvI (x22_ ^^^ 6))) (M' := M23_) ⟨rfl, rfl⟩ ⟨⟨_, rfl, trivial⟩, o25_, f27_, (by omega)⟩
set_option maxHeartbeats 4000000 in
set_option maxRecDepth 10000 in
theorem sf_X0_bodyFrom_1_2 (M : pvM) (hok : pvOk M) (d : Nat) : PW 1 d (0, [some (pvI 1), some (pvI 2), none, none, none], [], M) (fun r X => r = some (pvI (((pvstab 1041).getD (Int32.toNatClampNeg ((0 * 3) + 2)) 0))) ∧ X = M) := by
  have hT : pvdom 1 = pvD_1 := rfl
  refine pw_blk hT 4 (S' := (4, [some (pvI 1), some (pvI 2), some (pvI 1), some (pvI 0), none], [], M)) rfl ⟨trivial, trivial, trivial, trivial, trivial⟩ ?_
  refine pw_blk hT 3 (S' := (9, [some (pvI 1), some (pvI 2), some (pvI 1), some (pvI 0), none], [pvI (Int32.ofNat (pvstab 1041).length), pvI 0], M)) rfl ⟨trivial, trivial, (by decide), trivial⟩ ?_
  refine pw_ic hT (c := (Int32.ofNat (pvstab 1041).length) ≤ 0) rfl rfl (fun c1_ => absurd c1_ (by decide)) (fun c1_ => ?_)
  refine pw_blk hT 1 (S' := (13, [some (pvI 1), some (pvI 2), some (pvI 1), some (pvI 0), none], [pvI 1], M)) rfl ⟨trivial, trivial⟩ ?_
  refine pw_if hT (c := 1 < 0) rfl rfl (fun c2_ => absurd c2_ (by decide)) (fun c2_ => ?_)
  refine pw_blk hT 7 (S' := (25, [some (pvI 1), some (pvI 2), some (pvI 1), some (pvI 0), some (pvI ((1 * 3) + 2))], [pvI ((1 * 3) + 2)], M)) rfl ⟨trivial, trivial, trivial, trivial, trivial, trivial, trivial, trivial⟩ ?_
  refine pw_if hT (c := ((1 * 3) + 2) < 0) rfl rfl (fun c3_ => absurd c3_ (by decide)) (fun c3_ => ?_)
  refine pw_blk hT 3 (S' := (34, [some (pvI 1), some (pvI 2), some (pvI 1), some (pvI 0), some (pvI ((1 * 3) + 2))], [pvI (Int32.ofNat (pvstab 1041).length), pvI ((1 * 3) + 2)], M)) rfl ⟨trivial, trivial, (by decide), trivial⟩ ?_
  refine pw_ic hT (c := (Int32.ofNat (pvstab 1041).length) ≤ ((1 * 3) + 2)) rfl rfl (fun c4_ => absurd c4_ (by decide)) (fun c4_ => ?_)
  refine pw_blk hT 3 (S' := (43, [some (pvI 1), some (pvI 2), some (pvI 1), some (pvI 0), some (pvI ((1 * 3) + 2))], [pvI ((pvstab 1041).getD (Int32.toNatClampNeg ((1 * 3) + 2)) 0)], M)) rfl ⟨trivial, trivial, ⟨by decide, (zr_in (n := 21) (show 5 ≤ Int32.toInt ((1 * 3) + 2) ∧ Int32.toInt ((1 * 3) + 2) ≤ 5 from (by decide)) (by decide) (by decide))⟩, trivial⟩ ?_
  refine pw_if hT (c := ((pvstab 1041).getD (Int32.toNatClampNeg ((1 * 3) + 2)) 0) = 0) rfl rfl (fun c5_ => ?_) (fun c5_ => absurd (by decide) c5_)
  refine pw_blk hT 1 (S' := (54, [some (pvI 1), some (pvI 2), some (pvI 1), some (pvI 0), some (pvI ((1 * 3) + 2))], [pvI 1], M)) rfl ⟨trivial, trivial⟩ ?_
  refine pw_callT hT (as := [pvI 1]) (lo1 := [some (pvI 1)]) (d1 := d) (rest := []) rfl rfl rfl rfl rfl (fun h => absurd h (by decide)) (Nat.zero_le _) rfl rfl rfl (sf_X3_above_1 M hok d) ?_
  refine pw_eqI (show ((pvstab 1040).getD (Int32.toNatClampNeg 1) 0) = 0 from by decide) ?_
  show PW 1 d (57, [some (pvI 1), some (pvI 2), some (pvI 1), some (pvI 0), some (pvI ((1 * 3) + 2))], [pvI 0], M) _
  refine pw_blk hT 3 (S' := (4, [some (pvI 1), some (pvI 2), some (pvI 0), some (pvI (0 + 1)), some (pvI ((1 * 3) + 2))], [], M)) rfl ⟨trivial, trivial, trivial, trivial⟩ ?_
  refine pw_blk hT 3 (S' := (9, [some (pvI 1), some (pvI 2), some (pvI 0), some (pvI (0 + 1)), some (pvI ((1 * 3) + 2))], [pvI (Int32.ofNat (pvstab 1041).length), pvI (0 + 1)], M)) rfl ⟨trivial, trivial, (by decide), trivial⟩ ?_
  refine pw_ic hT (c := (Int32.ofNat (pvstab 1041).length) ≤ (0 + 1)) rfl rfl (fun c11_ => absurd c11_ (by decide)) (fun c11_ => ?_)
  refine pw_blk hT 1 (S' := (13, [some (pvI 1), some (pvI 2), some (pvI 0), some (pvI (0 + 1)), some (pvI ((1 * 3) + 2))], [pvI 0], M)) rfl ⟨trivial, trivial⟩ ?_
  refine pw_if hT (c := 0 < 0) rfl rfl (fun c12_ => absurd c12_ (by decide)) (fun c12_ => ?_)
  refine pw_blk hT 7 (S' := (25, [some (pvI 1), some (pvI 2), some (pvI 0), some (pvI (0 + 1)), some (pvI ((0 * 3) + 2))], [pvI ((0 * 3) + 2)], M)) rfl ⟨trivial, trivial, trivial, trivial, trivial, trivial, trivial, trivial⟩ ?_
  refine pw_if hT (c := ((0 * 3) + 2) < 0) rfl rfl (fun c13_ => absurd c13_ (by decide)) (fun c13_ => ?_)
  refine pw_blk hT 3 (S' := (34, [some (pvI 1), some (pvI 2), some (pvI 0), some (pvI (0 + 1)), some (pvI ((0 * 3) + 2))], [pvI (Int32.ofNat (pvstab 1041).length), pvI ((0 * 3) + 2)], M)) rfl ⟨trivial, trivial, (by decide), trivial⟩ ?_
  refine pw_ic hT (c := (Int32.ofNat (pvstab 1041).length) ≤ ((0 * 3) + 2)) rfl rfl (fun c14_ => absurd c14_ (by decide)) (fun c14_ => ?_)
  refine pw_blk hT 3 (S' := (43, [some (pvI 1), some (pvI 2), some (pvI 0), some (pvI (0 + 1)), some (pvI ((0 * 3) + 2))], [pvI ((pvstab 1041).getD (Int32.toNatClampNeg ((0 * 3) + 2)) 0)], M)) rfl ⟨trivial, trivial, ⟨by decide, (zr_in (n := 21) (show 2 ≤ Int32.toInt ((0 * 3) + 2) ∧ Int32.toInt ((0 * 3) + 2) ≤ 2 from (by decide)) (by decide) (by decide))⟩, trivial⟩ ?_
  refine pw_if hT (c := ((pvstab 1041).getD (Int32.toNatClampNeg ((0 * 3) + 2)) 0) = 0) rfl rfl (fun c15_ => absurd c15_ (by decide)) (fun c15_ => ?_)
  refine pw_blk hT 3 (S' := (52, [some (pvI 1), some (pvI 2), some (pvI 0), some (pvI (0 + 1)), some (pvI ((0 * 3) + 2))], [pvI ((pvstab 1041).getD (Int32.toNatClampNeg ((0 * 3) + 2)) 0)], M)) rfl ⟨trivial, trivial, ⟨by decide, (zr_in (n := 21) (show 2 ≤ Int32.toInt ((0 * 3) + 2) ∧ Int32.toInt ((0 * 3) + 2) ≤ 2 from (by decide)) (by decide) (by decide))⟩, trivial⟩ ?_
  exact pw_ret hT rfl (r := some (pvI ((pvstab 1041).getD (Int32.toNatClampNeg ((0 * 3) + 2)) 0))) (M' := M) ⟨rfl, rfl⟩ ⟨rfl, rfl⟩
def fpL_X0_run_3_1_0_x_3_1 : List (Nat × Nat × Nat) := [(0, 3, 2), (0, 4, 0)]
def fp_X0_run_3_1_0_x_3_1 (q k : Nat) : Bool := pvfp fpL_X0_run_3_1_0_x_3_1 q k
theorem fp_X0_run_3_1_0_x_3_1_fp_X0_note_3_x (a b : Nat) (h : fp_X0_note_3_x a b = true) : fp_X0_run_3_1_0_x_3_1 a b = true := pvfp_sub (l1 := fpL_X0_note_3_x) (l2 := fpL_X0_run_3_1_0_x_3_1) (by decide) a b h
set_option maxHeartbeats 4000000 in
set_option maxRecDepth 10000 in
theorem sf_X0_run_3_1_0_x_3_1 (M : pvM) (hok : pvOk M) (n3 : Int32) (hc3_1 : 0 ≤ Int32.toInt (M.1 3 1) ∧ Int32.toInt (M.1 3 1) ≤ 998) (hc3_2 : 1 ≤ Int32.toInt (M.1 3 2) ∧ Int32.toInt (M.1 3 2) ≤ 1) (d : Nat) : PW 4 d (0, [some (pvR 3), some (pvI 1), some (pvI 0), some (pvI n3), some (pvI 3), none, none], [], M) (fun r X => (∃ x : Int32, r = some (pvI x) ∧ True) ∧ pvOk X ∧ pvFr fp_X0_run_3_1_0_x_3_1 M X ∧ Int32.toInt (X.1 3 1) ≤ Int32.toInt (M.1 3 1) + 1) := by
  have hT : pvdom 4 = pvD_4 := rfl
  refine pw_blk hT 2 (S' := (4, [some (pvR 3), some (pvI 1), some (pvI 0), some (pvI n3), some (pvI 3), none, none], [pvI 40, pvI 3], M)) rfl ⟨trivial, trivial, trivial⟩ ?_
  refine pw_ic hT (c := 3 ≤ 40) rfl rfl (fun c1_ => ?_) (fun c1_ => absurd (by decide) c1_)
  refine pw_blk hT 2 (S' := (11, [some (pvR 3), some (pvI 1), some (pvI 0), some (pvI n3), some (pvI 3), none, none], [pvI 0, pvI 1], M)) rfl ⟨trivial, trivial, trivial⟩ ?_
  refine pw_callT hT (as := [pvI 1, pvI 0]) (lo1 := [some (pvI 1), some (pvI 0), none, none, none]) (d1 := d) (rest := []) rfl rfl rfl rfl rfl (fun h => absurd h (by decide)) (Nat.zero_le _) rfl rfl rfl (sf_X0_bodyFrom_1_0 M hok d) ?_
  refine pw_eqI (show ((pvstab 1041).getD (Int32.toNatClampNeg ((0 * 3) + 0)) 0) = 10 from by decide) ?_
  show PW 4 d (14, [some (pvR 3), some (pvI 1), some (pvI 0), some (pvI n3), some (pvI 3), none, none], [pvI 10], M) _
  refine pw_blk hT 7 (S' := (25, [some (pvR 3), some (pvI 1), some (pvI 0), some (pvI n3), some (pvI 3), some (pvI 10), some (pvI (3 + 1))], [pvI 10, pvR 3], M)) rfl ⟨trivial, trivial, trivial, trivial, trivial, trivial, trivial, trivial⟩ ?_
  refine pw_callVd hT (as := [pvR 3, pvI 10]) (lo1 := [some (pvR 3), some (pvI 10)]) (d1 := d) (rest := []) rfl rfl rfl rfl rfl (fun _ => rfl) (Nat.zero_le _) rfl rfl rfl (sf_X0_note_3_x M hok 10 (zr_wide (show 10 ≤ Int32.toInt 10 ∧ Int32.toInt 10 ≤ 10 from (by decide)) (by decide) (by decide)) (zr_wide hc3_1 (by decide) (by decide)) d) (fun M9_ o11_ g12_ d7_ => ?_)
  have f13_ : pvFr fp_X0_run_3_1_0_x_3_1 M M9_ := pvfr_t g12_ pvfr_0 fp_X0_run_3_1_0_x_3_1_fp_X0_note_3_x
  have b14_ : 0 ≤ Int32.toInt (M9_.1 3 1) ∧ Int32.toInt (M9_.1 3 1) ≤ 999 := (by have u0 := hc3_1; have u1 := d7_; have u2 := pvok_r o11_ 3 1 (lo := 0) (hi := 1000000) rfl; omega)
  refine pw_blk hT 1 (S' := (30, [some (pvR 3), some (pvI 1), some (pvI 0), some (pvI n3), some (pvI 3), some (pvI 10), some (pvI (3 + 1))], [pvI 10], M9_)) rfl ⟨trivial, trivial⟩ ?_
  refine pw_sw hT rfl rfl ?_
  refine And.intro (fun c15_ => ?_) (fun c15_ => absurd (by decide) c15_)
  show PW 4 d (128, [some (pvR 3), some (pvI 1), some (pvI 0), some (pvI n3), some (pvI 3), some (pvI 10), some (pvI (3 + 1))], [], M9_) _
  refine pw_blk hT 4 (S' := (134, [some (pvR 3), some (pvI 1), some (pvI 0), some (pvI n3), some (pvI 3), some (pvI 10), some (pvI (3 + 1))], [pvI (n3 + (M9_.1 3 4))], M9_)) rfl ⟨trivial, trivial, rfl, trivial, trivial⟩ ?_
  exact pw_ret hT rfl (r := some (pvI (n3 + (M9_.1 3 4)))) (M' := M9_) ⟨rfl, rfl⟩ ⟨⟨_, rfl, trivial⟩, o11_, f13_, (by omega)⟩
def fpL_X0_run_3_0_1_x_2_1 : List (Nat × Nat × Nat) := [(0, 3, 2), (0, 4, 0)]
def fp_X0_run_3_0_1_x_2_1 (q k : Nat) : Bool := pvfp fpL_X0_run_3_0_1_x_2_1 q k
theorem fp_X0_run_3_0_1_x_2_1_fp_X0_note_3_x (a b : Nat) (h : fp_X0_note_3_x a b = true) : fp_X0_run_3_0_1_x_2_1 a b = true := pvfp_sub (l1 := fpL_X0_note_3_x) (l2 := fpL_X0_run_3_0_1_x_2_1) (by decide) a b h
theorem fp_X0_run_3_0_1_x_2_1_fp_X0_run_3_1_0_x_3_1 (a b : Nat) (h : fp_X0_run_3_1_0_x_3_1 a b = true) : fp_X0_run_3_0_1_x_2_1 a b = true := pvfp_sub (l1 := fpL_X0_run_3_1_0_x_3_1) (l2 := fpL_X0_run_3_0_1_x_2_1) (by decide) a b h
set_option maxHeartbeats 4000000 in
set_option maxRecDepth 10000 in
theorem sf_X0_run_3_0_1_x_2_1 (M : pvM) (hok : pvOk M) (n3 : Int32) (hc3_1 : 0 ≤ Int32.toInt (M.1 3 1) ∧ Int32.toInt (M.1 3 1) ≤ 997) (hc3_2 : 1 ≤ Int32.toInt (M.1 3 2) ∧ Int32.toInt (M.1 3 2) ≤ 1) (d : Nat) (hd : 1 ≤ d) : PW 4 d (0, [some (pvR 3), some (pvI 0), some (pvI 1), some (pvI n3), some (pvI 2), none, none], [], M) (fun r X => (∃ x : Int32, r = some (pvI x) ∧ True) ∧ pvOk X ∧ pvFr fp_X0_run_3_0_1_x_2_1 M X ∧ Int32.toInt (X.1 3 1) ≤ Int32.toInt (M.1 3 1) + 2) := by
  have hT : pvdom 4 = pvD_4 := rfl
  refine pw_blk hT 2 (S' := (4, [some (pvR 3), some (pvI 0), some (pvI 1), some (pvI n3), some (pvI 2), none, none], [pvI 40, pvI 2], M)) rfl ⟨trivial, trivial, trivial⟩ ?_
  refine pw_ic hT (c := 2 ≤ 40) rfl rfl (fun c1_ => ?_) (fun c1_ => absurd (by decide) c1_)
  refine pw_blk hT 2 (S' := (11, [some (pvR 3), some (pvI 0), some (pvI 1), some (pvI n3), some (pvI 2), none, none], [pvI 1, pvI 0], M)) rfl ⟨trivial, trivial, trivial⟩ ?_
  refine pw_callT hT (as := [pvI 0, pvI 1]) (lo1 := [some (pvI 0), some (pvI 1), none, none, none]) (d1 := d) (rest := []) rfl rfl rfl rfl rfl (fun h => absurd h (by decide)) (Nat.zero_le _) rfl rfl rfl (sf_X0_bodyFrom_0_1 M hok d) ?_
  refine pw_eqI (show ((pvstab 1041).getD (Int32.toNatClampNeg ((0 * 3) + 1)) 0) = 11 from by decide) ?_
  show PW 4 d (14, [some (pvR 3), some (pvI 0), some (pvI 1), some (pvI n3), some (pvI 2), none, none], [pvI 11], M) _
  refine pw_blk hT 7 (S' := (25, [some (pvR 3), some (pvI 0), some (pvI 1), some (pvI n3), some (pvI 2), some (pvI 11), some (pvI (2 + 1))], [pvI 11, pvR 3], M)) rfl ⟨trivial, trivial, trivial, trivial, trivial, trivial, trivial, trivial⟩ ?_
  refine pw_callVd hT (as := [pvR 3, pvI 11]) (lo1 := [some (pvR 3), some (pvI 11)]) (d1 := d) (rest := []) rfl rfl rfl rfl rfl (fun _ => rfl) (Nat.zero_le _) rfl rfl rfl (sf_X0_note_3_x M hok 11 (zr_wide (show 11 ≤ Int32.toInt 11 ∧ Int32.toInt 11 ≤ 11 from (by decide)) (by decide) (by decide)) (zr_wide hc3_1 (by decide) (by decide)) d) (fun M9_ o11_ g12_ d7_ => ?_)
  have f13_ : pvFr fp_X0_run_3_0_1_x_2_1 M M9_ := pvfr_t g12_ pvfr_0 fp_X0_run_3_0_1_x_2_1_fp_X0_note_3_x
  have b14_ : 0 ≤ Int32.toInt (M9_.1 3 1) ∧ Int32.toInt (M9_.1 3 1) ≤ 998 := (by have u0 := hc3_1; have u1 := d7_; have u2 := pvok_r o11_ 3 1 (lo := 0) (hi := 1000000) rfl; omega)
  refine pw_blk hT 1 (S' := (30, [some (pvR 3), some (pvI 0), some (pvI 1), some (pvI n3), some (pvI 2), some (pvI 11), some (pvI (2 + 1))], [pvI 11], M9_)) rfl ⟨trivial, trivial⟩ ?_
  refine pw_sw hT rfl rfl ?_
  refine And.intro (fun c15_ => absurd c15_ (by decide)) (fun c15_ => ?_)
  refine And.intro (fun c16_ => ?_) (fun c16_ => absurd (by decide) c16_)
  show PW 4 d (135, [some (pvR 3), some (pvI 0), some (pvI 1), some (pvI n3), some (pvI 2), some (pvI 11), some (pvI (2 + 1))], [], M9_) _
  have e17_ : (M9_.1 3 2) = (M.1 3 2) := (g12_ 3 2 rfl)
  have b18_ : 1 ≤ Int32.toInt (M9_.1 3 2) ∧ Int32.toInt (M9_.1 3 2) ≤ 1 := (by rw [e17_]; exact hc3_2)
  refine pw_blk hT 3 (S' := (140, [some (pvR 3), some (pvI 0), some (pvI 1), some (pvI n3), some (pvI 2), some (pvI 11), some (pvI (2 + 1))], [pvI (M9_.1 3 2), pvR 3], M9_)) rfl ⟨trivial, trivial, rfl, trivial⟩ ?_
  refine pw_eqI ((zi_eq _ (1)).mpr (by have u0 := b18_; have u1 : Int32.toInt (1) = 1 := (by decide); omega)) ?_
  refine pw_blk hT 3 (S' := (144, [some (pvR 3), some (pvI 0), some (pvI 1), some (pvI n3), some (pvI 2), some (pvI 11), some (pvI (2 + 1))], [pvI (2 + 1), pvI n3, pvI 0, pvI 1, pvR 3], M9_)) rfl ⟨trivial, trivial, trivial, trivial⟩ ?_
  refine pw_callGd hT (as := [pvR 3, pvI 1, pvI 0, pvI n3, pvI (2 + 1)]) (lo1 := [some (pvR 3), some (pvI 1), some (pvI 0), some (pvI n3), some (pvI (2 + 1)), none, none]) (d1 := (d - 1)) (rest := []) rfl rfl rfl rfl rfl (fun h => absurd h (by decide)) (show 1 ≤ d by omega) rfl rfl rfl (sf_X0_run_3_1_0_x_3_1 M9_ o11_ n3 b14_ b18_ (d - 1)) (fun x20_ M21_ b22_ o23_ g24_ d19_ => ?_)
  have f25_ : pvFr fp_X0_run_3_0_1_x_2_1 M M21_ := pvfr_t g24_ f13_ fp_X0_run_3_0_1_x_2_1_fp_X0_run_3_1_0_x_3_1
  have b26_ : 0 ≤ Int32.toInt (M21_.1 3 1) ∧ Int32.toInt (M21_.1 3 1) ≤ 999 := (by have u0 := b14_; have u1 := d19_; have u2 := pvok_r o23_ 3 1 (lo := 0) (hi := 1000000) rfl; omega)
  refine pw_blk hT 3 (S' := (152, [some (pvR 3), some (pvI 0), some (pvI 1), some (pvI n3), some (pvI 2), some (pvI 11), some (pvI (2 + 1))], [pvI (x20_ - (M21_.1 3 3))], M21_)) rfl ⟨trivial, rfl, trivial, trivial⟩ ?_
  exact pw_ret hT rfl (r := some (pvI (x20_ - (M21_.1 3 3)))) (M' := M21_) ⟨rfl, rfl⟩ ⟨⟨_, rfl, trivial⟩, o23_, f25_, (by omega)⟩
def fpL_X0_run_3_1_1_x_1_1 : List (Nat × Nat × Nat) := [(0, 3, 2), (0, 4, 0)]
def fp_X0_run_3_1_1_x_1_1 (q k : Nat) : Bool := pvfp fpL_X0_run_3_1_1_x_1_1 q k
theorem fp_X0_run_3_1_1_x_1_1_fp_X0_note_3_x (a b : Nat) (h : fp_X0_note_3_x a b = true) : fp_X0_run_3_1_1_x_1_1 a b = true := pvfp_sub (l1 := fpL_X0_note_3_x) (l2 := fpL_X0_run_3_1_1_x_1_1) (by decide) a b h
theorem fp_X0_run_3_1_1_x_1_1_fp_X0_run_3_0_1_x_2_1 (a b : Nat) (h : fp_X0_run_3_0_1_x_2_1 a b = true) : fp_X0_run_3_1_1_x_1_1 a b = true := pvfp_sub (l1 := fpL_X0_run_3_0_1_x_2_1) (l2 := fpL_X0_run_3_1_1_x_1_1) (by decide) a b h
set_option maxHeartbeats 4000000 in
set_option maxRecDepth 10000 in
theorem sf_X0_run_3_1_1_x_1_1 (M : pvM) (hok : pvOk M) (n3 : Int32) (hc3_1 : 0 ≤ Int32.toInt (M.1 3 1) ∧ Int32.toInt (M.1 3 1) ≤ 996) (hc3_2 : 1 ≤ Int32.toInt (M.1 3 2) ∧ Int32.toInt (M.1 3 2) ≤ 1) (d : Nat) (hd : 2 ≤ d) : PW 4 d (0, [some (pvR 3), some (pvI 1), some (pvI 1), some (pvI n3), some (pvI 1), none, none], [], M) (fun r X => (∃ x : Int32, r = some (pvI x) ∧ True) ∧ pvOk X ∧ pvFr fp_X0_run_3_1_1_x_1_1 M X ∧ Int32.toInt (X.1 3 1) ≤ Int32.toInt (M.1 3 1) + 3) := by
  have hT : pvdom 4 = pvD_4 := rfl
  refine pw_blk hT 2 (S' := (4, [some (pvR 3), some (pvI 1), some (pvI 1), some (pvI n3), some (pvI 1), none, none], [pvI 40, pvI 1], M)) rfl ⟨trivial, trivial, trivial⟩ ?_
  refine pw_ic hT (c := 1 ≤ 40) rfl rfl (fun c1_ => ?_) (fun c1_ => absurd (by decide) c1_)
  refine pw_blk hT 2 (S' := (11, [some (pvR 3), some (pvI 1), some (pvI 1), some (pvI n3), some (pvI 1), none, none], [pvI 1, pvI 1], M)) rfl ⟨trivial, trivial, trivial⟩ ?_
  refine pw_callT hT (as := [pvI 1, pvI 1]) (lo1 := [some (pvI 1), some (pvI 1), none, none, none]) (d1 := d) (rest := []) rfl rfl rfl rfl rfl (fun h => absurd h (by decide)) (Nat.zero_le _) rfl rfl rfl (sf_X0_bodyFrom_1_1 M hok d) ?_
  refine pw_eqI (show ((pvstab 1041).getD (Int32.toNatClampNeg ((1 * 3) + 1)) 0) = 20 from by decide) ?_
  show PW 4 d (14, [some (pvR 3), some (pvI 1), some (pvI 1), some (pvI n3), some (pvI 1), none, none], [pvI 20], M) _
  refine pw_blk hT 7 (S' := (25, [some (pvR 3), some (pvI 1), some (pvI 1), some (pvI n3), some (pvI 1), some (pvI 20), some (pvI (1 + 1))], [pvI 20, pvR 3], M)) rfl ⟨trivial, trivial, trivial, trivial, trivial, trivial, trivial, trivial⟩ ?_
  refine pw_callVd hT (as := [pvR 3, pvI 20]) (lo1 := [some (pvR 3), some (pvI 20)]) (d1 := d) (rest := []) rfl rfl rfl rfl rfl (fun _ => rfl) (Nat.zero_le _) rfl rfl rfl (sf_X0_note_3_x M hok 20 (zr_wide (show 20 ≤ Int32.toInt 20 ∧ Int32.toInt 20 ≤ 20 from (by decide)) (by decide) (by decide)) (zr_wide hc3_1 (by decide) (by decide)) d) (fun M9_ o11_ g12_ d7_ => ?_)
  have f13_ : pvFr fp_X0_run_3_1_1_x_1_1 M M9_ := pvfr_t g12_ pvfr_0 fp_X0_run_3_1_1_x_1_1_fp_X0_note_3_x
  have b14_ : 0 ≤ Int32.toInt (M9_.1 3 1) ∧ Int32.toInt (M9_.1 3 1) ≤ 997 := (by have u0 := hc3_1; have u1 := d7_; have u2 := pvok_r o11_ 3 1 (lo := 0) (hi := 1000000) rfl; omega)
  refine pw_blk hT 1 (S' := (30, [some (pvR 3), some (pvI 1), some (pvI 1), some (pvI n3), some (pvI 1), some (pvI 20), some (pvI (1 + 1))], [pvI 20], M9_)) rfl ⟨trivial, trivial⟩ ?_
  refine pw_sw hT rfl rfl ?_
  refine And.intro (fun c15_ => absurd c15_ (by decide)) (fun c15_ => ?_)
  refine And.intro (fun c16_ => absurd c16_ (by decide)) (fun c16_ => ?_)
  refine And.intro (fun c17_ => absurd c17_ (by decide)) (fun c17_ => ?_)
  refine And.intro (fun c18_ => ?_) (fun c18_ => absurd (by decide) c18_)
  show PW 4 d (168, [some (pvR 3), some (pvI 1), some (pvI 1), some (pvI n3), some (pvI 1), some (pvI 20), some (pvI (1 + 1))], [], M9_) _
  refine pw_blk hT 5 (S' := (174, [some (pvR 3), some (pvI 1), some (pvI 1), some (pvI n3), some (pvI 1), some (pvI 20), some (pvI (1 + 1))], [pvI (1 + 1), pvI n3, pvI 1, pvI 0, pvR 3], M9_)) rfl ⟨trivial, trivial, trivial, trivial, trivial, trivial⟩ ?_
  have e19_ : (M9_.1 3 2) = (M.1 3 2) := (g12_ 3 2 rfl)
  have b20_ : 1 ≤ Int32.toInt (M9_.1 3 2) ∧ Int32.toInt (M9_.1 3 2) ≤ 1 := (by rw [e19_]; exact hc3_2)
  refine pw_callGd hT (as := [pvR 3, pvI 0, pvI 1, pvI n3, pvI (1 + 1)]) (lo1 := [some (pvR 3), some (pvI 0), some (pvI 1), some (pvI n3), some (pvI (1 + 1)), none, none]) (d1 := (d - 1)) (rest := []) rfl rfl rfl rfl rfl (fun h => absurd h (by decide)) (show 1 ≤ d by omega) rfl rfl rfl (sf_X0_run_3_0_1_x_2_1 M9_ o11_ n3 b14_ b20_ (d - 1) (by omega)) (fun x22_ M23_ b24_ o25_ g26_ d21_ => ?_)
  have f27_ : pvFr fp_X0_run_3_1_1_x_1_1 M M23_ := pvfr_t g26_ f13_ fp_X0_run_3_1_1_x_1_1_fp_X0_run_3_0_1_x_2_1
  have b28_ : 0 ≤ Int32.toInt (M23_.1 3 1) ∧ Int32.toInt (M23_.1 3 1) ≤ 999 := (by have u0 := b14_; have u1 := d21_; have u2 := pvok_r o25_ 3 1 (lo := 0) (hi := 1000000) rfl; omega)
  refine pw_blk hT 2 (S' := (180, [some (pvR 3), some (pvI 1), some (pvI 1), some (pvI n3), some (pvI 1), some (pvI 20), some (pvI (1 + 1))], [pvI (x22_ ^^^ 6)], M23_)) rfl ⟨trivial, trivial, trivial⟩ ?_
  exact pw_ret hT rfl (r := some (pvI (x22_ ^^^ 6))) (M' := M23_) ⟨rfl, rfl⟩ ⟨⟨_, rfl, trivial⟩, o25_, f27_, (by omega)⟩
def fpL_X0_run_3_1_2_x_0_1 : List (Nat × Nat × Nat) := [(0, 3, 2), (0, 4, 0)]
def fp_X0_run_3_1_2_x_0_1 (q k : Nat) : Bool := pvfp fpL_X0_run_3_1_2_x_0_1 q k
theorem fp_X0_run_3_1_2_x_0_1_fp_X0_note_3_x (a b : Nat) (h : fp_X0_note_3_x a b = true) : fp_X0_run_3_1_2_x_0_1 a b = true := pvfp_sub (l1 := fpL_X0_note_3_x) (l2 := fpL_X0_run_3_1_2_x_0_1) (by decide) a b h
theorem fp_X0_run_3_1_2_x_0_1_fp_X0_run_3_1_1_x_1_1 (a b : Nat) (h : fp_X0_run_3_1_1_x_1_1 a b = true) : fp_X0_run_3_1_2_x_0_1 a b = true := pvfp_sub (l1 := fpL_X0_run_3_1_1_x_1_1) (l2 := fpL_X0_run_3_1_2_x_0_1) (by decide) a b h
set_option maxHeartbeats 4000000 in
set_option maxRecDepth 10000 in
theorem sf_X0_run_3_1_2_x_0_1 (M : pvM) (hok : pvOk M) (n3 : Int32) (hc3_1 : 0 ≤ Int32.toInt (M.1 3 1) ∧ Int32.toInt (M.1 3 1) ≤ 995) (hc3_2 : 1 ≤ Int32.toInt (M.1 3 2) ∧ Int32.toInt (M.1 3 2) ≤ 1) (d : Nat) (hd : 3 ≤ d) : PW 4 d (0, [some (pvR 3), some (pvI 1), some (pvI 2), some (pvI n3), some (pvI 0), none, none], [], M) (fun r X => (∃ x : Int32, r = some (pvI x) ∧ True) ∧ pvOk X ∧ pvFr fp_X0_run_3_1_2_x_0_1 M X ∧ Int32.toInt (X.1 3 1) ≤ Int32.toInt (M.1 3 1) + 4) := by
  have hT : pvdom 4 = pvD_4 := rfl
  refine pw_blk hT 2 (S' := (4, [some (pvR 3), some (pvI 1), some (pvI 2), some (pvI n3), some (pvI 0), none, none], [pvI 40, pvI 0], M)) rfl ⟨trivial, trivial, trivial⟩ ?_
  refine pw_ic hT (c := 0 ≤ 40) rfl rfl (fun c1_ => ?_) (fun c1_ => absurd (by decide) c1_)
  refine pw_blk hT 2 (S' := (11, [some (pvR 3), some (pvI 1), some (pvI 2), some (pvI n3), some (pvI 0), none, none], [pvI 2, pvI 1], M)) rfl ⟨trivial, trivial, trivial⟩ ?_
  refine pw_callT hT (as := [pvI 1, pvI 2]) (lo1 := [some (pvI 1), some (pvI 2), none, none, none]) (d1 := d) (rest := []) rfl rfl rfl rfl rfl (fun h => absurd h (by decide)) (Nat.zero_le _) rfl rfl rfl (sf_X0_bodyFrom_1_2 M hok d) ?_
  refine pw_eqI (show ((pvstab 1041).getD (Int32.toNatClampNeg ((0 * 3) + 2)) 0) = 12 from by decide) ?_
  show PW 4 d (14, [some (pvR 3), some (pvI 1), some (pvI 2), some (pvI n3), some (pvI 0), none, none], [pvI 12], M) _
  refine pw_blk hT 7 (S' := (25, [some (pvR 3), some (pvI 1), some (pvI 2), some (pvI n3), some (pvI 0), some (pvI 12), some (pvI (0 + 1))], [pvI 12, pvR 3], M)) rfl ⟨trivial, trivial, trivial, trivial, trivial, trivial, trivial, trivial⟩ ?_
  refine pw_callVd hT (as := [pvR 3, pvI 12]) (lo1 := [some (pvR 3), some (pvI 12)]) (d1 := d) (rest := []) rfl rfl rfl rfl rfl (fun _ => rfl) (Nat.zero_le _) rfl rfl rfl (sf_X0_note_3_x M hok 12 (zr_wide (show 12 ≤ Int32.toInt 12 ∧ Int32.toInt 12 ≤ 12 from (by decide)) (by decide) (by decide)) (zr_wide hc3_1 (by decide) (by decide)) d) (fun M9_ o11_ g12_ d7_ => ?_)
  have f13_ : pvFr fp_X0_run_3_1_2_x_0_1 M M9_ := pvfr_t g12_ pvfr_0 fp_X0_run_3_1_2_x_0_1_fp_X0_note_3_x
  have b14_ : 0 ≤ Int32.toInt (M9_.1 3 1) ∧ Int32.toInt (M9_.1 3 1) ≤ 996 := (by have u0 := hc3_1; have u1 := d7_; have u2 := pvok_r o11_ 3 1 (lo := 0) (hi := 1000000) rfl; omega)
  refine pw_blk hT 1 (S' := (30, [some (pvR 3), some (pvI 1), some (pvI 2), some (pvI n3), some (pvI 0), some (pvI 12), some (pvI (0 + 1))], [pvI 12], M9_)) rfl ⟨trivial, trivial⟩ ?_
  refine pw_sw hT rfl rfl ?_
  refine And.intro (fun c15_ => absurd c15_ (by decide)) (fun c15_ => ?_)
  refine And.intro (fun c16_ => absurd c16_ (by decide)) (fun c16_ => ?_)
  refine And.intro (fun c17_ => ?_) (fun c17_ => absurd (by decide) c17_)
  show PW 4 d (153, [some (pvR 3), some (pvI 1), some (pvI 2), some (pvI n3), some (pvI 0), some (pvI 12), some (pvI (0 + 1))], [], M9_) _
  have e18_ : (M9_.1 3 2) = (M.1 3 2) := (g12_ 3 2 rfl)
  have b19_ : 1 ≤ Int32.toInt (M9_.1 3 2) ∧ Int32.toInt (M9_.1 3 2) ≤ 1 := (by rw [e18_]; exact hc3_2)
  refine pw_blk hT 3 (S' := (158, [some (pvR 3), some (pvI 1), some (pvI 2), some (pvI n3), some (pvI 0), some (pvI 12), some (pvI (0 + 1))], [pvI (M9_.1 3 2), pvR 3], M9_)) rfl ⟨trivial, trivial, rfl, trivial⟩ ?_
  refine pw_eqI ((zi_eq _ (1)).mpr (by have u0 := b19_; have u1 : Int32.toInt (1) = 1 := (by decide); omega)) ?_
  refine pw_blk hT 3 (S' := (162, [some (pvR 3), some (pvI 1), some (pvI 2), some (pvI n3), some (pvI 0), some (pvI 12), some (pvI (0 + 1))], [pvI (0 + 1), pvI n3, pvI 1, pvI 1, pvR 3], M9_)) rfl ⟨trivial, trivial, trivial, trivial⟩ ?_
  refine pw_callGd hT (as := [pvR 3, pvI 1, pvI 1, pvI n3, pvI (0 + 1)]) (lo1 := [some (pvR 3), some (pvI 1), some (pvI 1), some (pvI n3), some (pvI (0 + 1)), none, none]) (d1 := (d - 1)) (rest := []) rfl rfl rfl rfl rfl (fun h => absurd h (by decide)) (show 1 ≤ d by omega) rfl rfl rfl (sf_X0_run_3_1_1_x_1_1 M9_ o11_ n3 b14_ b19_ (d - 1) (by omega)) (fun x21_ M22_ b23_ o24_ g25_ d20_ => ?_)
  have f26_ : pvFr fp_X0_run_3_1_2_x_0_1 M M22_ := pvfr_t g25_ f13_ fp_X0_run_3_1_2_x_0_1_fp_X0_run_3_1_1_x_1_1
  have b27_ : 0 ≤ Int32.toInt (M22_.1 3 1) ∧ Int32.toInt (M22_.1 3 1) ≤ 999 := (by have u0 := b14_; have u1 := d20_; have u2 := pvok_r o24_ 3 1 (lo := 0) (hi := 1000000) rfl; omega)
  refine pw_blk hT 2 (S' := (167, [some (pvR 3), some (pvI 1), some (pvI 2), some (pvI n3), some (pvI 0), some (pvI 12), some (pvI (0 + 1))], [pvI (x21_ * 2)], M22_)) rfl ⟨trivial, trivial, trivial⟩ ?_
  exact pw_ret hT rfl (r := some (pvI (x21_ * 2))) (M' := M22_) ⟨rfl, rfl⟩ ⟨⟨_, rfl, trivial⟩, o24_, f26_, (by omega)⟩
set_option maxHeartbeats 4000000 in
set_option maxRecDepth 10000 in
theorem sf_X0_bodyFrom_2_0 (M : pvM) (hok : pvOk M) (d : Nat) : PW 1 d (0, [some (pvI 2), some (pvI 0), none, none, none], [], M) (fun r X => r = some (pvI (((pvstab 1041).getD (Int32.toNatClampNeg ((2 * 3) + 0)) 0))) ∧ X = M) := by
  have hT : pvdom 1 = pvD_1 := rfl
  refine pw_blk hT 4 (S' := (4, [some (pvI 2), some (pvI 0), some (pvI 2), some (pvI 0), none], [], M)) rfl ⟨trivial, trivial, trivial, trivial, trivial⟩ ?_
  refine pw_blk hT 3 (S' := (9, [some (pvI 2), some (pvI 0), some (pvI 2), some (pvI 0), none], [pvI (Int32.ofNat (pvstab 1041).length), pvI 0], M)) rfl ⟨trivial, trivial, (by decide), trivial⟩ ?_
  refine pw_ic hT (c := (Int32.ofNat (pvstab 1041).length) ≤ 0) rfl rfl (fun c1_ => absurd c1_ (by decide)) (fun c1_ => ?_)
  refine pw_blk hT 1 (S' := (13, [some (pvI 2), some (pvI 0), some (pvI 2), some (pvI 0), none], [pvI 2], M)) rfl ⟨trivial, trivial⟩ ?_
  refine pw_if hT (c := 2 < 0) rfl rfl (fun c2_ => absurd c2_ (by decide)) (fun c2_ => ?_)
  refine pw_blk hT 7 (S' := (25, [some (pvI 2), some (pvI 0), some (pvI 2), some (pvI 0), some (pvI ((2 * 3) + 0))], [pvI ((2 * 3) + 0)], M)) rfl ⟨trivial, trivial, trivial, trivial, trivial, trivial, trivial, trivial⟩ ?_
  refine pw_if hT (c := ((2 * 3) + 0) < 0) rfl rfl (fun c3_ => absurd c3_ (by decide)) (fun c3_ => ?_)
  refine pw_blk hT 3 (S' := (34, [some (pvI 2), some (pvI 0), some (pvI 2), some (pvI 0), some (pvI ((2 * 3) + 0))], [pvI (Int32.ofNat (pvstab 1041).length), pvI ((2 * 3) + 0)], M)) rfl ⟨trivial, trivial, (by decide), trivial⟩ ?_
  refine pw_ic hT (c := (Int32.ofNat (pvstab 1041).length) ≤ ((2 * 3) + 0)) rfl rfl (fun c4_ => absurd c4_ (by decide)) (fun c4_ => ?_)
  refine pw_blk hT 3 (S' := (43, [some (pvI 2), some (pvI 0), some (pvI 2), some (pvI 0), some (pvI ((2 * 3) + 0))], [pvI ((pvstab 1041).getD (Int32.toNatClampNeg ((2 * 3) + 0)) 0)], M)) rfl ⟨trivial, trivial, ⟨by decide, (zr_in (n := 21) (show 6 ≤ Int32.toInt ((2 * 3) + 0) ∧ Int32.toInt ((2 * 3) + 0) ≤ 6 from (by decide)) (by decide) (by decide))⟩, trivial⟩ ?_
  refine pw_if hT (c := ((pvstab 1041).getD (Int32.toNatClampNeg ((2 * 3) + 0)) 0) = 0) rfl rfl (fun c5_ => absurd c5_ (by decide)) (fun c5_ => ?_)
  refine pw_blk hT 3 (S' := (52, [some (pvI 2), some (pvI 0), some (pvI 2), some (pvI 0), some (pvI ((2 * 3) + 0))], [pvI ((pvstab 1041).getD (Int32.toNatClampNeg ((2 * 3) + 0)) 0)], M)) rfl ⟨trivial, trivial, ⟨by decide, (zr_in (n := 21) (show 6 ≤ Int32.toInt ((2 * 3) + 0) ∧ Int32.toInt ((2 * 3) + 0) ≤ 6 from (by decide)) (by decide) (by decide))⟩, trivial⟩ ?_
  exact pw_ret hT rfl (r := some (pvI ((pvstab 1041).getD (Int32.toNatClampNeg ((2 * 3) + 0)) 0))) (M' := M) ⟨rfl, rfl⟩ ⟨rfl, rfl⟩
def fpL_X0_run_3_0_0_x_1_2 : List (Nat × Nat × Nat) := [(0, 3, 2), (0, 4, 0)]
def fp_X0_run_3_0_0_x_1_2 (q k : Nat) : Bool := pvfp fpL_X0_run_3_0_0_x_1_2 q k
theorem fp_X0_run_3_0_0_x_1_2_fp_X0_note_3_x (a b : Nat) (h : fp_X0_note_3_x a b = true) : fp_X0_run_3_0_0_x_1_2 a b = true := pvfp_sub (l1 := fpL_X0_note_3_x) (l2 := fpL_X0_run_3_0_0_x_1_2) (by decide) a b h
