def fpL_eX10_row_124_x_x_x : List (Nat × Nat × Nat) := [(0, 130, 0)]
def fp_eX10_row_124_x_x_x (q k : Nat) : Bool := pvfp fpL_eX10_row_124_x_x_x q k
set_option maxHeartbeats 4000000 in
set_option maxRecDepth 10000 in
theorem se_X10_row_124_x_x_x (M : pvM) (hok : pvOk M) (n1 : Int32) (n2 : Int32) (n3 : Int32) (d : Nat) : PW 70 d (0, [some (pvR 124), some (pvI n1), some (pvI n2), some (pvI n3), none], [], M) (fun r X => (∃ x : Int32, r = some (pvI x) ∧ ((-3) ≤ Int32.toInt x ∧ Int32.toInt x ≤ 9) ∧ x = (if n1 < 0 then (-1) else (if ((M.1 124 0) - 1) < n1 then (-1) else (if n2 < 0 then (-1) else (if 3 < n2 then (-1) else (if n3 < 0 then (-2) else (if 9 < n3 then (-2) else (if (M.1 125 (Int32.toNatClampNeg n1)) = 6 then (M.1 130 (Int32.toNatClampNeg ((4 * n1) + n2))) else (-3))))))))) ∧ pvOk X ∧ pvFr fp_eX10_row_124_x_x_x M X ∧ zV10 n1 n2 n3 r M X) := by
  have hT : pvdom 70 = pvD_70 := rfl
  refine pw_blk hT 2 (S' := (2, [some (pvR 124), some (pvI n1), some (pvI n2), some (pvI n3), none], [pvI n1, pvR 124], M)) rfl ⟨trivial, trivial, trivial⟩ ?_
  refine pw_callT hT (as := [pvR 124, pvI n1]) (lo1 := [some (pvR 124), some (pvI n1)]) (d1 := d) (rest := []) rfl rfl rfl rfl rfl (fun _ => rfl) (Nat.zero_le _) rfl rfl rfl (sf_X10_isWindow_124_x M hok n1 d) ?_
  by_cases c6_ : n1 < 0
  · refine pw_eqI (if_pos c6_) ?_
    have b7_ : (-2147483648) ≤ Int32.toInt n1 ∧ Int32.toInt n1 ≤ (-1) := zr_lt_l (-1) c6_ (zbnd n1) (show 0 ≤ Int32.toInt 0 ∧ Int32.toInt 0 ≤ 0 from (by decide)) (by decide)
    show PW 70 d (5, [some (pvR 124), some (pvI n1), some (pvI n2), some (pvI n3), none], [pvI 0], M) _
    refine pw_if hT (c := 0 = 0) rfl rfl (fun c8_ => ?_) (fun c8_ => absurd (by decide) c8_)
    refine pw_blk hT 1 (S' := (19, [some (pvR 124), some (pvI n1), some (pvI n2), some (pvI n3), none], [pvI (-1)], M)) rfl ⟨trivial, trivial⟩ ?_
    exact pw_ret hT rfl (r := some (pvI (-1))) (M' := M) ⟨rfl, rfl⟩ ⟨⟨_, rfl, (zr_wide (show (-1) ≤ Int32.toInt (-1) ∧ Int32.toInt (-1) ≤ (-1) from (by decide)) (by decide) (by decide)), (by rw [if_pos c6_]; first | done | (rw [if_pos c6_]; done))⟩, hok, pvfr_0, ⟨_, rfl, Or.inl ⟨by decide, zKm_r 125 130 M⟩⟩⟩
  · refine pw_eqI (if_neg c6_) ?_
    have b9_ : 0 ≤ Int32.toInt n1 ∧ Int32.toInt n1 ≤ 2147483647 := zr_nlt_l 0 c6_ (zbnd n1) (show 0 ≤ Int32.toInt 0 ∧ Int32.toInt 0 ≤ 0 from (by decide)) (by decide)
    have b10_ : 0 ≤ Int32.toInt (M.1 124 0) ∧ Int32.toInt (M.1 124 0) ≤ 7 := pvok_r hok 124 0 rfl
    obtain ⟨q12_, b11_⟩ : (Int32.toInt ((M.1 124 0) - 1) = Int32.toInt (M.1 124 0) - 1) ∧ ((-1) ≤ Int32.toInt ((M.1 124 0) - 1) ∧ Int32.toInt ((M.1 124 0) - 1) ≤ 6) := zsub_k (M.1 124 0) 1 1 (-1) 6 b10_ (by decide) (by decide) (by decide) (by decide) (by decide)
    by_cases c13_ : ((M.1 124 0) - 1) < n1
    · refine pw_eqI (if_pos c13_) ?_
      have d14_ : Int32.toInt ((M.1 124 0) - 1) < Int32.toInt n1 := (zi_lt _ _).mp c13_
      show PW 70 d (5, [some (pvR 124), some (pvI n1), some (pvI n2), some (pvI n3), none], [pvI 0], M) _
      refine pw_if hT (c := 0 = 0) rfl rfl (fun c15_ => ?_) (fun c15_ => absurd (by decide) c15_)
      refine pw_blk hT 1 (S' := (19, [some (pvR 124), some (pvI n1), some (pvI n2), some (pvI n3), none], [pvI (-1)], M)) rfl ⟨trivial, trivial⟩ ?_
      exact pw_ret hT rfl (r := some (pvI (-1))) (M' := M) ⟨rfl, rfl⟩ ⟨⟨_, rfl, (zr_wide (show (-1) ≤ Int32.toInt (-1) ∧ Int32.toInt (-1) ≤ (-1) from (by decide)) (by decide) (by decide)), (by rw [if_neg c6_, if_pos c13_]; first | done | (rw [if_pos c13_]; done))⟩, hok, pvfr_0, ⟨_, rfl, Or.inl ⟨by decide, zKm_r 125 130 M⟩⟩⟩
    · refine pw_eqI (if_neg c13_) ?_
      have b16_ : 0 ≤ Int32.toInt ((M.1 124 0) - 1) ∧ Int32.toInt ((M.1 124 0) - 1) ≤ 6 := zr_nlt_l 0 c13_ b11_ b9_ (by decide)
      have b17_ : 0 ≤ Int32.toInt n1 ∧ Int32.toInt n1 ≤ 6 := zr_nlt_r 6 c13_ b9_ b16_ (by decide)
      have d18_ : Int32.toInt ((M.1 124 0) - 1) ≥ Int32.toInt n1 := Int.not_lt.mp ((not_congr (zi_lt _ _)).mp c13_)
      show PW 70 d (5, [some (pvR 124), some (pvI n1), some (pvI n2), some (pvI n3), none], [pvI 1], M) _
      refine pw_if hT (c := 1 = 0) rfl rfl (fun c19_ => absurd c19_ (by decide)) (fun c19_ => ?_)
      refine pw_blk hT 4 (S' := (12, [some (pvR 124), some (pvI n1), some (pvI n2), some (pvI n3), none], [pvI 3, pvI 0, pvI n2, pvR 124], M)) rfl ⟨trivial, trivial, trivial, trivial, trivial⟩ ?_
      refine pw_callT hT (as := [pvR 124, pvI n2, pvI 0, pvI 3]) (lo1 := [some (pvR 124), some (pvI n2), some (pvI 0), some (pvI 3)]) (d1 := d) (rest := []) rfl rfl rfl rfl rfl (fun _ => rfl) (Nat.zero_le _) rfl rfl rfl (sf_X10_in_124_x_x_x M hok n2 0 3 d) ?_
      by_cases c25_ : n2 < 0
      · refine pw_eqI (if_pos c25_) ?_
        have b26_ : (-2147483648) ≤ Int32.toInt n2 ∧ Int32.toInt n2 ≤ (-1) := zr_lt_l (-1) c25_ (zbnd n2) (show 0 ≤ Int32.toInt 0 ∧ Int32.toInt 0 ≤ 0 from (by decide)) (by decide)
        show PW 70 d (15, [some (pvR 124), some (pvI n1), some (pvI n2), some (pvI n3), none], [pvI 0], M) _
        refine pw_ifn hT (c := 0 = 0) rfl rfl (fun c27_ => absurd (by decide) c27_) (fun c27_ => ?_)
        refine pw_blk hT 1 (S' := (19, [some (pvR 124), some (pvI n1), some (pvI n2), some (pvI n3), none], [pvI (-1)], M)) rfl ⟨trivial, trivial⟩ ?_
        exact pw_ret hT rfl (r := some (pvI (-1))) (M' := M) ⟨rfl, rfl⟩ ⟨⟨_, rfl, (zr_wide (show (-1) ≤ Int32.toInt (-1) ∧ Int32.toInt (-1) ≤ (-1) from (by decide)) (by decide) (by decide)), (by rw [if_neg c6_, if_neg c13_, if_pos c25_]; first | done | (rw [if_pos c25_]; done))⟩, hok, pvfr_0, ⟨_, rfl, Or.inl ⟨by decide, zKm_r 125 130 M⟩⟩⟩
      · refine pw_eqI (if_neg c25_) ?_
        have b28_ : 0 ≤ Int32.toInt n2 ∧ Int32.toInt n2 ≤ 2147483647 := zr_nlt_l 0 c25_ (zbnd n2) (show 0 ≤ Int32.toInt 0 ∧ Int32.toInt 0 ≤ 0 from (by decide)) (by decide)
        by_cases c29_ : 3 < n2
        · refine pw_eqI (if_pos c29_) ?_
          have b30_ : 4 ≤ Int32.toInt n2 ∧ Int32.toInt n2 ≤ 2147483647 := zr_lt_r 4 c29_ b28_ (show 3 ≤ Int32.toInt 3 ∧ Int32.toInt 3 ≤ 3 from (by decide)) (by decide)
          show PW 70 d (15, [some (pvR 124), some (pvI n1), some (pvI n2), some (pvI n3), none], [pvI 0], M) _
          refine pw_ifn hT (c := 0 = 0) rfl rfl (fun c31_ => absurd (by decide) c31_) (fun c31_ => ?_)
          refine pw_blk hT 1 (S' := (19, [some (pvR 124), some (pvI n1), some (pvI n2), some (pvI n3), none], [pvI (-1)], M)) rfl ⟨trivial, trivial⟩ ?_
          exact pw_ret hT rfl (r := some (pvI (-1))) (M' := M) ⟨rfl, rfl⟩ ⟨⟨_, rfl, (zr_wide (show (-1) ≤ Int32.toInt (-1) ∧ Int32.toInt (-1) ≤ (-1) from (by decide)) (by decide) (by decide)), (by rw [if_neg c6_, if_neg c13_, if_neg c25_, if_pos c29_]; first | done | (rw [if_pos c29_]; done))⟩, hok, pvfr_0, ⟨_, rfl, Or.inl ⟨by decide, zKm_r 125 130 M⟩⟩⟩
        · refine pw_eqI (if_neg c29_) ?_
          have b32_ : 0 ≤ Int32.toInt n2 ∧ Int32.toInt n2 ≤ 3 := zr_nlt_r 3 c29_ b28_ (show 3 ≤ Int32.toInt 3 ∧ Int32.toInt 3 ≤ 3 from (by decide)) (by decide)
          show PW 70 d (15, [some (pvR 124), some (pvI n1), some (pvI n2), some (pvI n3), none], [pvI 1], M) _
          refine pw_ifn hT (c := 1 = 0) rfl rfl (fun c33_ => ?_) (fun c33_ => absurd c33_ (by decide))
          refine pw_blk hT 4 (S' := (25, [some (pvR 124), some (pvI n1), some (pvI n2), some (pvI n3), none], [pvI 9, pvI 0, pvI n3, pvR 124], M)) rfl ⟨trivial, trivial, trivial, trivial, trivial⟩ ?_
          refine pw_callT hT (as := [pvR 124, pvI n3, pvI 0, pvI 9]) (lo1 := [some (pvR 124), some (pvI n3), some (pvI 0), some (pvI 9)]) (d1 := d) (rest := []) rfl rfl rfl rfl rfl (fun _ => rfl) (Nat.zero_le _) rfl rfl rfl (sf_X10_in_124_x_x_x M hok n3 0 9 d) ?_
          by_cases c39_ : n3 < 0
          · refine pw_eqI (if_pos c39_) ?_
            have b40_ : (-2147483648) ≤ Int32.toInt n3 ∧ Int32.toInt n3 ≤ (-1) := zr_lt_l (-1) c39_ (zbnd n3) (show 0 ≤ Int32.toInt 0 ∧ Int32.toInt 0 ≤ 0 from (by decide)) (by decide)
            show PW 70 d (28, [some (pvR 124), some (pvI n1), some (pvI n2), some (pvI n3), none], [pvI 0], M) _
            refine pw_ifn hT (c := 0 = 0) rfl rfl (fun c41_ => absurd (by decide) c41_) (fun c41_ => ?_)
            refine pw_blk hT 1 (S' := (33, [some (pvR 124), some (pvI n1), some (pvI n2), some (pvI n3), none], [pvI (-2)], M)) rfl ⟨trivial, trivial⟩ ?_
            exact pw_ret hT rfl (r := some (pvI (-2))) (M' := M) ⟨rfl, rfl⟩ ⟨⟨_, rfl, (zr_wide (show (-2) ≤ Int32.toInt (-2) ∧ Int32.toInt (-2) ≤ (-2) from (by decide)) (by decide) (by decide)), (by rw [if_neg c6_, if_neg c13_, if_neg c25_, if_neg c29_, if_pos c39_]; first | done | (rw [if_pos c39_]; done))⟩, hok, pvfr_0, ⟨_, rfl, Or.inl ⟨by decide, zKm_r 125 130 M⟩⟩⟩
          · refine pw_eqI (if_neg c39_) ?_
            have b42_ : 0 ≤ Int32.toInt n3 ∧ Int32.toInt n3 ≤ 2147483647 := zr_nlt_l 0 c39_ (zbnd n3) (show 0 ≤ Int32.toInt 0 ∧ Int32.toInt 0 ≤ 0 from (by decide)) (by decide)
            by_cases c43_ : 9 < n3
            · refine pw_eqI (if_pos c43_) ?_
              have b44_ : 10 ≤ Int32.toInt n3 ∧ Int32.toInt n3 ≤ 2147483647 := zr_lt_r 10 c43_ b42_ (show 9 ≤ Int32.toInt 9 ∧ Int32.toInt 9 ≤ 9 from (by decide)) (by decide)
              show PW 70 d (28, [some (pvR 124), some (pvI n1), some (pvI n2), some (pvI n3), none], [pvI 0], M) _
              refine pw_ifn hT (c := 0 = 0) rfl rfl (fun c45_ => absurd (by decide) c45_) (fun c45_ => ?_)
              refine pw_blk hT 1 (S' := (33, [some (pvR 124), some (pvI n1), some (pvI n2), some (pvI n3), none], [pvI (-2)], M)) rfl ⟨trivial, trivial⟩ ?_
              exact pw_ret hT rfl (r := some (pvI (-2))) (M' := M) ⟨rfl, rfl⟩ ⟨⟨_, rfl, (zr_wide (show (-2) ≤ Int32.toInt (-2) ∧ Int32.toInt (-2) ≤ (-2) from (by decide)) (by decide) (by decide)), (by rw [if_neg c6_, if_neg c13_, if_neg c25_, if_neg c29_, if_neg c39_, if_pos c43_]; first | done | (rw [if_pos c43_]; done))⟩, hok, pvfr_0, ⟨_, rfl, Or.inl ⟨by decide, zKm_r 125 130 M⟩⟩⟩
            · refine pw_eqI (if_neg c43_) ?_
              have b46_ : 0 ≤ Int32.toInt n3 ∧ Int32.toInt n3 ≤ 9 := zr_nlt_r 9 c43_ b42_ (show 9 ≤ Int32.toInt 9 ∧ Int32.toInt 9 ≤ 9 from (by decide)) (by decide)
              show PW 70 d (28, [some (pvR 124), some (pvI n1), some (pvI n2), some (pvI n3), none], [pvI 1], M) _
              refine pw_ifn hT (c := 1 = 0) rfl rfl (fun c47_ => ?_) (fun c47_ => absurd c47_ (by decide))
              have b48_ : 0 ≤ Int32.toInt (M.1 125 (Int32.toNatClampNeg n1)) ∧ Int32.toInt (M.1 125 (Int32.toNatClampNeg n1)) ≤ 6 := pvok_r hok 125 (Int32.toNatClampNeg n1) rfl
              refine pw_blk hT 5 (S' := (42, [some (pvR 124), some (pvI n1), some (pvI n2), some (pvI n3), none], [pvI 6, pvI (M.1 125 (Int32.toNatClampNeg n1))], M)) rfl ⟨trivial, rfl, trivial, ⟨rfl, (zr_in (n := 7) b17_ (by decide) (by decide))⟩, trivial, trivial⟩ ?_
              refine pw_ic hT (c := (M.1 125 (Int32.toNatClampNeg n1)) = 6) rfl rfl (fun c49_ => ?_) (fun c49_ => ?_)
              · have b50_ : 6 ≤ Int32.toInt (M.1 125 (Int32.toNatClampNeg n1)) ∧ Int32.toInt (M.1 125 (Int32.toNatClampNeg n1)) ≤ 6 := (by have u0 := b48_; have u1 := (zi_eq _ _).mp c49_; have u2 := (show 6 ≤ Int32.toInt 6 ∧ Int32.toInt 6 ≤ 6 from (by decide)); omega)
                have q51_ : Int32.toInt (4 * n1) = 4 * Int32.toInt n1 := by have u0 : Int32.toInt 4 = 4 := (by decide); have u1 := b17_; have u2 := zmul 4 n1 (by rw [u0]; omega) (by rw [u0]; omega); rw [u0] at u2; omega
                have b52_ : 0 ≤ Int32.toInt (4 * n1) ∧ Int32.toInt (4 * n1) ≤ 24 := (by have u1 := b17_; omega)
                obtain ⟨q54_, b53_⟩ : (Int32.toInt ((4 * n1) + n2) = Int32.toInt (4 * n1) + Int32.toInt n2) ∧ (0 ≤ Int32.toInt ((4 * n1) + n2) ∧ Int32.toInt ((4 * n1) + n2) ≤ 27) := zadd_r (4 * n1) n2 0 27 b52_ b32_ (by decide) (by decide) (by decide) (by decide)
                have b55_ : 0 ≤ Int32.toInt (M.1 130 (Int32.toNatClampNeg ((4 * n1) + n2))) ∧ Int32.toInt (M.1 130 (Int32.toNatClampNeg ((4 * n1) + n2))) ≤ 9 := pvok_r hok 130 (Int32.toNatClampNeg ((4 * n1) + n2)) rfl
                refine pw_blkw hT 18 (pc := 71) (lo := [some (pvR 124), some (pvI n1), some (pvI n2), some (pvI n3), some (pvI (M.1 130 (Int32.toNatClampNeg ((4 * n1) + n2))))]) (st := []) (M := pvu M 130 (Int32.toNatClampNeg ((4 * n1) + n2)) n3) rfl ⟨trivial, rfl, trivial, trivial, trivial, trivial, trivial, ⟨rfl, (zr_in (n := 28) b53_ (by decide) (by decide))⟩, trivial, trivial, rfl, trivial, trivial, trivial, trivial, trivial, trivial, ⟨rfl, (zr_in (n := 28) b53_ (by decide) (by decide))⟩, trivial⟩ (fun M56_ e57_ => ?_)
                have o58_ : pvOk M56_ := pvok_u2 e57_ hok rfl b46_
                have f59_ : pvFr fp_eX10_row_124_x_x_x M M56_ := pvfr_u e57_ pvfr_0 rfl
                refine pw_blk hT 1 (S' := (73, [some (pvR 124), some (pvI n1), some (pvI n2), some (pvI n3), some (pvI (M.1 130 (Int32.toNatClampNeg ((4 * n1) + n2))))], [pvI (M.1 130 (Int32.toNatClampNeg ((4 * n1) + n2)))], M56_)) rfl ⟨trivial, trivial⟩ ?_
                exact pw_ret hT rfl (r := some (pvI (M.1 130 (Int32.toNatClampNeg ((4 * n1) + n2))))) (M' := M56_) ⟨rfl, rfl⟩ ⟨⟨_, rfl, (zr_wide b55_ (by decide) (by decide)), (by rw [if_neg c6_, if_neg c13_, if_neg c25_, if_neg c29_, if_neg c39_, if_neg c43_, if_pos c49_]; first | done | (rw [if_pos c49_]; done))⟩, o58_, f59_, ⟨_, rfl, Or.inr ⟨(b55_).1, fun i hi => ⟨fun f hf => pvu_n e57_ (125 + f) i (Or.inl (by omega)), fun j hj => zrow10 b17_ b32_ e57_ i j hj⟩⟩⟩⟩
              · have b60_ : 0 ≤ Int32.toInt (M.1 125 (Int32.toNatClampNeg n1)) ∧ Int32.toInt (M.1 125 (Int32.toNatClampNeg n1)) ≤ 5 := (by have u0 := b48_; have u1 := (not_congr (zi_eq _ _)).mp c49_; have u2 := (show 6 ≤ Int32.toInt 6 ∧ Int32.toInt 6 ≤ 6 from (by decide)); omega)
                refine pw_blk hT 1 (S' := (47, [some (pvR 124), some (pvI n1), some (pvI n2), some (pvI n3), none], [pvI (-3)], M)) rfl ⟨trivial, trivial⟩ ?_
                exact pw_ret hT rfl (r := some (pvI (-3))) (M' := M) ⟨rfl, rfl⟩ ⟨⟨_, rfl, (zr_wide (show (-3) ≤ Int32.toInt (-3) ∧ Int32.toInt (-3) ≤ (-3) from (by decide)) (by decide) (by decide)), (by rw [if_neg c6_, if_neg c13_, if_neg c25_, if_neg c29_, if_neg c39_, if_neg c43_, if_neg c49_]; first | done | (rw [if_neg c49_]; done))⟩, hok, pvfr_0, ⟨_, rfl, Or.inl ⟨by decide, zKm_r 125 130 M⟩⟩⟩
def fpL_eX10_see_124_x_x : List (Nat × Nat × Nat) := [(0, 124, 41), (0, 147, 0), (0, 148, 0)]
def fp_eX10_see_124_x_x (q k : Nat) : Bool := pvfp fpL_eX10_see_124_x_x q k
set_option maxHeartbeats 4000000 in
set_option maxRecDepth 10000 in
theorem se_X10_see_124_x_x (M : pvM) (hok : pvOk M) (n1 : Int32) (n2 : Int32) (d : Nat) : PW 71 d (0, [some (pvR 124), some (pvI n1), some (pvI n2)], [], M) (fun r X => (∃ x : Int32, r = some (pvI x) ∧ ((-4) ≤ Int32.toInt x ∧ Int32.toInt x ≤ 6) ∧ x = (if n1 = (-1) then 0 else (if n1 < 0 then (-1) else (if ((M.1 124 0) - 1) < n1 then (-1) else (if n2 < 0 then (-2) else (if 9999 < n2 then (-2) else (if (M.1 124 40) = 6 then (-4) else ((M.1 124 40) + 1)))))))) ∧ pvOk X ∧ pvFr fp_eX10_see_124_x_x M X ∧ X.1 124 40 = (if n1 = (-1) then 0 else (if n1 < 0 then (M.1 124 40) else (if ((M.1 124 0) - 1) < n1 then (M.1 124 40) else (if n2 < 0 then (M.1 124 40) else (if 9999 < n2 then (M.1 124 40) else (if (M.1 124 40) = 6 then (M.1 124 40) else ((M.1 124 40) + 1)))))))) := by
  have hT : pvdom 71 = pvD_71 := rfl
  refine pw_blk hT 2 (S' := (2, [some (pvR 124), some (pvI n1), some (pvI n2)], [pvI (-1), pvI n1], M)) rfl ⟨trivial, trivial, trivial⟩ ?_
  refine pw_icn hT (c := n1 = (-1)) rfl rfl (fun c1_ => ?_) (fun c1_ => ?_)
  · refine pw_blk hT 2 (S' := (14, [some (pvR 124), some (pvI n1), some (pvI n2)], [pvI n1, pvR 124], M)) rfl ⟨trivial, trivial, trivial⟩ ?_
    refine pw_callT hT (as := [pvR 124, pvI n1]) (lo1 := [some (pvR 124), some (pvI n1)]) (d1 := d) (rest := []) rfl rfl rfl rfl rfl (fun _ => rfl) (Nat.zero_le _) rfl rfl rfl (sf_X10_isWindow_124_x M hok n1 d) ?_
    by_cases c7_ : n1 < 0
    · refine pw_eqI (if_pos c7_) ?_
      have b8_ : (-2147483648) ≤ Int32.toInt n1 ∧ Int32.toInt n1 ≤ (-2) := (by have u0 := (zbnd n1); have u9 := (show _ ∧ _ from ⟨(zi_lt _ _).mp c7_, (show 0 ≤ Int32.toInt 0 ∧ Int32.toInt 0 ≤ 0 from (by decide))⟩); have v1 := (not_congr (zi_eq _ _)).mp c1_; have w1 : ((-1) : Int32).toInt = -1 := (by decide); omega)
      show PW 71 d (17, [some (pvR 124), some (pvI n1), some (pvI n2)], [pvI 0], M) _
      refine pw_ifn hT (c := 0 = 0) rfl rfl (fun c9_ => absurd (by decide) c9_) (fun c9_ => ?_)
      refine pw_blk hT 1 (S' := (21, [some (pvR 124), some (pvI n1), some (pvI n2)], [pvI (-1)], M)) rfl ⟨trivial, trivial⟩ ?_
      exact pw_ret hT rfl (r := some (pvI (-1))) (M' := M) ⟨rfl, rfl⟩ ⟨⟨_, rfl, (zr_wide (show (-1) ≤ Int32.toInt (-1) ∧ Int32.toInt (-1) ≤ (-1) from (by decide)) (by decide) (by decide)), (by rw [if_neg c1_, if_pos c7_]; first | done | (rw [if_pos c7_]; done))⟩, hok, pvfr_0, (by rw [if_neg c1_, if_pos c7_]; first | done | exact rfl | (rw [if_pos c7_]; done) | (rw [if_pos c7_]; exact rfl))⟩
    · refine pw_eqI (if_neg c7_) ?_
      have b10_ : 0 ≤ Int32.toInt n1 ∧ Int32.toInt n1 ≤ 2147483647 := zr_nlt_l 0 c7_ (zbnd n1) (show 0 ≤ Int32.toInt 0 ∧ Int32.toInt 0 ≤ 0 from (by decide)) (by decide)
      have b11_ : 0 ≤ Int32.toInt (M.1 124 0) ∧ Int32.toInt (M.1 124 0) ≤ 7 := pvok_r hok 124 0 rfl
      obtain ⟨q13_, b12_⟩ : (Int32.toInt ((M.1 124 0) - 1) = Int32.toInt (M.1 124 0) - 1) ∧ ((-1) ≤ Int32.toInt ((M.1 124 0) - 1) ∧ Int32.toInt ((M.1 124 0) - 1) ≤ 6) := zsub_k (M.1 124 0) 1 1 (-1) 6 b11_ (by decide) (by decide) (by decide) (by decide) (by decide)
      by_cases c14_ : ((M.1 124 0) - 1) < n1
      · refine pw_eqI (if_pos c14_) ?_
        have d15_ : Int32.toInt ((M.1 124 0) - 1) < Int32.toInt n1 := (zi_lt _ _).mp c14_
        show PW 71 d (17, [some (pvR 124), some (pvI n1), some (pvI n2)], [pvI 0], M) _
        refine pw_ifn hT (c := 0 = 0) rfl rfl (fun c16_ => absurd (by decide) c16_) (fun c16_ => ?_)
        refine pw_blk hT 1 (S' := (21, [some (pvR 124), some (pvI n1), some (pvI n2)], [pvI (-1)], M)) rfl ⟨trivial, trivial⟩ ?_
        exact pw_ret hT rfl (r := some (pvI (-1))) (M' := M) ⟨rfl, rfl⟩ ⟨⟨_, rfl, (zr_wide (show (-1) ≤ Int32.toInt (-1) ∧ Int32.toInt (-1) ≤ (-1) from (by decide)) (by decide) (by decide)), (by rw [if_neg c1_, if_neg c7_, if_pos c14_]; first | done | (rw [if_pos c14_]; done))⟩, hok, pvfr_0, (by rw [if_neg c1_, if_neg c7_, if_pos c14_]; first | done | exact rfl | (rw [if_pos c14_]; done) | (rw [if_pos c14_]; exact rfl))⟩
      · refine pw_eqI (if_neg c14_) ?_
        have b17_ : 0 ≤ Int32.toInt ((M.1 124 0) - 1) ∧ Int32.toInt ((M.1 124 0) - 1) ≤ 6 := zr_nlt_l 0 c14_ b12_ b10_ (by decide)
        have b18_ : 0 ≤ Int32.toInt n1 ∧ Int32.toInt n1 ≤ 6 := zr_nlt_r 6 c14_ b10_ b17_ (by decide)
        have d19_ : Int32.toInt ((M.1 124 0) - 1) ≥ Int32.toInt n1 := Int.not_lt.mp ((not_congr (zi_lt _ _)).mp c14_)
        show PW 71 d (17, [some (pvR 124), some (pvI n1), some (pvI n2)], [pvI 1], M) _
        refine pw_ifn hT (c := 1 = 0) rfl rfl (fun c20_ => ?_) (fun c20_ => absurd c20_ (by decide))
        refine pw_blk hT 4 (S' := (28, [some (pvR 124), some (pvI n1), some (pvI n2)], [pvI 9999, pvI 0, pvI n2, pvR 124], M)) rfl ⟨trivial, trivial, trivial, trivial, trivial⟩ ?_
        refine pw_callT hT (as := [pvR 124, pvI n2, pvI 0, pvI 9999]) (lo1 := [some (pvR 124), some (pvI n2), some (pvI 0), some (pvI 9999)]) (d1 := d) (rest := []) rfl rfl rfl rfl rfl (fun _ => rfl) (Nat.zero_le _) rfl rfl rfl (sf_X10_in_124_x_x_x M hok n2 0 9999 d) ?_
        by_cases c26_ : n2 < 0
        · refine pw_eqI (if_pos c26_) ?_
          have b27_ : (-2147483648) ≤ Int32.toInt n2 ∧ Int32.toInt n2 ≤ (-1) := zr_lt_l (-1) c26_ (zbnd n2) (show 0 ≤ Int32.toInt 0 ∧ Int32.toInt 0 ≤ 0 from (by decide)) (by decide)
          show PW 71 d (31, [some (pvR 124), some (pvI n1), some (pvI n2)], [pvI 0], M) _
          refine pw_ifn hT (c := 0 = 0) rfl rfl (fun c28_ => absurd (by decide) c28_) (fun c28_ => ?_)
          refine pw_blk hT 1 (S' := (36, [some (pvR 124), some (pvI n1), some (pvI n2)], [pvI (-2)], M)) rfl ⟨trivial, trivial⟩ ?_
          exact pw_ret hT rfl (r := some (pvI (-2))) (M' := M) ⟨rfl, rfl⟩ ⟨⟨_, rfl, (zr_wide (show (-2) ≤ Int32.toInt (-2) ∧ Int32.toInt (-2) ≤ (-2) from (by decide)) (by decide) (by decide)), (by rw [if_neg c1_, if_neg c7_, if_neg c14_, if_pos c26_]; first | done | (rw [if_pos c26_]; done))⟩, hok, pvfr_0, (by rw [if_neg c1_, if_neg c7_, if_neg c14_, if_pos c26_]; first | done | exact rfl | (rw [if_pos c26_]; done) | (rw [if_pos c26_]; exact rfl))⟩
        · refine pw_eqI (if_neg c26_) ?_
          have b29_ : 0 ≤ Int32.toInt n2 ∧ Int32.toInt n2 ≤ 2147483647 := zr_nlt_l 0 c26_ (zbnd n2) (show 0 ≤ Int32.toInt 0 ∧ Int32.toInt 0 ≤ 0 from (by decide)) (by decide)
          by_cases c30_ : 9999 < n2
          · refine pw_eqI (if_pos c30_) ?_
            have b31_ : 10000 ≤ Int32.toInt n2 ∧ Int32.toInt n2 ≤ 2147483647 := zr_lt_r 10000 c30_ b29_ (show 9999 ≤ Int32.toInt 9999 ∧ Int32.toInt 9999 ≤ 9999 from (by decide)) (by decide)
            show PW 71 d (31, [some (pvR 124), some (pvI n1), some (pvI n2)], [pvI 0], M) _
            refine pw_ifn hT (c := 0 = 0) rfl rfl (fun c32_ => absurd (by decide) c32_) (fun c32_ => ?_)
            refine pw_blk hT 1 (S' := (36, [some (pvR 124), some (pvI n1), some (pvI n2)], [pvI (-2)], M)) rfl ⟨trivial, trivial⟩ ?_
            exact pw_ret hT rfl (r := some (pvI (-2))) (M' := M) ⟨rfl, rfl⟩ ⟨⟨_, rfl, (zr_wide (show (-2) ≤ Int32.toInt (-2) ∧ Int32.toInt (-2) ≤ (-2) from (by decide)) (by decide) (by decide)), (by rw [if_neg c1_, if_neg c7_, if_neg c14_, if_neg c26_, if_pos c30_]; first | done | (rw [if_pos c30_]; done))⟩, hok, pvfr_0, (by rw [if_neg c1_, if_neg c7_, if_neg c14_, if_neg c26_, if_pos c30_]; first | done | exact rfl | (rw [if_pos c30_]; done) | (rw [if_pos c30_]; exact rfl))⟩
          · refine pw_eqI (if_neg c30_) ?_
            have b33_ : 0 ≤ Int32.toInt n2 ∧ Int32.toInt n2 ≤ 9999 := zr_nlt_r 9999 c30_ b29_ (show 9999 ≤ Int32.toInt 9999 ∧ Int32.toInt 9999 ≤ 9999 from (by decide)) (by decide)
            show PW 71 d (31, [some (pvR 124), some (pvI n1), some (pvI n2)], [pvI 1], M) _
            refine pw_ifn hT (c := 1 = 0) rfl rfl (fun c34_ => ?_) (fun c34_ => absurd c34_ (by decide))
            have b35_ : 0 ≤ Int32.toInt (M.1 124 40) ∧ Int32.toInt (M.1 124 40) ≤ 6 := pvok_r hok 124 40 rfl
            refine pw_blk hT 3 (S' := (43, [some (pvR 124), some (pvI n1), some (pvI n2)], [pvI 6, pvI (M.1 124 40)], M)) rfl ⟨trivial, rfl, trivial, trivial⟩ ?_
            refine pw_icn hT (c := (M.1 124 40) = 6) rfl rfl (fun c36_ => ?_) (fun c36_ => ?_)
            · have b37_ : 0 ≤ Int32.toInt (M.1 124 40) ∧ Int32.toInt (M.1 124 40) ≤ 5 := (by have u0 := b35_; have u1 := (not_congr (zi_eq _ _)).mp c36_; have u2 := (show 6 ≤ Int32.toInt 6 ∧ Int32.toInt 6 ≤ 6 from (by decide)); omega)
              refine pw_blkw hT 6 (pc := 59) (lo := [some (pvR 124), some (pvI n1), some (pvI n2)]) (st := []) (M := pvu M 147 (Int32.toNatClampNeg (M.1 124 40)) n1) rfl ⟨trivial, rfl, trivial, rfl, trivial, ⟨rfl, (zr_in (n := 6) b37_ (by decide) (by decide))⟩, trivial⟩ (fun M38_ e39_ => ?_)
              have o40_ : pvOk M38_ := pvok_u2 e39_ hok rfl b18_
              have f41_ : pvFr fp_eX10_see_124_x_x M M38_ := pvfr_u e39_ pvfr_0 rfl
              have e42_ : (M38_.1 124 40) = (M.1 124 40) := (pvu_n e39_ 124 40 (Or.inl (by decide)))
              have b43_ : 0 ≤ Int32.toInt (M38_.1 124 40) ∧ Int32.toInt (M38_.1 124 40) ≤ 5 := (by rw [e42_]; exact b37_)
              refine pw_blkw hT 6 (pc := 69) (lo := [some (pvR 124), some (pvI n1), some (pvI n2)]) (st := []) (M := pvu M38_ 148 (Int32.toNatClampNeg (M38_.1 124 40)) n2) rfl ⟨trivial, rfl, trivial, rfl, trivial, ⟨rfl, (zr_in (n := 6) b43_ (by decide) (by decide))⟩, trivial⟩ (fun M44_ e45_ => ?_)
              have o46_ : pvOk M44_ := pvok_u2 e45_ o40_ rfl b33_
              have f47_ : pvFr fp_eX10_see_124_x_x M M44_ := pvfr_u e45_ f41_ rfl
              have e48_ : (M44_.1 124 40) = (M38_.1 124 40) := (pvu_n e45_ 124 40 (Or.inl (by decide)))
              have b49_ : 0 ≤ Int32.toInt (M44_.1 124 40) ∧ Int32.toInt (M44_.1 124 40) ≤ 5 := (by rw [e48_]; exact b43_)
              obtain ⟨q51_, b50_⟩ : (Int32.toInt ((M44_.1 124 40) + 1) = Int32.toInt (M44_.1 124 40) + 1) ∧ (1 ≤ Int32.toInt ((M44_.1 124 40) + 1) ∧ Int32.toInt ((M44_.1 124 40) + 1) ≤ 6) := zadd_k (M44_.1 124 40) 1 1 1 6 b49_ (by decide) (by decide) (by decide) (by decide) (by decide)
              refine pw_blkw hT 6 (pc := 79) (lo := [some (pvR 124), some (pvI n1), some (pvI n2)]) (st := []) (M := pvu M44_ 124 40 ((M44_.1 124 40) + 1)) rfl ⟨trivial, trivial, rfl, trivial, trivial, rfl, trivial⟩ (fun M52_ e53_ => ?_)
              have o54_ : pvOk M52_ := pvok_u2 e53_ o46_ rfl (zr_wide b50_ (by decide) (by decide))
              have f55_ : pvFr fp_eX10_see_124_x_x M M52_ := pvfr_u e53_ f47_ rfl
              have e56_ : (M52_.1 124 40) = ((M44_.1 124 40) + 1) := (pvu_s e53_)
              have b57_ : 1 ≤ Int32.toInt (M52_.1 124 40) ∧ Int32.toInt (M52_.1 124 40) ≤ 6 := (by rw [e56_]; exact b50_)
              refine pw_blk hT 2 (S' := (83, [some (pvR 124), some (pvI n1), some (pvI n2)], [pvI (M52_.1 124 40)], M52_)) rfl ⟨trivial, rfl, trivial⟩ ?_
              exact pw_ret hT rfl (r := some (pvI (M52_.1 124 40))) (M' := M52_) ⟨rfl, rfl⟩ ⟨⟨_, rfl, (zr_wide b57_ (by decide) (by decide)), (by rw [if_neg c1_, if_neg c7_, if_neg c14_, if_neg c26_, if_neg c30_, if_neg c36_]; first | done | exact (show (M52_.1 124 40) = ((M.1 124 40) + 1) from by rw [((pvu_s e53_).trans (show ((M44_.1 124 40) + 1) = ((M.1 124 40) + 1) from by rw [((pvu_n e45_ 124 40 (Or.inl (by decide))).trans (pvu_n e39_ 124 40 (Or.inl (by decide))))]))]) | (rw [if_neg c36_]; exact (show (M52_.1 124 40) = ((M.1 124 40) + 1) from by rw [((pvu_s e53_).trans (show ((M44_.1 124 40) + 1) = ((M.1 124 40) + 1) from by rw [((pvu_n e45_ 124 40 (Or.inl (by decide))).trans (pvu_n e39_ 124 40 (Or.inl (by decide))))]))])))⟩, o54_, f55_, (by rw [if_neg c1_, if_neg c7_, if_neg c14_, if_neg c26_, if_neg c30_, if_neg c36_]; first | done | exact ((pvu_s e53_).trans (show ((M44_.1 124 40) + 1) = ((M.1 124 40) + 1) from by rw [((pvu_n e45_ 124 40 (Or.inl (by decide))).trans (pvu_n e39_ 124 40 (Or.inl (by decide))))])) | (rw [if_neg c36_]; done) | (rw [if_neg c36_]; exact ((pvu_s e53_).trans (show ((M44_.1 124 40) + 1) = ((M.1 124 40) + 1) from by rw [((pvu_n e45_ 124 40 (Or.inl (by decide))).trans (pvu_n e39_ 124 40 (Or.inl (by decide))))]))))⟩
            · have b58_ : 6 ≤ Int32.toInt (M.1 124 40) ∧ Int32.toInt (M.1 124 40) ≤ 6 := (by have u0 := b35_; have u1 := (zi_eq _ _).mp c36_; have u2 := (show 6 ≤ Int32.toInt 6 ∧ Int32.toInt 6 ≤ 6 from (by decide)); omega)
              refine pw_blk hT 1 (S' := (48, [some (pvR 124), some (pvI n1), some (pvI n2)], [pvI (-4)], M)) rfl ⟨trivial, trivial⟩ ?_
              exact pw_ret hT rfl (r := some (pvI (-4))) (M' := M) ⟨rfl, rfl⟩ ⟨⟨_, rfl, (zr_wide (show (-4) ≤ Int32.toInt (-4) ∧ Int32.toInt (-4) ≤ (-4) from (by decide)) (by decide) (by decide)), (by rw [if_neg c1_, if_neg c7_, if_neg c14_, if_neg c26_, if_neg c30_, if_pos c36_]; first | done | (rw [if_pos c36_]; done))⟩, hok, pvfr_0, (by rw [if_neg c1_, if_neg c7_, if_neg c14_, if_neg c26_, if_neg c30_, if_pos c36_]; first | done | exact rfl | (rw [if_pos c36_]; done) | (rw [if_pos c36_]; exact rfl))⟩
  · have b59_ : (-1) ≤ Int32.toInt n1 ∧ Int32.toInt n1 ≤ (-1) := (by have u0 := (zbnd n1); have u1 := (zi_eq _ _).mp c1_; have u2 := (show (-1) ≤ Int32.toInt (-1) ∧ Int32.toInt (-1) ≤ (-1) from (by decide)); omega)
    refine pw_blkw hT 3 (pc := 10) (lo := [some (pvR 124), some (pvI n1), some (pvI n2)]) (st := []) (M := pvu M 124 40 0) rfl ⟨trivial, trivial, rfl, trivial⟩ (fun M60_ e61_ => ?_)
    have o62_ : pvOk M60_ := pvok_u2 e61_ hok rfl (zr_wide (show 0 ≤ Int32.toInt 0 ∧ Int32.toInt 0 ≤ 0 from (by decide)) (by decide) (by decide))
    have f63_ : pvFr fp_eX10_see_124_x_x M M60_ := pvfr_u e61_ pvfr_0 rfl
    refine pw_blk hT 1 (S' := (11, [some (pvR 124), some (pvI n1), some (pvI n2)], [pvI 0], M60_)) rfl ⟨trivial, trivial⟩ ?_
    exact pw_ret hT rfl (r := some (pvI 0)) (M' := M60_) ⟨rfl, rfl⟩ ⟨⟨_, rfl, (zr_wide (show 0 ≤ Int32.toInt 0 ∧ Int32.toInt 0 ≤ 0 from (by decide)) (by decide) (by decide)), (by rw [if_pos c1_]; first | done | (rw [if_pos c1_]; done))⟩, o62_, f63_, (by rw [if_pos c1_]; first | done | exact (pvu_s e61_) | (rw [if_pos c1_]; done) | (rw [if_pos c1_]; exact (pvu_s e61_)))⟩
def fpL_eX10_shift_124_x_x_x_x_x : List (Nat × Nat × Nat) := []
def fp_eX10_shift_124_x_x_x_x_x (q k : Nat) : Bool := pvfp fpL_eX10_shift_124_x_x_x_x_x q k
set_option maxHeartbeats 4000000 in
set_option maxRecDepth 10000 in
theorem se_X10_shift_124_x_x_x_x_x (M : pvM) (hok : pvOk M) (n1 : Int32) (n2 : Int32) (n3 : Int32) (n4 : Int32) (n5 : Int32) (d : Nat) : PW 73 d (0, [some (pvR 124), some (pvI n1), some (pvI n2), some (pvI n3), some (pvI n4), some (pvI n5), none], [], M) (fun r X => (∃ x : Int32, r = some (pvI x) ∧ ((-13) ≤ Int32.toInt x ∧ Int32.toInt x ≤ 60) ∧ x = (if n1 < 0 then (-1) else (if 5 < n1 then (-1) else (if n3 < 0 then (-1) else (if 5 < n3 then (-1) else (if (M.1 164 (Int32.toNatClampNeg n1)) < 0 then (-11) else (if 0 ≤ (M.1 164 (Int32.toNatClampNeg n3)) then (if (M.1 164 (Int32.toNatClampNeg n1)) = (M.1 164 (Int32.toNatClampNeg n3)) then (if n5 < 0 then (-13) else (if n2 < 0 then (-13) else (if n4 < 0 then (-13) else (if ((M.1 165 (Int32.toNatClampNeg n1)) - n5) < n2 then (-13) else (if n4 ≤ ((M.1 165 (Int32.toNatClampNeg n3)) - n5) then n5 else (-13)))))) else (-12)) else (-11)))))))) ∧ pvOk X ∧ pvFr fp_eX10_shift_124_x_x_x_x_x M X ∧ zSH10 n1 n2 n3 n4 n5 r M X) := by
  have hT : pvdom 73 = pvD_73 := rfl
  refine pw_blk hT 2 (S' := (2, [some (pvR 124), some (pvI n1), some (pvI n2), some (pvI n3), some (pvI n4), some (pvI n5), none], [pvI n1, pvR 124], M)) rfl ⟨trivial, trivial, trivial⟩ ?_
  refine pw_callT hT (as := [pvR 124, pvI n1]) (lo1 := [some (pvR 124), some (pvI n1)]) (d1 := d) (rest := []) rfl rfl rfl rfl rfl (fun _ => rfl) (Nat.zero_le _) rfl rfl rfl (sf_X10_isTape_124_x M hok n1 d) ?_
  by_cases c6_ : n1 < 0
  · refine pw_eqI (if_pos c6_) ?_
    have b7_ : (-2147483648) ≤ Int32.toInt n1 ∧ Int32.toInt n1 ≤ (-1) := zr_lt_l (-1) c6_ (zbnd n1) (show 0 ≤ Int32.toInt 0 ∧ Int32.toInt 0 ≤ 0 from (by decide)) (by decide)
    show PW 73 d (5, [some (pvR 124), some (pvI n1), some (pvI n2), some (pvI n3), some (pvI n4), some (pvI n5), none], [pvI 0], M) _
    refine pw_if hT (c := 0 = 0) rfl rfl (fun c8_ => ?_) (fun c8_ => absurd (by decide) c8_)
    refine pw_blk hT 1 (S' := (17, [some (pvR 124), some (pvI n1), some (pvI n2), some (pvI n3), some (pvI n4), some (pvI n5), none], [pvI (-1)], M)) rfl ⟨trivial, trivial⟩ ?_
    exact pw_ret hT rfl (r := some (pvI (-1))) (M' := M) ⟨rfl, rfl⟩ ⟨⟨_, rfl, (zr_wide (show (-1) ≤ Int32.toInt (-1) ∧ Int32.toInt (-1) ≤ (-1) from (by decide)) (by decide) (by decide)), (by rw [if_pos c6_]; first | done | (rw [if_pos c6_]; done))⟩, hok, pvfr_0, ⟨_, rfl, Or.inl ⟨by decide, rfl⟩⟩⟩
  · refine pw_eqI (if_neg c6_) ?_
    have b9_ : 0 ≤ Int32.toInt n1 ∧ Int32.toInt n1 ≤ 2147483647 := zr_nlt_l 0 c6_ (zbnd n1) (show 0 ≤ Int32.toInt 0 ∧ Int32.toInt 0 ≤ 0 from (by decide)) (by decide)
    by_cases c10_ : 5 < n1
    · refine pw_eqI (if_pos c10_) ?_
      have b11_ : 6 ≤ Int32.toInt n1 ∧ Int32.toInt n1 ≤ 2147483647 := zr_lt_r 6 c10_ b9_ (show 5 ≤ Int32.toInt 5 ∧ Int32.toInt 5 ≤ 5 from (by decide)) (by decide)
      show PW 73 d (5, [some (pvR 124), some (pvI n1), some (pvI n2), some (pvI n3), some (pvI n4), some (pvI n5), none], [pvI 0], M) _
      refine pw_if hT (c := 0 = 0) rfl rfl (fun c12_ => ?_) (fun c12_ => absurd (by decide) c12_)
      refine pw_blk hT 1 (S' := (17, [some (pvR 124), some (pvI n1), some (pvI n2), some (pvI n3), some (pvI n4), some (pvI n5), none], [pvI (-1)], M)) rfl ⟨trivial, trivial⟩ ?_
      exact pw_ret hT rfl (r := some (pvI (-1))) (M' := M) ⟨rfl, rfl⟩ ⟨⟨_, rfl, (zr_wide (show (-1) ≤ Int32.toInt (-1) ∧ Int32.toInt (-1) ≤ (-1) from (by decide)) (by decide) (by decide)), (by rw [if_neg c6_, if_pos c10_]; first | done | (rw [if_pos c10_]; done))⟩, hok, pvfr_0, ⟨_, rfl, Or.inl ⟨by decide, rfl⟩⟩⟩
    · refine pw_eqI (if_neg c10_) ?_
      have b13_ : 0 ≤ Int32.toInt n1 ∧ Int32.toInt n1 ≤ 5 := zr_nlt_r 5 c10_ b9_ (show 5 ≤ Int32.toInt 5 ∧ Int32.toInt 5 ≤ 5 from (by decide)) (by decide)
      show PW 73 d (5, [some (pvR 124), some (pvI n1), some (pvI n2), some (pvI n3), some (pvI n4), some (pvI n5), none], [pvI 1], M) _
      refine pw_if hT (c := 1 = 0) rfl rfl (fun c14_ => absurd c14_ (by decide)) (fun c14_ => ?_)
      refine pw_blk hT 2 (S' := (10, [some (pvR 124), some (pvI n1), some (pvI n2), some (pvI n3), some (pvI n4), some (pvI n5), none], [pvI n3, pvR 124], M)) rfl ⟨trivial, trivial, trivial⟩ ?_
      refine pw_callT hT (as := [pvR 124, pvI n3]) (lo1 := [some (pvR 124), some (pvI n3)]) (d1 := d) (rest := []) rfl rfl rfl rfl rfl (fun _ => rfl) (Nat.zero_le _) rfl rfl rfl (sf_X10_isTape_124_x M hok n3 d) ?_
      by_cases c20_ : n3 < 0
      · refine pw_eqI (if_pos c20_) ?_
        have b21_ : (-2147483648) ≤ Int32.toInt n3 ∧ Int32.toInt n3 ≤ (-1) := zr_lt_l (-1) c20_ (zbnd n3) (show 0 ≤ Int32.toInt 0 ∧ Int32.toInt 0 ≤ 0 from (by decide)) (by decide)
        show PW 73 d (13, [some (pvR 124), some (pvI n1), some (pvI n2), some (pvI n3), some (pvI n4), some (pvI n5), none], [pvI 0], M) _
        refine pw_ifn hT (c := 0 = 0) rfl rfl (fun c22_ => absurd (by decide) c22_) (fun c22_ => ?_)
        refine pw_blk hT 1 (S' := (17, [some (pvR 124), some (pvI n1), some (pvI n2), some (pvI n3), some (pvI n4), some (pvI n5), none], [pvI (-1)], M)) rfl ⟨trivial, trivial⟩ ?_
        exact pw_ret hT rfl (r := some (pvI (-1))) (M' := M) ⟨rfl, rfl⟩ ⟨⟨_, rfl, (zr_wide (show (-1) ≤ Int32.toInt (-1) ∧ Int32.toInt (-1) ≤ (-1) from (by decide)) (by decide) (by decide)), (by rw [if_neg c6_, if_neg c10_, if_pos c20_]; first | done | (rw [if_pos c20_]; done))⟩, hok, pvfr_0, ⟨_, rfl, Or.inl ⟨by decide, rfl⟩⟩⟩
      · refine pw_eqI (if_neg c20_) ?_
        have b23_ : 0 ≤ Int32.toInt n3 ∧ Int32.toInt n3 ≤ 2147483647 := zr_nlt_l 0 c20_ (zbnd n3) (show 0 ≤ Int32.toInt 0 ∧ Int32.toInt 0 ≤ 0 from (by decide)) (by decide)
        by_cases c24_ : 5 < n3
        · refine pw_eqI (if_pos c24_) ?_
          have b25_ : 6 ≤ Int32.toInt n3 ∧ Int32.toInt n3 ≤ 2147483647 := zr_lt_r 6 c24_ b23_ (show 5 ≤ Int32.toInt 5 ∧ Int32.toInt 5 ≤ 5 from (by decide)) (by decide)
          show PW 73 d (13, [some (pvR 124), some (pvI n1), some (pvI n2), some (pvI n3), some (pvI n4), some (pvI n5), none], [pvI 0], M) _
          refine pw_ifn hT (c := 0 = 0) rfl rfl (fun c26_ => absurd (by decide) c26_) (fun c26_ => ?_)
          refine pw_blk hT 1 (S' := (17, [some (pvR 124), some (pvI n1), some (pvI n2), some (pvI n3), some (pvI n4), some (pvI n5), none], [pvI (-1)], M)) rfl ⟨trivial, trivial⟩ ?_
          exact pw_ret hT rfl (r := some (pvI (-1))) (M' := M) ⟨rfl, rfl⟩ ⟨⟨_, rfl, (zr_wide (show (-1) ≤ Int32.toInt (-1) ∧ Int32.toInt (-1) ≤ (-1) from (by decide)) (by decide) (by decide)), (by rw [if_neg c6_, if_neg c10_, if_neg c20_, if_pos c24_]; first | done | (rw [if_pos c24_]; done))⟩, hok, pvfr_0, ⟨_, rfl, Or.inl ⟨by decide, rfl⟩⟩⟩
        · refine pw_eqI (if_neg c24_) ?_
          have b27_ : 0 ≤ Int32.toInt n3 ∧ Int32.toInt n3 ≤ 5 := zr_nlt_r 5 c24_ b23_ (show 5 ≤ Int32.toInt 5 ∧ Int32.toInt 5 ≤ 5 from (by decide)) (by decide)
          show PW 73 d (13, [some (pvR 124), some (pvI n1), some (pvI n2), some (pvI n3), some (pvI n4), some (pvI n5), none], [pvI 1], M) _
          refine pw_ifn hT (c := 1 = 0) rfl rfl (fun c28_ => ?_) (fun c28_ => absurd c28_ (by decide))
          have b29_ : (-1) ≤ Int32.toInt (M.1 164 (Int32.toNatClampNeg n1)) ∧ Int32.toInt (M.1 164 (Int32.toNatClampNeg n1)) ≤ 4 := pvok_r hok 164 (Int32.toNatClampNeg n1) rfl
          refine pw_blk hT 4 (S' := (24, [some (pvR 124), some (pvI n1), some (pvI n2), some (pvI n3), some (pvI n4), some (pvI n5), none], [pvI (M.1 164 (Int32.toNatClampNeg n1))], M)) rfl ⟨trivial, rfl, trivial, ⟨rfl, (zr_in (n := 6) b13_ (by decide) (by decide))⟩, trivial⟩ ?_
          refine pw_if hT (c := (M.1 164 (Int32.toNatClampNeg n1)) < 0) rfl rfl (fun c30_ => ?_) (fun c30_ => ?_)
          · have b31_ : (-1) ≤ Int32.toInt (M.1 164 (Int32.toNatClampNeg n1)) ∧ Int32.toInt (M.1 164 (Int32.toNatClampNeg n1)) ≤ (-1) := zr_lt_l (-1) c30_ b29_ (show 0 ≤ Int32.toInt 0 ∧ Int32.toInt 0 ≤ 0 from (by decide)) (by decide)
            refine pw_blk hT 1 (S' := (38, [some (pvR 124), some (pvI n1), some (pvI n2), some (pvI n3), some (pvI n4), some (pvI n5), none], [pvI (-11)], M)) rfl ⟨trivial, trivial⟩ ?_
            exact pw_ret hT rfl (r := some (pvI (-11))) (M' := M) ⟨rfl, rfl⟩ ⟨⟨_, rfl, (zr_wide (show (-11) ≤ Int32.toInt (-11) ∧ Int32.toInt (-11) ≤ (-11) from (by decide)) (by decide) (by decide)), (by rw [if_neg c6_, if_neg c10_, if_neg c20_, if_neg c24_, if_pos c30_]; first | done | (rw [if_pos c30_]; done))⟩, hok, pvfr_0, ⟨_, rfl, Or.inl ⟨by decide, rfl⟩⟩⟩
          · have b32_ : 0 ≤ Int32.toInt (M.1 164 (Int32.toNatClampNeg n1)) ∧ Int32.toInt (M.1 164 (Int32.toNatClampNeg n1)) ≤ 4 := zr_nlt_l 0 c30_ b29_ (show 0 ≤ Int32.toInt 0 ∧ Int32.toInt 0 ≤ 0 from (by decide)) (by decide)
            have b33_ : (-1) ≤ Int32.toInt (M.1 164 (Int32.toNatClampNeg n3)) ∧ Int32.toInt (M.1 164 (Int32.toNatClampNeg n3)) ≤ 4 := pvok_r hok 164 (Int32.toNatClampNeg n3) rfl
            refine pw_blk hT 4 (S' := (33, [some (pvR 124), some (pvI n1), some (pvI n2), some (pvI n3), some (pvI n4), some (pvI n5), none], [pvI (M.1 164 (Int32.toNatClampNeg n3))], M)) rfl ⟨trivial, rfl, trivial, ⟨rfl, (zr_in (n := 6) b27_ (by decide) (by decide))⟩, trivial⟩ ?_
            refine pw_if hT (c := 0 ≤ (M.1 164 (Int32.toNatClampNeg n3))) rfl rfl (fun c34_ => ?_) (fun c34_ => ?_)
            · have b35_ : 0 ≤ Int32.toInt (M.1 164 (Int32.toNatClampNeg n3)) ∧ Int32.toInt (M.1 164 (Int32.toNatClampNeg n3)) ≤ 4 := zr_le_r 0 c34_ b33_ (show 0 ≤ Int32.toInt 0 ∧ Int32.toInt 0 ≤ 0 from (by decide)) (by decide)
              refine pw_blk hT 8 (S' := (51, [some (pvR 124), some (pvI n1), some (pvI n2), some (pvI n3), some (pvI n4), some (pvI n5), none], [pvI (M.1 164 (Int32.toNatClampNeg n3)), pvI (M.1 164 (Int32.toNatClampNeg n1))], M)) rfl ⟨trivial, rfl, trivial, ⟨rfl, (zr_in (n := 6) b13_ (by decide) (by decide))⟩, trivial, rfl, trivial, ⟨rfl, (zr_in (n := 6) b27_ (by decide) (by decide))⟩, trivial⟩ ?_
              refine pw_ic hT (c := (M.1 164 (Int32.toNatClampNeg n1)) = (M.1 164 (Int32.toNatClampNeg n3))) rfl rfl (fun c36_ => ?_) (fun c36_ => ?_)
              · have d37_ : Int32.toInt (M.1 164 (Int32.toNatClampNeg n1)) = Int32.toInt (M.1 164 (Int32.toNatClampNeg n3)) := (zi_eq _ _).mp c36_
                refine pw_blk hT 1 (S' := (59, [some (pvR 124), some (pvI n1), some (pvI n2), some (pvI n3), some (pvI n4), some (pvI n5), none], [pvI n5], M)) rfl ⟨trivial, trivial⟩ ?_
                refine pw_if hT (c := n5 < 0) rfl rfl (fun c38_ => ?_) (fun c38_ => ?_)
                · have b39_ : (-2147483648) ≤ Int32.toInt n5 ∧ Int32.toInt n5 ≤ (-1) := zr_lt_l (-1) c38_ (zbnd n5) (show 0 ≤ Int32.toInt 0 ∧ Int32.toInt 0 ≤ 0 from (by decide)) (by decide)
                  refine pw_blk hT 1 (S' := (100, [some (pvR 124), some (pvI n1), some (pvI n2), some (pvI n3), some (pvI n4), some (pvI n5), none], [pvI (-13)], M)) rfl ⟨trivial, trivial⟩ ?_
                  exact pw_ret hT rfl (r := some (pvI (-13))) (M' := M) ⟨rfl, rfl⟩ ⟨⟨_, rfl, (zr_wide (show (-13) ≤ Int32.toInt (-13) ∧ Int32.toInt (-13) ≤ (-13) from (by decide)) (by decide) (by decide)), (by rw [if_neg c6_, if_neg c10_, if_neg c20_, if_neg c24_, if_neg c30_, if_pos c34_, if_pos c36_, if_pos c38_]; first | done | (rw [if_pos c38_]; done))⟩, hok, pvfr_0, ⟨_, rfl, Or.inl ⟨by decide, rfl⟩⟩⟩
                · have b40_ : 0 ≤ Int32.toInt n5 ∧ Int32.toInt n5 ≤ 2147483647 := zr_nlt_l 0 c38_ (zbnd n5) (show 0 ≤ Int32.toInt 0 ∧ Int32.toInt 0 ≤ 0 from (by decide)) (by decide)
                  refine pw_blk hT 1 (S' := (63, [some (pvR 124), some (pvI n1), some (pvI n2), some (pvI n3), some (pvI n4), some (pvI n5), none], [pvI n2], M)) rfl ⟨trivial, trivial⟩ ?_
                  refine pw_if hT (c := n2 < 0) rfl rfl (fun c41_ => ?_) (fun c41_ => ?_)
                  · have b42_ : (-2147483648) ≤ Int32.toInt n2 ∧ Int32.toInt n2 ≤ (-1) := zr_lt_l (-1) c41_ (zbnd n2) (show 0 ≤ Int32.toInt 0 ∧ Int32.toInt 0 ≤ 0 from (by decide)) (by decide)
                    refine pw_blk hT 1 (S' := (100, [some (pvR 124), some (pvI n1), some (pvI n2), some (pvI n3), some (pvI n4), some (pvI n5), none], [pvI (-13)], M)) rfl ⟨trivial, trivial⟩ ?_
                    exact pw_ret hT rfl (r := some (pvI (-13))) (M' := M) ⟨rfl, rfl⟩ ⟨⟨_, rfl, (zr_wide (show (-13) ≤ Int32.toInt (-13) ∧ Int32.toInt (-13) ≤ (-13) from (by decide)) (by decide) (by decide)), (by rw [if_neg c6_, if_neg c10_, if_neg c20_, if_neg c24_, if_neg c30_, if_pos c34_, if_pos c36_, if_neg c38_, if_pos c41_]; first | done | (rw [if_pos c41_]; done))⟩, hok, pvfr_0, ⟨_, rfl, Or.inl ⟨by decide, rfl⟩⟩⟩
                  · have b43_ : 0 ≤ Int32.toInt n2 ∧ Int32.toInt n2 ≤ 2147483647 := zr_nlt_l 0 c41_ (zbnd n2) (show 0 ≤ Int32.toInt 0 ∧ Int32.toInt 0 ≤ 0 from (by decide)) (by decide)
                    refine pw_blk hT 1 (S' := (68, [some (pvR 124), some (pvI n1), some (pvI n2), some (pvI n3), some (pvI n4), some (pvI n5), none], [pvI n4], M)) rfl ⟨trivial, trivial⟩ ?_
                    refine pw_if hT (c := n4 < 0) rfl rfl (fun c44_ => ?_) (fun c44_ => ?_)
                    · have b45_ : (-2147483648) ≤ Int32.toInt n4 ∧ Int32.toInt n4 ≤ (-1) := zr_lt_l (-1) c44_ (zbnd n4) (show 0 ≤ Int32.toInt 0 ∧ Int32.toInt 0 ≤ 0 from (by decide)) (by decide)
                      refine pw_blk hT 1 (S' := (100, [some (pvR 124), some (pvI n1), some (pvI n2), some (pvI n3), some (pvI n4), some (pvI n5), none], [pvI (-13)], M)) rfl ⟨trivial, trivial⟩ ?_
                      exact pw_ret hT rfl (r := some (pvI (-13))) (M' := M) ⟨rfl, rfl⟩ ⟨⟨_, rfl, (zr_wide (show (-13) ≤ Int32.toInt (-13) ∧ Int32.toInt (-13) ≤ (-13) from (by decide)) (by decide) (by decide)), (by rw [if_neg c6_, if_neg c10_, if_neg c20_, if_neg c24_, if_neg c30_, if_pos c34_, if_pos c36_, if_neg c38_, if_neg c41_, if_pos c44_]; first | done | (rw [if_pos c44_]; done))⟩, hok, pvfr_0, ⟨_, rfl, Or.inl ⟨by decide, rfl⟩⟩⟩
                    · have b46_ : 0 ≤ Int32.toInt n4 ∧ Int32.toInt n4 ≤ 2147483647 := zr_nlt_l 0 c44_ (zbnd n4) (show 0 ≤ Int32.toInt 0 ∧ Int32.toInt 0 ≤ 0 from (by decide)) (by decide)
                      have b47_ : 0 ≤ Int32.toInt (M.1 165 (Int32.toNatClampNeg n1)) ∧ Int32.toInt (M.1 165 (Int32.toNatClampNeg n1)) ≤ 60 := pvok_r hok 165 (Int32.toNatClampNeg n1) rfl
                      obtain ⟨q49_, b48_⟩ : (Int32.toInt ((M.1 165 (Int32.toNatClampNeg n1)) - n5) = Int32.toInt (M.1 165 (Int32.toNatClampNeg n1)) - Int32.toInt n5) ∧ ((-2147483647) ≤ Int32.toInt ((M.1 165 (Int32.toNatClampNeg n1)) - n5) ∧ Int32.toInt ((M.1 165 (Int32.toNatClampNeg n1)) - n5) ≤ 60) := zsub_r (M.1 165 (Int32.toNatClampNeg n1)) n5 (-2147483647) 60 b47_ b40_ (by decide) (by decide) (by decide) (by decide)
                      refine pw_blk hT 7 (S' := (81, [some (pvR 124), some (pvI n1), some (pvI n2), some (pvI n3), some (pvI n4), some (pvI n5), none], [pvI ((M.1 165 (Int32.toNatClampNeg n1)) - n5), pvI n2], M)) rfl ⟨trivial, trivial, rfl, trivial, ⟨rfl, (zr_in (n := 6) b13_ (by decide) (by decide))⟩, trivial, trivial, trivial⟩ ?_
                      refine pw_ic hT (c := ((M.1 165 (Int32.toNatClampNeg n1)) - n5) < n2) rfl rfl (fun c50_ => ?_) (fun c50_ => ?_)
                      · have d51_ : Int32.toInt ((M.1 165 (Int32.toNatClampNeg n1)) - n5) < Int32.toInt n2 := (zi_lt _ _).mp c50_
                        refine pw_blk hT 1 (S' := (100, [some (pvR 124), some (pvI n1), some (pvI n2), some (pvI n3), some (pvI n4), some (pvI n5), none], [pvI (-13)], M)) rfl ⟨trivial, trivial⟩ ?_
                        exact pw_ret hT rfl (r := some (pvI (-13))) (M' := M) ⟨rfl, rfl⟩ ⟨⟨_, rfl, (zr_wide (show (-13) ≤ Int32.toInt (-13) ∧ Int32.toInt (-13) ≤ (-13) from (by decide)) (by decide) (by decide)), (by rw [if_neg c6_, if_neg c10_, if_neg c20_, if_neg c24_, if_neg c30_, if_pos c34_, if_pos c36_, if_neg c38_, if_neg c41_, if_neg c44_, if_pos c50_]; first | done | (rw [if_pos c50_]; done))⟩, hok, pvfr_0, ⟨_, rfl, Or.inl ⟨by decide, rfl⟩⟩⟩
                      · have b52_ : 0 ≤ Int32.toInt ((M.1 165 (Int32.toNatClampNeg n1)) - n5) ∧ Int32.toInt ((M.1 165 (Int32.toNatClampNeg n1)) - n5) ≤ 60 := zr_nlt_l 0 c50_ b48_ b43_ (by decide)
                        have b53_ : 0 ≤ Int32.toInt n2 ∧ Int32.toInt n2 ≤ 60 := zr_nlt_r 60 c50_ b43_ b52_ (by decide)
                        have d54_ : Int32.toInt ((M.1 165 (Int32.toNatClampNeg n1)) - n5) ≥ Int32.toInt n2 := Int.not_lt.mp ((not_congr (zi_lt _ _)).mp c50_)
                        have b55_ : 0 ≤ Int32.toInt (M.1 165 (Int32.toNatClampNeg n3)) ∧ Int32.toInt (M.1 165 (Int32.toNatClampNeg n3)) ≤ 60 := pvok_r hok 165 (Int32.toNatClampNeg n3) rfl
                        obtain ⟨q57_, b56_⟩ : (Int32.toInt ((M.1 165 (Int32.toNatClampNeg n3)) - n5) = Int32.toInt (M.1 165 (Int32.toNatClampNeg n3)) - Int32.toInt n5) ∧ ((-2147483647) ≤ Int32.toInt ((M.1 165 (Int32.toNatClampNeg n3)) - n5) ∧ Int32.toInt ((M.1 165 (Int32.toNatClampNeg n3)) - n5) ≤ 60) := zsub_r (M.1 165 (Int32.toNatClampNeg n3)) n5 (-2147483647) 60 b55_ b40_ (by decide) (by decide) (by decide) (by decide)
                        refine pw_blk hT 7 (S' := (95, [some (pvR 124), some (pvI n1), some (pvI n2), some (pvI n3), some (pvI n4), some (pvI n5), none], [pvI ((M.1 165 (Int32.toNatClampNeg n3)) - n5), pvI n4], M)) rfl ⟨trivial, trivial, rfl, trivial, ⟨rfl, (zr_in (n := 6) b27_ (by decide) (by decide))⟩, trivial, trivial, trivial⟩ ?_
                        refine pw_ic hT (c := n4 ≤ ((M.1 165 (Int32.toNatClampNeg n3)) - n5)) rfl rfl (fun c58_ => ?_) (fun c58_ => ?_)
                        · have b59_ : 0 ≤ Int32.toInt n4 ∧ Int32.toInt n4 ≤ 60 := zr_le_l 60 c58_ b46_ b56_ (by decide)
                          have b60_ : 0 ≤ Int32.toInt ((M.1 165 (Int32.toNatClampNeg n3)) - n5) ∧ Int32.toInt ((M.1 165 (Int32.toNatClampNeg n3)) - n5) ≤ 60 := zr_le_r 0 c58_ b56_ b59_ (by decide)
                          have d61_ : Int32.toInt n4 ≤ Int32.toInt ((M.1 165 (Int32.toNatClampNeg n3)) - n5) := (zi_le _ _).mp c58_
                          have b62_ : 0 ≤ Int32.toInt n5 ∧ Int32.toInt n5 ≤ 60 := (by omega)
                          refine pw_blk hT 2 (S' := (104, [some (pvR 124), some (pvI n1), some (pvI n2), some (pvI n3), some (pvI n4), some (pvI n5), some (pvI 0)], [], M)) rfl ⟨trivial, trivial, trivial⟩ ?_
                          have hlz339_ : ∀ (nz339_ : Nat) (i6z339_ : Int32) (Mz339_ : pvM), (pvOk Mz339_) → (pvFr fp_eX10_shift_124_x_x_x_x_x M Mz339_) → (0 ≤ Int32.toInt i6z339_ ∧ Int32.toInt i6z339_ ≤ 60) → (zSA (Int32.toNatClampNeg n1) (Int32.toNatClampNeg n2) (Int32.toNatClampNeg i6z339_) M Mz339_) → (zSB M Mz339_) → (zhide ((61 - Int32.toInt i6z339_).toNat < nz339_)) → PW 73 d (104, [some (pvR 124), some (pvI n1), some (pvI n2), some (pvI n3), some (pvI n4), some (pvI n5), some (pvI i6z339_)], [], Mz339_) (fun r X => (∃ x : Int32, r = some (pvI x) ∧ ((-13) ≤ Int32.toInt x ∧ Int32.toInt x ≤ 60) ∧ x = (if n1 < 0 then (-1) else (if 5 < n1 then (-1) else (if n3 < 0 then (-1) else (if 5 < n3 then (-1) else (if (M.1 164 (Int32.toNatClampNeg n1)) < 0 then (-11) else (if 0 ≤ (M.1 164 (Int32.toNatClampNeg n3)) then (if (M.1 164 (Int32.toNatClampNeg n1)) = (M.1 164 (Int32.toNatClampNeg n3)) then (if n5 < 0 then (-13) else (if n2 < 0 then (-13) else (if n4 < 0 then (-13) else (if ((M.1 165 (Int32.toNatClampNeg n1)) - n5) < n2 then (-13) else (if n4 ≤ ((M.1 165 (Int32.toNatClampNeg n3)) - n5) then n5 else (-13)))))) else (-12)) else (-11)))))))) ∧ pvOk X ∧ pvFr fp_eX10_shift_124_x_x_x_x_x M X ∧ zSH10 n1 n2 n3 n4 n5 r M X) := by
                            intro nz339_
                            induction nz339_ with
                            | zero => intro i6z339_ Mz339_ oz339_ fz339_ h6z339_ j0z339_ j1z339_ hmz339_; exact absurd (zshow hmz339_) (Nat.not_lt_zero _)
                            | succ nz339_ ihz339_ =>
                              intro i6z339_ Mz339_ oz339_ fz339_ h6z339_ j0z339_ j1z339_ hmz339_
                              refine pw_blk hT 2 (S' := (108, [some (pvR 124), some (pvI n1), some (pvI n2), some (pvI n3), some (pvI n4), some (pvI n5), some (pvI i6z339_)], [pvI n5, pvI i6z339_], Mz339_)) rfl ⟨trivial, trivial, trivial⟩ ?_
                              refine pw_ic hT (c := n5 ≤ i6z339_) rfl rfl (fun c340_ => ?_) (fun c340_ => ?_)
                              · have d341_ : Int32.toInt n5 ≤ Int32.toInt i6z339_ := (zi_le _ _).mp c340_
                                refine pw_blk hT 2 (S' := (141, [some (pvR 124), some (pvI n1), some (pvI n2), some (pvI n3), some (pvI n4), some (pvI n5), some (pvI 0)], [], Mz339_)) rfl ⟨trivial, trivial, trivial⟩ ?_
                                have hlz414_ : ∀ (nz414_ : Nat) (i6z414_ : Int32) (Mz414_ : pvM), (pvOk Mz414_) → (pvFr fp_eX10_shift_124_x_x_x_x_x M Mz414_) → (0 ≤ Int32.toInt i6z414_ ∧ Int32.toInt i6z414_ ≤ 60) → (zSA (Int32.toNatClampNeg n1) (Int32.toNatClampNeg n2) (Int32.toNatClampNeg n5) M Mz414_) → (zSHk (Int32.toNatClampNeg n1) (Int32.toNatClampNeg n2) (Int32.toNatClampNeg n3) (Int32.toNatClampNeg n4) (Int32.toNatClampNeg i6z414_) M Mz414_) → (Int32.toInt i6z414_ ≤ Int32.toInt n5) → (zhide ((61 - Int32.toInt i6z414_).toNat < nz414_)) → PW 73 d (141, [some (pvR 124), some (pvI n1), some (pvI n2), some (pvI n3), some (pvI n4), some (pvI n5), some (pvI i6z414_)], [], Mz414_) (fun r X => (∃ x : Int32, r = some (pvI x) ∧ ((-13) ≤ Int32.toInt x ∧ Int32.toInt x ≤ 60) ∧ x = (if n1 < 0 then (-1) else (if 5 < n1 then (-1) else (if n3 < 0 then (-1) else (if 5 < n3 then (-1) else (if (M.1 164 (Int32.toNatClampNeg n1)) < 0 then (-11) else (if 0 ≤ (M.1 164 (Int32.toNatClampNeg n3)) then (if (M.1 164 (Int32.toNatClampNeg n1)) = (M.1 164 (Int32.toNatClampNeg n3)) then (if n5 < 0 then (-13) else (if n2 < 0 then (-13) else (if n4 < 0 then (-13) else (if ((M.1 165 (Int32.toNatClampNeg n1)) - n5) < n2 then (-13) else (if n4 ≤ ((M.1 165 (Int32.toNatClampNeg n3)) - n5) then n5 else (-13)))))) else (-12)) else (-11)))))))) ∧ pvOk X ∧ pvFr fp_eX10_shift_124_x_x_x_x_x M X ∧ zSH10 n1 n2 n3 n4 n5 r M X) := by
                                  intro nz414_
                                  induction nz414_ with
                                  | zero => intro i6z414_ Mz414_ oz414_ fz414_ h6z414_ j0z414_ j1z414_ j2z414_ hmz414_; exact absurd (zshow hmz414_) (Nat.not_lt_zero _)
                                  | succ nz414_ ihz414_ =>
                                    intro i6z414_ Mz414_ oz414_ fz414_ h6z414_ j0z414_ j1z414_ j2z414_ hmz414_
                                    refine pw_blk hT 2 (S' := (145, [some (pvR 124), some (pvI n1), some (pvI n2), some (pvI n3), some (pvI n4), some (pvI n5), some (pvI i6z414_)], [pvI n5, pvI i6z414_], Mz414_)) rfl ⟨trivial, trivial, trivial⟩ ?_
                                    refine pw_ic hT (c := n5 ≤ i6z414_) rfl rfl (fun c415_ => ?_) (fun c415_ => ?_)
                                    · have d416_ : Int32.toInt n5 ≤ Int32.toInt i6z414_ := (zi_le _ _).mp c415_
                                      refine pw_blk hT 1 (S' := (178, [some (pvR 124), some (pvI n1), some (pvI n2), some (pvI n3), some (pvI n4), some (pvI n5), some (pvI i6z414_)], [pvI n5], Mz414_)) rfl ⟨trivial, trivial⟩ ?_
                                      exact pw_ret hT rfl (r := some (pvI n5)) (M' := Mz414_) ⟨rfl, rfl⟩ ⟨⟨_, rfl, (zr_wide b62_ (by decide) (by decide)), (by rw [if_neg c6_, if_neg c10_, if_neg c20_, if_neg c24_, if_neg c30_, if_pos c34_, if_pos c36_, if_neg c38_, if_neg c41_, if_neg c44_, if_neg c50_, if_pos c58_]; first | done | (rw [if_pos c58_]; done))⟩, oz414_, fz414_, ⟨_, rfl, Or.inr ⟨by have u := b62_; omega, zSHk_n (show n5.toInt.toNat = i6z414_.toInt.toNat from by have z := (zi_le _ _).mp c415_; omega) j1z414_⟩⟩⟩
                                    · have b417_ : 1 ≤ Int32.toInt n5 ∧ Int32.toInt n5 ≤ 60 := zr_nle_l 1 c415_ b62_ h6z414_ (by decide)
                                      have b418_ : 0 ≤ Int32.toInt i6z414_ ∧ Int32.toInt i6z414_ ≤ 59 := zr_nle_r 59 c415_ h6z414_ b417_ (by decide)
                                      have d419_ : Int32.toInt n5 > Int32.toInt i6z414_ := Int.not_le.mp ((not_congr (zi_le _ _)).mp c415_)
                                      have q420_ : Int32.toInt (60 * n3) = 60 * Int32.toInt n3 := by have u0 : Int32.toInt 60 = 60 := (by decide); have u1 := b27_; have u2 := zmul 60 n3 (by rw [u0]; omega) (by rw [u0]; omega); rw [u0] at u2; omega
                                      have b421_ : 0 ≤ Int32.toInt (60 * n3) ∧ Int32.toInt (60 * n3) ≤ 300 := (by have u1 := b27_; omega)
                                      obtain ⟨q423_, b422_⟩ : (Int32.toInt ((60 * n3) + n4) = Int32.toInt (60 * n3) + Int32.toInt n4) ∧ (0 ≤ Int32.toInt ((60 * n3) + n4) ∧ Int32.toInt ((60 * n3) + n4) ≤ 360) := zadd_r (60 * n3) n4 0 360 b421_ b59_ (by decide) (by decide) (by decide) (by decide)
                                      obtain ⟨q425_, b424_⟩ : (Int32.toInt (((60 * n3) + n4) + i6z414_) = Int32.toInt ((60 * n3) + n4) + Int32.toInt i6z414_) ∧ (0 ≤ Int32.toInt (((60 * n3) + n4) + i6z414_) ∧ Int32.toInt (((60 * n3) + n4) + i6z414_) ≤ 419) := zadd_r ((60 * n3) + n4) i6z414_ 0 419 b422_ b418_ (by decide) (by decide) (by decide) (by decide)
                                      refine pw_blkw hT 14 (pc := 170) (lo := [some (pvR 124), some (pvI n1), some (pvI n2), some (pvI n3), some (pvI n4), some (pvI n5), some (pvI i6z414_)]) (st := []) (M := pvw Mz414_ 166 (Int32.toNatClampNeg (((60 * n3) + n4) + i6z414_)) (Mz414_.2 167 (Int32.toNatClampNeg i6z414_))) rfl ⟨trivial, rfl, trivial, trivial, trivial, trivial, trivial, trivial, trivial, trivial, rfl, trivial, ⟨rfl, (zr_in (n := 60) b418_ (by decide) (by decide))⟩, ⟨rfl, (vp_in_iff.mpr (show 0 ≤ Int32.toInt (((60 * n3) + n4) + i6z414_) ∧ Int32.toInt (((60 * n3) + n4) + i6z414_) < ((360 : Nat) : Int) from (by have u0 := b424_; omega)))⟩, trivial⟩ (fun M426_ e427_ => ?_)
                                      have o428_ : pvOk M426_ := pvok_w e427_ oz414_
                                      have f429_ : pvFr fp_eX10_shift_124_x_x_x_x_x M M426_ := pvfr_w e427_ fz414_
                                      obtain ⟨q431_, b430_⟩ : (Int32.toInt (i6z414_ + 1) = Int32.toInt i6z414_ + 1) ∧ (1 ≤ Int32.toInt (i6z414_ + 1) ∧ Int32.toInt (i6z414_ + 1) ≤ 60) := zadd_k i6z414_ 1 1 1 60 b418_ (by decide) (by decide) (by decide) (by decide) (by decide)
                                      refine pw_blk hT 2 (S' := (141, [some (pvR 124), some (pvI n1), some (pvI n2), some (pvI n3), some (pvI n4), some (pvI n5), some (pvI (i6z414_ + 1))], [], M426_)) rfl ⟨trivial, trivial, trivial⟩ ?_
                                      have j432_ : zSA (Int32.toNatClampNeg n1) (Int32.toNatClampNeg n2) (Int32.toNatClampNeg n5) M M426_ := (zSA_l j0z414_ e427_ (by decide))
                                      have j433_ : zSHk (Int32.toNatClampNeg n1) (Int32.toNatClampNeg n2) (Int32.toNatClampNeg n3) (Int32.toNatClampNeg n4) (Int32.toNatClampNeg (i6z414_ + 1)) M M426_ := (zSHk_n (znp1 b418_ (by decide) (by decide)) (zSHk_w j1z414_ j0z414_ (show i6z414_.toInt.toNat < n5.toInt.toNat from by have z := (not_congr (zi_le _ _)).mp c415_; have u := b418_; omega) (zk60b b27_ b59_ (zr_wide b418_ (by decide) (by decide))) rfl e427_))
                                      have j434_ : Int32.toInt (i6z414_ + 1) ≤ Int32.toInt n5 := by omega
                                      exact ihz414_ (i6z414_ + 1) M426_ o428_ f429_ (zr_wide b430_ (by decide) (by decide)) j432_ j433_ j434_ (zhid (pvms_up (zshow hmz414_) h6z414_ q431_ (by decide) (by decide)))
                                have u435_ : Int32.toInt 0 = 0 := by decide
                                have j436_ : zSA (Int32.toNatClampNeg n1) (Int32.toNatClampNeg n2) (Int32.toNatClampNeg n5) M Mz339_ := (zSA_m (show n5.toInt.toNat ≤ i6z339_.toInt.toNat from by have z := (zi_le _ _).mp c340_; omega) j0z339_)
                                have j437_ : zSHk (Int32.toNatClampNeg n1) (Int32.toNatClampNeg n2) (Int32.toNatClampNeg n3) (Int32.toNatClampNeg n4) (Int32.toNatClampNeg 0) M Mz339_ := (zSHk_0 j1z339_)
                                have j438_ : Int32.toInt 0 ≤ Int32.toInt n5 := by omega
                                exact hlz414_ _ 0 Mz339_ oz339_ fz339_ (zr_wide (show 0 ≤ Int32.toInt 0 ∧ Int32.toInt 0 ≤ 0 from (by decide)) (by decide) (by decide)) j436_ j437_ j438_ (zhid (Nat.lt_succ_self _))
                              · have b439_ : 1 ≤ Int32.toInt n5 ∧ Int32.toInt n5 ≤ 60 := zr_nle_l 1 c340_ b62_ h6z339_ (by decide)
                                have b440_ : 0 ≤ Int32.toInt i6z339_ ∧ Int32.toInt i6z339_ ≤ 59 := zr_nle_r 59 c340_ h6z339_ b439_ (by decide)
                                have d441_ : Int32.toInt n5 > Int32.toInt i6z339_ := Int.not_le.mp ((not_congr (zi_le _ _)).mp c340_)
                                have q442_ : Int32.toInt (60 * n1) = 60 * Int32.toInt n1 := by have u0 : Int32.toInt 60 = 60 := (by decide); have u1 := b13_; have u2 := zmul 60 n1 (by rw [u0]; omega) (by rw [u0]; omega); rw [u0] at u2; omega
                                have b443_ : 0 ≤ Int32.toInt (60 * n1) ∧ Int32.toInt (60 * n1) ≤ 300 := (by have u1 := b13_; omega)
                                obtain ⟨q445_, b444_⟩ : (Int32.toInt ((60 * n1) + n2) = Int32.toInt (60 * n1) + Int32.toInt n2) ∧ (0 ≤ Int32.toInt ((60 * n1) + n2) ∧ Int32.toInt ((60 * n1) + n2) ≤ 360) := zadd_r (60 * n1) n2 0 360 b443_ b53_ (by decide) (by decide) (by decide) (by decide)
                                obtain ⟨q447_, b446_⟩ : (Int32.toInt (((60 * n1) + n2) + i6z339_) = Int32.toInt ((60 * n1) + n2) + Int32.toInt i6z339_) ∧ (0 ≤ Int32.toInt (((60 * n1) + n2) + i6z339_) ∧ Int32.toInt (((60 * n1) + n2) + i6z339_) ≤ 419) := zadd_r ((60 * n1) + n2) i6z339_ 0 419 b444_ b440_ (by decide) (by decide) (by decide) (by decide)
                                refine pw_blkw hT 14 (pc := 132) (lo := [some (pvR 124), some (pvI n1), some (pvI n2), some (pvI n3), some (pvI n4), some (pvI n5), some (pvI i6z339_)]) (st := []) (M := pvw Mz339_ 167 (Int32.toNatClampNeg i6z339_) (Mz339_.2 166 (Int32.toNatClampNeg (((60 * n1) + n2) + i6z339_)))) rfl ⟨trivial, rfl, trivial, trivial, rfl, trivial, trivial, trivial, trivial, trivial, trivial, trivial, ⟨rfl, (vp_in_iff.mpr (show 0 ≤ Int32.toInt (((60 * n1) + n2) + i6z339_) ∧ Int32.toInt (((60 * n1) + n2) + i6z339_) < ((360 : Nat) : Int) from (by have u0 := b446_; omega)))⟩, ⟨rfl, (zr_in (n := 60) b440_ (by decide) (by decide))⟩, trivial⟩ (fun M448_ e449_ => ?_)
                                have o450_ : pvOk M448_ := pvok_w e449_ oz339_
                                have f451_ : pvFr fp_eX10_shift_124_x_x_x_x_x M M448_ := pvfr_w e449_ fz339_
                                obtain ⟨q453_, b452_⟩ : (Int32.toInt (i6z339_ + 1) = Int32.toInt i6z339_ + 1) ∧ (1 ≤ Int32.toInt (i6z339_ + 1) ∧ Int32.toInt (i6z339_ + 1) ≤ 60) := zadd_k i6z339_ 1 1 1 60 b440_ (by decide) (by decide) (by decide) (by decide) (by decide)
                                refine pw_blk hT 2 (S' := (104, [some (pvR 124), some (pvI n1), some (pvI n2), some (pvI n3), some (pvI n4), some (pvI n5), some (pvI (i6z339_ + 1))], [], M448_)) rfl ⟨trivial, trivial, trivial⟩ ?_
                                have j454_ : zSA (Int32.toNatClampNeg n1) (Int32.toNatClampNeg n2) (Int32.toNatClampNeg (i6z339_ + 1)) M M448_ := (zSA_n (znp1 b440_ (by decide) (by decide)) (zSA_w j0z339_ j1z339_ (zk60b b13_ b53_ (zr_wide b440_ (by decide) (by decide))) rfl e449_))
                                have j455_ : zSB M M448_ := (zSB_w j1z339_ e449_)
                                exact ihz339_ (i6z339_ + 1) M448_ o450_ f451_ (zr_wide b452_ (by decide) (by decide)) j454_ j455_ (zhid (pvms_up (zshow hmz339_) h6z339_ q453_ (by decide) (by decide)))
                          have u456_ : Int32.toInt 0 = 0 := by decide
                          have j457_ : zSA (Int32.toNatClampNeg n1) (Int32.toNatClampNeg n2) (Int32.toNatClampNeg 0) M M := (zSA_0 (Int32.toNatClampNeg n1) (Int32.toNatClampNeg n2) M M)
                          have j458_ : zSB M M := (zSB_0 rfl)
                          exact hlz339_ _ 0 M hok pvfr_0 (zr_wide (show 0 ≤ Int32.toInt 0 ∧ Int32.toInt 0 ≤ 0 from (by decide)) (by decide) (by decide)) j457_ j458_ (zhid (Nat.lt_succ_self _))
                        · have d459_ : Int32.toInt n4 > Int32.toInt ((M.1 165 (Int32.toNatClampNeg n3)) - n5) := Int.not_le.mp ((not_congr (zi_le _ _)).mp c58_)
                          refine pw_blk hT 1 (S' := (100, [some (pvR 124), some (pvI n1), some (pvI n2), some (pvI n3), some (pvI n4), some (pvI n5), none], [pvI (-13)], M)) rfl ⟨trivial, trivial⟩ ?_
                          exact pw_ret hT rfl (r := some (pvI (-13))) (M' := M) ⟨rfl, rfl⟩ ⟨⟨_, rfl, (zr_wide (show (-13) ≤ Int32.toInt (-13) ∧ Int32.toInt (-13) ≤ (-13) from (by decide)) (by decide) (by decide)), (by rw [if_neg c6_, if_neg c10_, if_neg c20_, if_neg c24_, if_neg c30_, if_pos c34_, if_pos c36_, if_neg c38_, if_neg c41_, if_neg c44_, if_neg c50_, if_neg c58_]; first | done | (rw [if_neg c58_]; done))⟩, hok, pvfr_0, ⟨_, rfl, Or.inl ⟨by decide, rfl⟩⟩⟩
              · refine pw_blk hT 1 (S' := (56, [some (pvR 124), some (pvI n1), some (pvI n2), some (pvI n3), some (pvI n4), some (pvI n5), none], [pvI (-12)], M)) rfl ⟨trivial, trivial⟩ ?_
                exact pw_ret hT rfl (r := some (pvI (-12))) (M' := M) ⟨rfl, rfl⟩ ⟨⟨_, rfl, (zr_wide (show (-12) ≤ Int32.toInt (-12) ∧ Int32.toInt (-12) ≤ (-12) from (by decide)) (by decide) (by decide)), (by rw [if_neg c6_, if_neg c10_, if_neg c20_, if_neg c24_, if_neg c30_, if_pos c34_, if_neg c36_]; first | done | (rw [if_neg c36_]; done))⟩, hok, pvfr_0, ⟨_, rfl, Or.inl ⟨by decide, rfl⟩⟩⟩
            · have b460_ : (-1) ≤ Int32.toInt (M.1 164 (Int32.toNatClampNeg n3)) ∧ Int32.toInt (M.1 164 (Int32.toNatClampNeg n3)) ≤ (-1) := zr_nle_r (-1) c34_ b33_ (show 0 ≤ Int32.toInt 0 ∧ Int32.toInt 0 ≤ 0 from (by decide)) (by decide)
              refine pw_blk hT 1 (S' := (38, [some (pvR 124), some (pvI n1), some (pvI n2), some (pvI n3), some (pvI n4), some (pvI n5), none], [pvI (-11)], M)) rfl ⟨trivial, trivial⟩ ?_
              exact pw_ret hT rfl (r := some (pvI (-11))) (M' := M) ⟨rfl, rfl⟩ ⟨⟨_, rfl, (zr_wide (show (-11) ≤ Int32.toInt (-11) ∧ Int32.toInt (-11) ≤ (-11) from (by decide)) (by decide) (by decide)), (by rw [if_neg c6_, if_neg c10_, if_neg c20_, if_neg c24_, if_neg c30_, if_neg c34_]; first | done | (rw [if_neg c34_]; done))⟩, hok, pvfr_0, ⟨_, rfl, Or.inl ⟨by decide, rfl⟩⟩⟩
def fpL_eX10_shut_124_x : List (Nat × Nat × Nat) := [(0, 124, 2), (0, 124, 3), (0, 124, 33), (0, 124, 6), (0, 124, 7), (0, 131, 0), (0, 141, 0), (0, 142, 0), (0, 143, 0)]
def fp_eX10_shut_124_x (q k : Nat) : Bool := pvfp fpL_eX10_shut_124_x q k
theorem fp_eX10_shut_124_x_fp_eX10_goMinutes_124_x (a b : Nat) (h : fp_eX10_goMinutes_124_x a b = true) : fp_eX10_shut_124_x a b = true := pvfp_sub (l1 := fpL_eX10_goMinutes_124_x) (l2 := fpL_eX10_shut_124_x) (by decide) a b h
set_option maxHeartbeats 4000000 in
set_option maxRecDepth 10000 in
theorem se_X10_shut_124_x (M : pvM) (hok : pvOk M) (n1 : Int32) (hz : pvWF M) (d : Nat) : PW 74 d (0, [some (pvR 124), some (pvI n1), none, none], [], M) (fun r X => (∃ x : Int32, r = some (pvI x) ∧ (-3) ≤ Int32.toInt x ∧ Int32.toInt x ≤ 319) ∧ pvOk X ∧ pvFr fp_eX10_shut_124_x M X ∧ zST0 n1 r M X) := by
  have hT : pvdom 74 = pvD_74 := rfl
  refine pw_blk hT 2 (S' := (2, [some (pvR 124), some (pvI n1), none, none], [pvI n1, pvR 124], M)) rfl ⟨trivial, trivial, trivial⟩ ?_
  refine pw_callT hT (as := [pvR 124, pvI n1]) (lo1 := [some (pvR 124), some (pvI n1)]) (d1 := d) (rest := []) rfl rfl rfl rfl rfl (fun _ => rfl) (Nat.zero_le _) rfl rfl rfl (sf_X10_isWindow_124_x M hok n1 d) ?_
  by_cases c6_ : n1 < 0
  · refine pw_eqI (if_pos c6_) ?_
    have b7_ : (-2147483648) ≤ Int32.toInt n1 ∧ Int32.toInt n1 ≤ (-1) := zr_lt_l (-1) c6_ (zbnd n1) (show 0 ≤ Int32.toInt 0 ∧ Int32.toInt 0 ≤ 0 from (by decide)) (by decide)
    show PW 74 d (5, [some (pvR 124), some (pvI n1), none, none], [pvI 0], M) _
    refine pw_ifn hT (c := 0 = 0) rfl rfl (fun c8_ => absurd (by decide) c8_) (fun c8_ => ?_)
    refine pw_blk hT 1 (S' := (9, [some (pvR 124), some (pvI n1), none, none], [pvI (-1)], M)) rfl ⟨trivial, trivial⟩ ?_
    exact pw_ret hT rfl (r := some (pvI (-1))) (M' := M) ⟨rfl, rfl⟩ ⟨⟨_, rfl, (zr_wide (show (-1) ≤ Int32.toInt (-1) ∧ Int32.toInt (-1) ≤ (-1) from (by decide)) (by decide) (by decide))⟩, hok, pvfr_0, ⟨zwT_n (by decide), zsA_0 (zvl_l c6_)⟩⟩
  · refine pw_eqI (if_neg c6_) ?_
    have b9_ : 0 ≤ Int32.toInt n1 ∧ Int32.toInt n1 ≤ 2147483647 := zr_nlt_l 0 c6_ (zbnd n1) (show 0 ≤ Int32.toInt 0 ∧ Int32.toInt 0 ≤ 0 from (by decide)) (by decide)
    have b10_ : 0 ≤ Int32.toInt (M.1 124 0) ∧ Int32.toInt (M.1 124 0) ≤ 7 := pvok_r hok 124 0 rfl
    obtain ⟨q12_, b11_⟩ : (Int32.toInt ((M.1 124 0) - 1) = Int32.toInt (M.1 124 0) - 1) ∧ ((-1) ≤ Int32.toInt ((M.1 124 0) - 1) ∧ Int32.toInt ((M.1 124 0) - 1) ≤ 6) := zsub_k (M.1 124 0) 1 1 (-1) 6 b10_ (by decide) (by decide) (by decide) (by decide) (by decide)
    by_cases c13_ : ((M.1 124 0) - 1) < n1
    · refine pw_eqI (if_pos c13_) ?_
      have d14_ : Int32.toInt ((M.1 124 0) - 1) < Int32.toInt n1 := (zi_lt _ _).mp c13_
      show PW 74 d (5, [some (pvR 124), some (pvI n1), none, none], [pvI 0], M) _
      refine pw_ifn hT (c := 0 = 0) rfl rfl (fun c15_ => absurd (by decide) c15_) (fun c15_ => ?_)
      refine pw_blk hT 1 (S' := (9, [some (pvR 124), some (pvI n1), none, none], [pvI (-1)], M)) rfl ⟨trivial, trivial⟩ ?_
      exact pw_ret hT rfl (r := some (pvI (-1))) (M' := M) ⟨rfl, rfl⟩ ⟨⟨_, rfl, (zr_wide (show (-1) ≤ Int32.toInt (-1) ∧ Int32.toInt (-1) ≤ (-1) from (by decide)) (by decide) (by decide))⟩, hok, pvfr_0, ⟨zwT_n (by decide), zsA_0 (zvl_u0 (pvok_r hok 124 0 (lo := 0) (hi := 7) rfl).1 c13_)⟩⟩
    · refine pw_eqI (if_neg c13_) ?_
      have b16_ : 0 ≤ Int32.toInt ((M.1 124 0) - 1) ∧ Int32.toInt ((M.1 124 0) - 1) ≤ 6 := zr_nlt_l 0 c13_ b11_ b9_ (by decide)
      have b17_ : 0 ≤ Int32.toInt n1 ∧ Int32.toInt n1 ≤ 6 := zr_nlt_r 6 c13_ b9_ b16_ (by decide)
      have d18_ : Int32.toInt ((M.1 124 0) - 1) ≥ Int32.toInt n1 := Int.not_lt.mp ((not_congr (zi_lt _ _)).mp c13_)
      show PW 74 d (5, [some (pvR 124), some (pvI n1), none, none], [pvI 1], M) _
      refine pw_ifn hT (c := 1 = 0) rfl rfl (fun c19_ => ?_) (fun c19_ => absurd c19_ (by decide))
      have b20_ : 0 ≤ Int32.toInt (M.1 124 5) ∧ Int32.toInt (M.1 124 5) ≤ 3 := pvok_r hok 124 5 rfl
      have b21_ : 0 ≤ Int32.toInt (M.1 124 6) ∧ Int32.toInt (M.1 124 6) ≤ 4 := pvok_r hok 124 6 rfl
      refine pw_blk hT 6 (S' := (20, [some (pvR 124), some (pvI n1), none, none], [pvI n1, pvI (M.1 124 6), pvI (M.1 124 5), pvR 124], M)) rfl ⟨trivial, trivial, rfl, trivial, rfl, trivial, trivial⟩ ?_
      refine pw_callGp hT (as := [pvR 124, pvI (M.1 124 5), pvI (M.1 124 6), pvI n1]) (lo1 := [some (pvR 124), some (pvI (M.1 124 5)), some (pvI (M.1 124 6)), some (pvI n1)]) (d1 := d) (rest := []) rfl rfl rfl rfl rfl (fun _ => rfl) (Nat.zero_le _) rfl rfl rfl (se_X10_way_124_x_x_x M hok (M.1 124 5) (M.1 124 6) n1 b20_ b21_ b17_ d) (fun x22_ b24_ => ?_)
      obtain ⟨b27_, d28_⟩ := b24_
      refine pw_blk hT 2 (S' := (25, [some (pvR 124), some (pvI n1), none, none], [pvI n1, pvR 124, pvI x22_], M)) rfl ⟨trivial, trivial, trivial⟩ ?_
      refine pw_callT hT (as := [pvR 124, pvI n1]) (lo1 := [some (pvR 124), some (pvI n1)]) (d1 := d) (rest := [pvI x22_]) rfl rfl rfl rfl rfl (fun _ => rfl) (Nat.zero_le _) rfl rfl rfl (sf_X10_shutting_124_x M hok n1 b17_ d) ?_
      have b34_ : 0 ≤ Int32.toInt (M.1 125 (Int32.toNatClampNeg n1)) ∧ Int32.toInt (M.1 125 (Int32.toNatClampNeg n1)) ≤ 6 := pvok_r hok 125 (Int32.toNatClampNeg n1) rfl
      by_cases c35_ : (M.1 125 (Int32.toNatClampNeg n1)) = 1
      · refine pw_eqI (if_pos c35_) ?_
        have b36_ : 1 ≤ Int32.toInt (M.1 125 (Int32.toNatClampNeg n1)) ∧ Int32.toInt (M.1 125 (Int32.toNatClampNeg n1)) ≤ 1 := (by have u0 := b34_; have u1 := (zi_eq _ _).mp c35_; have u2 := (show 1 ≤ Int32.toInt 1 ∧ Int32.toInt 1 ≤ 1 from (by decide)); omega)
        have b37_ : 0 ≤ Int32.toInt (M.1 129 (Int32.toNatClampNeg n1)) ∧ Int32.toInt (M.1 129 (Int32.toNatClampNeg n1)) ≤ 9 := pvok_r hok 129 (Int32.toNatClampNeg n1) rfl
        have q38_ : Int32.toInt (2 * (M.1 129 (Int32.toNatClampNeg n1))) = 2 * Int32.toInt (M.1 129 (Int32.toNatClampNeg n1)) := by have u0 : Int32.toInt 2 = 2 := (by decide); have u1 := b37_; have u2 := zmul 2 (M.1 129 (Int32.toNatClampNeg n1)) (by rw [u0]; omega) (by rw [u0]; omega); rw [u0] at u2; omega
        have b39_ : 0 ≤ Int32.toInt (2 * (M.1 129 (Int32.toNatClampNeg n1))) ∧ Int32.toInt (2 * (M.1 129 (Int32.toNatClampNeg n1))) ≤ 18 := (by have u1 := b37_; omega)
        show PW 74 d (28, [some (pvR 124), some (pvI n1), none, none], [pvI (2 * (M.1 129 (Int32.toNatClampNeg n1))), pvI x22_], M) _
        obtain ⟨q41_, b40_⟩ : (Int32.toInt (x22_ + (2 * (M.1 129 (Int32.toNatClampNeg n1)))) = Int32.toInt x22_ + Int32.toInt (2 * (M.1 129 (Int32.toNatClampNeg n1)))) ∧ (0 ≤ Int32.toInt (x22_ + (2 * (M.1 129 (Int32.toNatClampNeg n1)))) ∧ Int32.toInt (x22_ + (2 * (M.1 129 (Int32.toNatClampNeg n1)))) ≤ 319) := zadd_r x22_ (2 * (M.1 129 (Int32.toNatClampNeg n1))) 0 319 b27_ b39_ (by decide) (by decide) (by decide) (by decide)
        have b42_ : 0 ≤ Int32.toInt (M.1 131 (Int32.toNatClampNeg n1)) ∧ Int32.toInt (M.1 131 (Int32.toNatClampNeg n1)) ≤ 1 := pvok_r hok 131 (Int32.toNatClampNeg n1) rfl
        refine pw_blk hT 6 (S' := (36, [some (pvR 124), some (pvI n1), some (pvI (x22_ + (2 * (M.1 129 (Int32.toNatClampNeg n1))))), none], [pvI (M.1 131 (Int32.toNatClampNeg n1))], M)) rfl ⟨trivial, trivial, trivial, rfl, trivial, ⟨rfl, (zr_in (n := 7) b17_ (by decide) (by decide))⟩, trivial⟩ ?_
        refine pw_ifn hT (c := (M.1 131 (Int32.toNatClampNeg n1)) = 0) rfl rfl (fun c43_ => ?_) (fun c43_ => ?_)
        · have b44_ : 1 ≤ Int32.toInt (M.1 131 (Int32.toNatClampNeg n1)) ∧ Int32.toInt (M.1 131 (Int32.toNatClampNeg n1)) ≤ 1 := (by have u0 := b42_; have u1 := (not_congr (zi_eq _ _)).mp c43_; have u2 := (show 0 ≤ Int32.toInt 0 ∧ Int32.toInt 0 ≤ 0 from (by decide)); omega)
          refine pw_blk hT 1 (S' := (53, [some (pvR 124), some (pvI n1), some (pvI (x22_ + (2 * (M.1 129 (Int32.toNatClampNeg n1))))), none], [pvI (-3)], M)) rfl ⟨trivial, trivial⟩ ?_
          exact pw_ret hT rfl (r := some (pvI (-3))) (M' := M) ⟨rfl, rfl⟩ ⟨⟨_, rfl, (zr_wide (show (-3) ≤ Int32.toInt (-3) ∧ Int32.toInt (-3) ≤ (-3) from (by decide)) (by decide) (by decide))⟩, hok, pvfr_0, ⟨zwT_n (by decide), zsA_1 (zvl_y0 (pvok_r hok 124 0 (lo := 0) (hi := 7) rfl).1 c6_ c13_) (Or.inl c43_)⟩⟩
        · have b45_ : 0 ≤ Int32.toInt (M.1 131 (Int32.toNatClampNeg n1)) ∧ Int32.toInt (M.1 131 (Int32.toNatClampNeg n1)) ≤ 0 := (by have u0 := b42_; have u1 := (zi_eq _ _).mp c43_; have u2 := (show 0 ≤ Int32.toInt 0 ∧ Int32.toInt 0 ≤ 0 from (by decide)); omega)
          have b46_ : 0 ≤ Int32.toInt (M.1 124 1) ∧ Int32.toInt (M.1 124 1) ≤ 9999 := pvok_r hok 124 1 rfl
          obtain ⟨q48_, b47_⟩ : (Int32.toInt ((M.1 124 1) + (x22_ + (2 * (M.1 129 (Int32.toNatClampNeg n1))))) = Int32.toInt (M.1 124 1) + Int32.toInt (x22_ + (2 * (M.1 129 (Int32.toNatClampNeg n1))))) ∧ (0 ≤ Int32.toInt ((M.1 124 1) + (x22_ + (2 * (M.1 129 (Int32.toNatClampNeg n1))))) ∧ Int32.toInt ((M.1 124 1) + (x22_ + (2 * (M.1 129 (Int32.toNatClampNeg n1))))) ≤ 10318) := zadd_r (M.1 124 1) (x22_ + (2 * (M.1 129 (Int32.toNatClampNeg n1)))) 0 10318 b46_ b40_ (by decide) (by decide) (by decide) (by decide)
          refine pw_blk hT 5 (S' := (48, [some (pvR 124), some (pvI n1), some (pvI (x22_ + (2 * (M.1 129 (Int32.toNatClampNeg n1))))), none], [pvI 9999, pvI ((M.1 124 1) + (x22_ + (2 * (M.1 129 (Int32.toNatClampNeg n1)))))], M)) rfl ⟨trivial, rfl, trivial, trivial, trivial, trivial⟩ ?_
          refine pw_ic hT (c := ((M.1 124 1) + (x22_ + (2 * (M.1 129 (Int32.toNatClampNeg n1))))) ≤ 9999) rfl rfl (fun c49_ => ?_) (fun c49_ => ?_)
          · have b50_ : 0 ≤ Int32.toInt ((M.1 124 1) + (x22_ + (2 * (M.1 129 (Int32.toNatClampNeg n1))))) ∧ Int32.toInt ((M.1 124 1) + (x22_ + (2 * (M.1 129 (Int32.toNatClampNeg n1))))) ≤ 9999 := zr_le_l 9999 c49_ b47_ (show 9999 ≤ Int32.toInt 9999 ∧ Int32.toInt 9999 ≤ 9999 from (by decide)) (by decide)
            refine pw_blk hT 2 (S' := (56, [some (pvR 124), some (pvI n1), some (pvI (x22_ + (2 * (M.1 129 (Int32.toNatClampNeg n1))))), none], [pvI (x22_ + (2 * (M.1 129 (Int32.toNatClampNeg n1)))), pvR 124], M)) rfl ⟨trivial, trivial, trivial⟩ ?_
            refine pw_callGd hT (as := [pvR 124, pvI (x22_ + (2 * (M.1 129 (Int32.toNatClampNeg n1))))]) (lo1 := [some (pvR 124), some (pvI (x22_ + (2 * (M.1 129 (Int32.toNatClampNeg n1))))), none]) (d1 := d) (rest := []) rfl rfl rfl rfl rfl (fun _ => rfl) (Nat.zero_le _) rfl rfl rfl (se_X10_goMinutes_124_x M hok (x22_ + (2 * (M.1 129 (Int32.toNatClampNeg n1)))) (zr_wide b40_ (by decide) (by decide)) hz (show Int32.toInt (M.1 124 1) + Int32.toInt (x22_ + (2 * (M.1 129 (Int32.toNatClampNeg n1)))) ≤ 9999 from (by omega)) d) (fun x52_ M53_ b54_ o55_ g56_ d51_ => ?_)
            have f57_ : pvFr fp_eX10_shut_124_x M M53_ := pvfr_t g56_ pvfr_0 fp_eX10_shut_124_x_fp_eX10_goMinutes_124_x
            refine pw_blkw hT 6 (pc := 67) (lo := [some (pvR 124), some (pvI n1), some (pvI (x22_ + (2 * (M.1 129 (Int32.toNatClampNeg n1))))), some (pvI x52_)]) (st := []) (M := pvu M53_ 131 (Int32.toNatClampNeg n1) (vp_nar .boolean 1)) rfl ⟨trivial, trivial, rfl, trivial, trivial, ⟨rfl, (zr_in (n := 7) b17_ (by decide) (by decide))⟩, trivial⟩ (fun M58_ e59_ => ?_)
            have o60_ : pvOk M58_ := pvok_u2 e59_ o55_ rfl (zboolr 1)
            have f61_ : pvFr fp_eX10_shut_124_x M M58_ := pvfr_u e59_ f57_ rfl
            have b62_ : 0 ≤ Int32.toInt (M58_.1 127 (Int32.toNatClampNeg n1)) ∧ Int32.toInt (M58_.1 127 (Int32.toNatClampNeg n1)) ≤ 3 := pvok_r o60_ 127 (Int32.toNatClampNeg n1) rfl
            refine pw_blkw hT 6 (pc := 77) (lo := [some (pvR 124), some (pvI n1), some (pvI (x22_ + (2 * (M.1 129 (Int32.toNatClampNeg n1))))), some (pvI x52_)]) (st := []) (M := pvu M58_ 124 5 (M58_.1 127 (Int32.toNatClampNeg n1))) rfl ⟨trivial, trivial, rfl, trivial, ⟨rfl, (zr_in (n := 7) b17_ (by decide) (by decide))⟩, rfl, trivial⟩ (fun M63_ e64_ => ?_)
            have o65_ : pvOk M63_ := pvok_u2 e64_ o60_ rfl b62_
            have f66_ : pvFr fp_eX10_shut_124_x M M63_ := pvfr_u e64_ f61_ rfl
            have b67_ : 0 ≤ Int32.toInt (M63_.1 128 (Int32.toNatClampNeg n1)) ∧ Int32.toInt (M63_.1 128 (Int32.toNatClampNeg n1)) ≤ 4 := pvok_r o65_ 128 (Int32.toNatClampNeg n1) rfl
            refine pw_blkw hT 6 (pc := 87) (lo := [some (pvR 124), some (pvI n1), some (pvI (x22_ + (2 * (M.1 129 (Int32.toNatClampNeg n1))))), some (pvI x52_)]) (st := []) (M := pvu M63_ 124 6 (M63_.1 128 (Int32.toNatClampNeg n1))) rfl ⟨trivial, trivial, rfl, trivial, ⟨rfl, (zr_in (n := 7) b17_ (by decide) (by decide))⟩, rfl, trivial⟩ (fun M68_ e69_ => ?_)
            have o70_ : pvOk M68_ := pvok_u2 e69_ o65_ rfl b67_
            have f71_ : pvFr fp_eX10_shut_124_x M M68_ := pvfr_u e69_ f66_ rfl
            refine pw_blk hT 1 (S' := (88, [some (pvR 124), some (pvI n1), some (pvI (x22_ + (2 * (M.1 129 (Int32.toNatClampNeg n1))))), some (pvI x52_)], [pvI (x22_ + (2 * (M.1 129 (Int32.toNatClampNeg n1))))], M68_)) rfl ⟨trivial, trivial⟩ ?_
            exact pw_ret hT rfl (r := some (pvI (x22_ + (2 * (M.1 129 (Int32.toNatClampNeg n1)))))) (M' := M68_) ⟨rfl, rfl⟩ ⟨⟨_, rfl, (zr_wide b40_ (by decide) (by decide))⟩, o70_, f71_, ⟨zwT_i (by have u := b40_; omega) b17_ ((((pvu_n e69_ 124 1 (Or.inr (by decide))).trans (pvu_n e64_ 124 1 (Or.inr (by decide)))).trans (pvu_n e59_ 124 1 (Or.inl (by decide)))).trans (d51_)) ((pvu_n e69_ 124 5 (Or.inr (by decide))).trans ((pvu_s e64_).trans ((pvu_n e59_ 127 (Int32.toNatClampNeg n1) (Or.inl (by decide))).trans (congrFun (pvfr_row (L := fpL_eX10_goMinutes_124_x) g56_ rfl) (Int32.toNatClampNeg n1))))) ((pvu_s e69_).trans ((pvu_n e64_ 128 (Int32.toNatClampNeg n1) (Or.inl (by decide))).trans ((pvu_n e59_ 128 (Int32.toNatClampNeg n1) (Or.inl (by decide))).trans (congrFun (pvfr_row (L := fpL_eX10_goMinutes_124_x) g56_ rfl) (Int32.toNatClampNeg n1))))) (zVu1 e59_ (by decide) (fun i => (pvu_n e69_ 131 i (Or.inl (by decide))).trans (pvu_n e64_ 131 i (Or.inl (by decide)))) (fun i => congrFun (pvfr_row (L := fpL_eX10_goMinutes_124_x) g56_ rfl) i)), zsA_2 (zvl_y0 (pvok_r hok 124 0 (lo := 0) (hi := 7) rfl).1 c6_ c13_) c43_ (by have b := b50_; have c := (show Int32.toInt (x22_ + (2 * (M.1 129 (Int32.toNatClampNeg n1)))) = zcS0 n1 M from by unfold zcS0 zTm; rw [if_pos (Or.inl c35_)]; omega); omega) (show Int32.toInt (x22_ + (2 * (M.1 129 (Int32.toNatClampNeg n1)))) = zcS0 n1 M from by unfold zcS0 zTm; rw [if_pos (Or.inl c35_)]; omega)⟩⟩
          · have b72_ : 10000 ≤ Int32.toInt ((M.1 124 1) + (x22_ + (2 * (M.1 129 (Int32.toNatClampNeg n1))))) ∧ Int32.toInt ((M.1 124 1) + (x22_ + (2 * (M.1 129 (Int32.toNatClampNeg n1))))) ≤ 10318 := zr_nle_l 10000 c49_ b47_ (show 9999 ≤ Int32.toInt 9999 ∧ Int32.toInt 9999 ≤ 9999 from (by decide)) (by decide)
            refine pw_blk hT 1 (S' := (53, [some (pvR 124), some (pvI n1), some (pvI (x22_ + (2 * (M.1 129 (Int32.toNatClampNeg n1))))), none], [pvI (-3)], M)) rfl ⟨trivial, trivial⟩ ?_
            exact pw_ret hT rfl (r := some (pvI (-3))) (M' := M) ⟨rfl, rfl⟩ ⟨⟨_, rfl, (zr_wide (show (-3) ≤ Int32.toInt (-3) ∧ Int32.toInt (-3) ≤ (-3) from (by decide)) (by decide) (by decide))⟩, hok, pvfr_0, ⟨zwT_n (by decide), zsA_1 (zvl_y0 (pvok_r hok 124 0 (lo := 0) (hi := 7) rfl).1 c6_ c13_) (Or.inr (by have b := b72_; have c := (show Int32.toInt (x22_ + (2 * (M.1 129 (Int32.toNatClampNeg n1)))) = zcS0 n1 M from by unfold zcS0 zTm; rw [if_pos (Or.inl c35_)]; omega); omega))⟩⟩
      · refine pw_eqI (if_neg c35_) ?_
        by_cases c73_ : (M.1 125 (Int32.toNatClampNeg n1)) = 4
        · refine pw_eqI (if_pos c73_) ?_
          have b74_ : 4 ≤ Int32.toInt (M.1 125 (Int32.toNatClampNeg n1)) ∧ Int32.toInt (M.1 125 (Int32.toNatClampNeg n1)) ≤ 4 := (by have u0 := b34_; have u1 := (zi_eq _ _).mp c73_; have u2 := (show 4 ≤ Int32.toInt 4 ∧ Int32.toInt 4 ≤ 4 from (by decide)); omega)
          have b75_ : 0 ≤ Int32.toInt (M.1 129 (Int32.toNatClampNeg n1)) ∧ Int32.toInt (M.1 129 (Int32.toNatClampNeg n1)) ≤ 9 := pvok_r hok 129 (Int32.toNatClampNeg n1) rfl
          have q76_ : Int32.toInt (2 * (M.1 129 (Int32.toNatClampNeg n1))) = 2 * Int32.toInt (M.1 129 (Int32.toNatClampNeg n1)) := by have u0 : Int32.toInt 2 = 2 := (by decide); have u1 := b75_; have u2 := zmul 2 (M.1 129 (Int32.toNatClampNeg n1)) (by rw [u0]; omega) (by rw [u0]; omega); rw [u0] at u2; omega
          have b77_ : 0 ≤ Int32.toInt (2 * (M.1 129 (Int32.toNatClampNeg n1))) ∧ Int32.toInt (2 * (M.1 129 (Int32.toNatClampNeg n1))) ≤ 18 := (by have u1 := b75_; omega)
          show PW 74 d (28, [some (pvR 124), some (pvI n1), none, none], [pvI (2 * (M.1 129 (Int32.toNatClampNeg n1))), pvI x22_], M) _
          obtain ⟨q79_, b78_⟩ : (Int32.toInt (x22_ + (2 * (M.1 129 (Int32.toNatClampNeg n1)))) = Int32.toInt x22_ + Int32.toInt (2 * (M.1 129 (Int32.toNatClampNeg n1)))) ∧ (0 ≤ Int32.toInt (x22_ + (2 * (M.1 129 (Int32.toNatClampNeg n1)))) ∧ Int32.toInt (x22_ + (2 * (M.1 129 (Int32.toNatClampNeg n1)))) ≤ 319) := zadd_r x22_ (2 * (M.1 129 (Int32.toNatClampNeg n1))) 0 319 b27_ b77_ (by decide) (by decide) (by decide) (by decide)
          have b80_ : 0 ≤ Int32.toInt (M.1 131 (Int32.toNatClampNeg n1)) ∧ Int32.toInt (M.1 131 (Int32.toNatClampNeg n1)) ≤ 1 := pvok_r hok 131 (Int32.toNatClampNeg n1) rfl
          refine pw_blk hT 6 (S' := (36, [some (pvR 124), some (pvI n1), some (pvI (x22_ + (2 * (M.1 129 (Int32.toNatClampNeg n1))))), none], [pvI (M.1 131 (Int32.toNatClampNeg n1))], M)) rfl ⟨trivial, trivial, trivial, rfl, trivial, ⟨rfl, (zr_in (n := 7) b17_ (by decide) (by decide))⟩, trivial⟩ ?_
          refine pw_ifn hT (c := (M.1 131 (Int32.toNatClampNeg n1)) = 0) rfl rfl (fun c81_ => ?_) (fun c81_ => ?_)
          · have b82_ : 1 ≤ Int32.toInt (M.1 131 (Int32.toNatClampNeg n1)) ∧ Int32.toInt (M.1 131 (Int32.toNatClampNeg n1)) ≤ 1 := (by have u0 := b80_; have u1 := (not_congr (zi_eq _ _)).mp c81_; have u2 := (show 0 ≤ Int32.toInt 0 ∧ Int32.toInt 0 ≤ 0 from (by decide)); omega)
            refine pw_blk hT 1 (S' := (53, [some (pvR 124), some (pvI n1), some (pvI (x22_ + (2 * (M.1 129 (Int32.toNatClampNeg n1))))), none], [pvI (-3)], M)) rfl ⟨trivial, trivial⟩ ?_
            exact pw_ret hT rfl (r := some (pvI (-3))) (M' := M) ⟨rfl, rfl⟩ ⟨⟨_, rfl, (zr_wide (show (-3) ≤ Int32.toInt (-3) ∧ Int32.toInt (-3) ≤ (-3) from (by decide)) (by decide) (by decide))⟩, hok, pvfr_0, ⟨zwT_n (by decide), zsA_1 (zvl_y0 (pvok_r hok 124 0 (lo := 0) (hi := 7) rfl).1 c6_ c13_) (Or.inl c81_)⟩⟩
          · have b83_ : 0 ≤ Int32.toInt (M.1 131 (Int32.toNatClampNeg n1)) ∧ Int32.toInt (M.1 131 (Int32.toNatClampNeg n1)) ≤ 0 := (by have u0 := b80_; have u1 := (zi_eq _ _).mp c81_; have u2 := (show 0 ≤ Int32.toInt 0 ∧ Int32.toInt 0 ≤ 0 from (by decide)); omega)
            have b84_ : 0 ≤ Int32.toInt (M.1 124 1) ∧ Int32.toInt (M.1 124 1) ≤ 9999 := pvok_r hok 124 1 rfl
            obtain ⟨q86_, b85_⟩ : (Int32.toInt ((M.1 124 1) + (x22_ + (2 * (M.1 129 (Int32.toNatClampNeg n1))))) = Int32.toInt (M.1 124 1) + Int32.toInt (x22_ + (2 * (M.1 129 (Int32.toNatClampNeg n1))))) ∧ (0 ≤ Int32.toInt ((M.1 124 1) + (x22_ + (2 * (M.1 129 (Int32.toNatClampNeg n1))))) ∧ Int32.toInt ((M.1 124 1) + (x22_ + (2 * (M.1 129 (Int32.toNatClampNeg n1))))) ≤ 10318) := zadd_r (M.1 124 1) (x22_ + (2 * (M.1 129 (Int32.toNatClampNeg n1)))) 0 10318 b84_ b78_ (by decide) (by decide) (by decide) (by decide)
            refine pw_blk hT 5 (S' := (48, [some (pvR 124), some (pvI n1), some (pvI (x22_ + (2 * (M.1 129 (Int32.toNatClampNeg n1))))), none], [pvI 9999, pvI ((M.1 124 1) + (x22_ + (2 * (M.1 129 (Int32.toNatClampNeg n1)))))], M)) rfl ⟨trivial, rfl, trivial, trivial, trivial, trivial⟩ ?_
            refine pw_ic hT (c := ((M.1 124 1) + (x22_ + (2 * (M.1 129 (Int32.toNatClampNeg n1))))) ≤ 9999) rfl rfl (fun c87_ => ?_) (fun c87_ => ?_)
            · have b88_ : 0 ≤ Int32.toInt ((M.1 124 1) + (x22_ + (2 * (M.1 129 (Int32.toNatClampNeg n1))))) ∧ Int32.toInt ((M.1 124 1) + (x22_ + (2 * (M.1 129 (Int32.toNatClampNeg n1))))) ≤ 9999 := zr_le_l 9999 c87_ b85_ (show 9999 ≤ Int32.toInt 9999 ∧ Int32.toInt 9999 ≤ 9999 from (by decide)) (by decide)
              refine pw_blk hT 2 (S' := (56, [some (pvR 124), some (pvI n1), some (pvI (x22_ + (2 * (M.1 129 (Int32.toNatClampNeg n1))))), none], [pvI (x22_ + (2 * (M.1 129 (Int32.toNatClampNeg n1)))), pvR 124], M)) rfl ⟨trivial, trivial, trivial⟩ ?_
              refine pw_callGd hT (as := [pvR 124, pvI (x22_ + (2 * (M.1 129 (Int32.toNatClampNeg n1))))]) (lo1 := [some (pvR 124), some (pvI (x22_ + (2 * (M.1 129 (Int32.toNatClampNeg n1))))), none]) (d1 := d) (rest := []) rfl rfl rfl rfl rfl (fun _ => rfl) (Nat.zero_le _) rfl rfl rfl (se_X10_goMinutes_124_x M hok (x22_ + (2 * (M.1 129 (Int32.toNatClampNeg n1)))) (zr_wide b78_ (by decide) (by decide)) hz (show Int32.toInt (M.1 124 1) + Int32.toInt (x22_ + (2 * (M.1 129 (Int32.toNatClampNeg n1)))) ≤ 9999 from (by omega)) d) (fun x90_ M91_ b92_ o93_ g94_ d89_ => ?_)
              have f95_ : pvFr fp_eX10_shut_124_x M M91_ := pvfr_t g94_ pvfr_0 fp_eX10_shut_124_x_fp_eX10_goMinutes_124_x
              refine pw_blkw hT 6 (pc := 67) (lo := [some (pvR 124), some (pvI n1), some (pvI (x22_ + (2 * (M.1 129 (Int32.toNatClampNeg n1))))), some (pvI x90_)]) (st := []) (M := pvu M91_ 131 (Int32.toNatClampNeg n1) (vp_nar .boolean 1)) rfl ⟨trivial, trivial, rfl, trivial, trivial, ⟨rfl, (zr_in (n := 7) b17_ (by decide) (by decide))⟩, trivial⟩ (fun M96_ e97_ => ?_)
              have o98_ : pvOk M96_ := pvok_u2 e97_ o93_ rfl (zboolr 1)
              have f99_ : pvFr fp_eX10_shut_124_x M M96_ := pvfr_u e97_ f95_ rfl
              have b100_ : 0 ≤ Int32.toInt (M96_.1 127 (Int32.toNatClampNeg n1)) ∧ Int32.toInt (M96_.1 127 (Int32.toNatClampNeg n1)) ≤ 3 := pvok_r o98_ 127 (Int32.toNatClampNeg n1) rfl
              refine pw_blkw hT 6 (pc := 77) (lo := [some (pvR 124), some (pvI n1), some (pvI (x22_ + (2 * (M.1 129 (Int32.toNatClampNeg n1))))), some (pvI x90_)]) (st := []) (M := pvu M96_ 124 5 (M96_.1 127 (Int32.toNatClampNeg n1))) rfl ⟨trivial, trivial, rfl, trivial, ⟨rfl, (zr_in (n := 7) b17_ (by decide) (by decide))⟩, rfl, trivial⟩ (fun M101_ e102_ => ?_)
              have o103_ : pvOk M101_ := pvok_u2 e102_ o98_ rfl b100_
              have f104_ : pvFr fp_eX10_shut_124_x M M101_ := pvfr_u e102_ f99_ rfl
              have b105_ : 0 ≤ Int32.toInt (M101_.1 128 (Int32.toNatClampNeg n1)) ∧ Int32.toInt (M101_.1 128 (Int32.toNatClampNeg n1)) ≤ 4 := pvok_r o103_ 128 (Int32.toNatClampNeg n1) rfl
              refine pw_blkw hT 6 (pc := 87) (lo := [some (pvR 124), some (pvI n1), some (pvI (x22_ + (2 * (M.1 129 (Int32.toNatClampNeg n1))))), some (pvI x90_)]) (st := []) (M := pvu M101_ 124 6 (M101_.1 128 (Int32.toNatClampNeg n1))) rfl ⟨trivial, trivial, rfl, trivial, ⟨rfl, (zr_in (n := 7) b17_ (by decide) (by decide))⟩, rfl, trivial⟩ (fun M106_ e107_ => ?_)
              have o108_ : pvOk M106_ := pvok_u2 e107_ o103_ rfl b105_
              have f109_ : pvFr fp_eX10_shut_124_x M M106_ := pvfr_u e107_ f104_ rfl
              refine pw_blk hT 1 (S' := (88, [some (pvR 124), some (pvI n1), some (pvI (x22_ + (2 * (M.1 129 (Int32.toNatClampNeg n1))))), some (pvI x90_)], [pvI (x22_ + (2 * (M.1 129 (Int32.toNatClampNeg n1))))], M106_)) rfl ⟨trivial, trivial⟩ ?_
              exact pw_ret hT rfl (r := some (pvI (x22_ + (2 * (M.1 129 (Int32.toNatClampNeg n1)))))) (M' := M106_) ⟨rfl, rfl⟩ ⟨⟨_, rfl, (zr_wide b78_ (by decide) (by decide))⟩, o108_, f109_, ⟨zwT_i (by have u := b78_; omega) b17_ ((((pvu_n e107_ 124 1 (Or.inr (by decide))).trans (pvu_n e102_ 124 1 (Or.inr (by decide)))).trans (pvu_n e97_ 124 1 (Or.inl (by decide)))).trans (d89_)) ((pvu_n e107_ 124 5 (Or.inr (by decide))).trans ((pvu_s e102_).trans ((pvu_n e97_ 127 (Int32.toNatClampNeg n1) (Or.inl (by decide))).trans (congrFun (pvfr_row (L := fpL_eX10_goMinutes_124_x) g94_ rfl) (Int32.toNatClampNeg n1))))) ((pvu_s e107_).trans ((pvu_n e102_ 128 (Int32.toNatClampNeg n1) (Or.inl (by decide))).trans ((pvu_n e97_ 128 (Int32.toNatClampNeg n1) (Or.inl (by decide))).trans (congrFun (pvfr_row (L := fpL_eX10_goMinutes_124_x) g94_ rfl) (Int32.toNatClampNeg n1))))) (zVu1 e97_ (by decide) (fun i => (pvu_n e107_ 131 i (Or.inl (by decide))).trans (pvu_n e102_ 131 i (Or.inl (by decide)))) (fun i => congrFun (pvfr_row (L := fpL_eX10_goMinutes_124_x) g94_ rfl) i)), zsA_2 (zvl_y0 (pvok_r hok 124 0 (lo := 0) (hi := 7) rfl).1 c6_ c13_) c81_ (by have b := b88_; have c := (show Int32.toInt (x22_ + (2 * (M.1 129 (Int32.toNatClampNeg n1)))) = zcS0 n1 M from by unfold zcS0 zTm; rw [if_pos (Or.inr c73_)]; omega); omega) (show Int32.toInt (x22_ + (2 * (M.1 129 (Int32.toNatClampNeg n1)))) = zcS0 n1 M from by unfold zcS0 zTm; rw [if_pos (Or.inr c73_)]; omega)⟩⟩
            · have b110_ : 10000 ≤ Int32.toInt ((M.1 124 1) + (x22_ + (2 * (M.1 129 (Int32.toNatClampNeg n1))))) ∧ Int32.toInt ((M.1 124 1) + (x22_ + (2 * (M.1 129 (Int32.toNatClampNeg n1))))) ≤ 10318 := zr_nle_l 10000 c87_ b85_ (show 9999 ≤ Int32.toInt 9999 ∧ Int32.toInt 9999 ≤ 9999 from (by decide)) (by decide)
              refine pw_blk hT 1 (S' := (53, [some (pvR 124), some (pvI n1), some (pvI (x22_ + (2 * (M.1 129 (Int32.toNatClampNeg n1))))), none], [pvI (-3)], M)) rfl ⟨trivial, trivial⟩ ?_
              exact pw_ret hT rfl (r := some (pvI (-3))) (M' := M) ⟨rfl, rfl⟩ ⟨⟨_, rfl, (zr_wide (show (-3) ≤ Int32.toInt (-3) ∧ Int32.toInt (-3) ≤ (-3) from (by decide)) (by decide) (by decide))⟩, hok, pvfr_0, ⟨zwT_n (by decide), zsA_1 (zvl_y0 (pvok_r hok 124 0 (lo := 0) (hi := 7) rfl).1 c6_ c13_) (Or.inr (by have b := b110_; have c := (show Int32.toInt (x22_ + (2 * (M.1 129 (Int32.toNatClampNeg n1)))) = zcS0 n1 M from by unfold zcS0 zTm; rw [if_pos (Or.inr c73_)]; omega); omega))⟩⟩
        · refine pw_eqI (if_neg c73_) ?_
          have b111_ : 0 ≤ Int32.toInt (M.1 129 (Int32.toNatClampNeg n1)) ∧ Int32.toInt (M.1 129 (Int32.toNatClampNeg n1)) ≤ 9 := pvok_r hok 129 (Int32.toNatClampNeg n1) rfl
          show PW 74 d (28, [some (pvR 124), some (pvI n1), none, none], [pvI (M.1 129 (Int32.toNatClampNeg n1)), pvI x22_], M) _
          obtain ⟨q113_, b112_⟩ : (Int32.toInt (x22_ + (M.1 129 (Int32.toNatClampNeg n1))) = Int32.toInt x22_ + Int32.toInt (M.1 129 (Int32.toNatClampNeg n1))) ∧ (0 ≤ Int32.toInt (x22_ + (M.1 129 (Int32.toNatClampNeg n1))) ∧ Int32.toInt (x22_ + (M.1 129 (Int32.toNatClampNeg n1))) ≤ 310) := zadd_r x22_ (M.1 129 (Int32.toNatClampNeg n1)) 0 310 b27_ b111_ (by decide) (by decide) (by decide) (by decide)
          have b114_ : 0 ≤ Int32.toInt (M.1 131 (Int32.toNatClampNeg n1)) ∧ Int32.toInt (M.1 131 (Int32.toNatClampNeg n1)) ≤ 1 := pvok_r hok 131 (Int32.toNatClampNeg n1) rfl
          refine pw_blk hT 6 (S' := (36, [some (pvR 124), some (pvI n1), some (pvI (x22_ + (M.1 129 (Int32.toNatClampNeg n1)))), none], [pvI (M.1 131 (Int32.toNatClampNeg n1))], M)) rfl ⟨trivial, trivial, trivial, rfl, trivial, ⟨rfl, (zr_in (n := 7) b17_ (by decide) (by decide))⟩, trivial⟩ ?_
          refine pw_ifn hT (c := (M.1 131 (Int32.toNatClampNeg n1)) = 0) rfl rfl (fun c115_ => ?_) (fun c115_ => ?_)
          · have b116_ : 1 ≤ Int32.toInt (M.1 131 (Int32.toNatClampNeg n1)) ∧ Int32.toInt (M.1 131 (Int32.toNatClampNeg n1)) ≤ 1 := (by have u0 := b114_; have u1 := (not_congr (zi_eq _ _)).mp c115_; have u2 := (show 0 ≤ Int32.toInt 0 ∧ Int32.toInt 0 ≤ 0 from (by decide)); omega)
            refine pw_blk hT 1 (S' := (53, [some (pvR 124), some (pvI n1), some (pvI (x22_ + (M.1 129 (Int32.toNatClampNeg n1)))), none], [pvI (-3)], M)) rfl ⟨trivial, trivial⟩ ?_
            exact pw_ret hT rfl (r := some (pvI (-3))) (M' := M) ⟨rfl, rfl⟩ ⟨⟨_, rfl, (zr_wide (show (-3) ≤ Int32.toInt (-3) ∧ Int32.toInt (-3) ≤ (-3) from (by decide)) (by decide) (by decide))⟩, hok, pvfr_0, ⟨zwT_n (by decide), zsA_1 (zvl_y0 (pvok_r hok 124 0 (lo := 0) (hi := 7) rfl).1 c6_ c13_) (Or.inl c115_)⟩⟩
          · have b117_ : 0 ≤ Int32.toInt (M.1 131 (Int32.toNatClampNeg n1)) ∧ Int32.toInt (M.1 131 (Int32.toNatClampNeg n1)) ≤ 0 := (by have u0 := b114_; have u1 := (zi_eq _ _).mp c115_; have u2 := (show 0 ≤ Int32.toInt 0 ∧ Int32.toInt 0 ≤ 0 from (by decide)); omega)
            have b118_ : 0 ≤ Int32.toInt (M.1 124 1) ∧ Int32.toInt (M.1 124 1) ≤ 9999 := pvok_r hok 124 1 rfl
            obtain ⟨q120_, b119_⟩ : (Int32.toInt ((M.1 124 1) + (x22_ + (M.1 129 (Int32.toNatClampNeg n1)))) = Int32.toInt (M.1 124 1) + Int32.toInt (x22_ + (M.1 129 (Int32.toNatClampNeg n1)))) ∧ (0 ≤ Int32.toInt ((M.1 124 1) + (x22_ + (M.1 129 (Int32.toNatClampNeg n1)))) ∧ Int32.toInt ((M.1 124 1) + (x22_ + (M.1 129 (Int32.toNatClampNeg n1)))) ≤ 10309) := zadd_r (M.1 124 1) (x22_ + (M.1 129 (Int32.toNatClampNeg n1))) 0 10309 b118_ b112_ (by decide) (by decide) (by decide) (by decide)
            refine pw_blk hT 5 (S' := (48, [some (pvR 124), some (pvI n1), some (pvI (x22_ + (M.1 129 (Int32.toNatClampNeg n1)))), none], [pvI 9999, pvI ((M.1 124 1) + (x22_ + (M.1 129 (Int32.toNatClampNeg n1))))], M)) rfl ⟨trivial, rfl, trivial, trivial, trivial, trivial⟩ ?_
            refine pw_ic hT (c := ((M.1 124 1) + (x22_ + (M.1 129 (Int32.toNatClampNeg n1)))) ≤ 9999) rfl rfl (fun c121_ => ?_) (fun c121_ => ?_)
            · have b122_ : 0 ≤ Int32.toInt ((M.1 124 1) + (x22_ + (M.1 129 (Int32.toNatClampNeg n1)))) ∧ Int32.toInt ((M.1 124 1) + (x22_ + (M.1 129 (Int32.toNatClampNeg n1)))) ≤ 9999 := zr_le_l 9999 c121_ b119_ (show 9999 ≤ Int32.toInt 9999 ∧ Int32.toInt 9999 ≤ 9999 from (by decide)) (by decide)
              refine pw_blk hT 2 (S' := (56, [some (pvR 124), some (pvI n1), some (pvI (x22_ + (M.1 129 (Int32.toNatClampNeg n1)))), none], [pvI (x22_ + (M.1 129 (Int32.toNatClampNeg n1))), pvR 124], M)) rfl ⟨trivial, trivial, trivial⟩ ?_
              refine pw_callGd hT (as := [pvR 124, pvI (x22_ + (M.1 129 (Int32.toNatClampNeg n1)))]) (lo1 := [some (pvR 124), some (pvI (x22_ + (M.1 129 (Int32.toNatClampNeg n1)))), none]) (d1 := d) (rest := []) rfl rfl rfl rfl rfl (fun _ => rfl) (Nat.zero_le _) rfl rfl rfl (se_X10_goMinutes_124_x M hok (x22_ + (M.1 129 (Int32.toNatClampNeg n1))) (zr_wide b112_ (by decide) (by decide)) hz (show Int32.toInt (M.1 124 1) + Int32.toInt (x22_ + (M.1 129 (Int32.toNatClampNeg n1))) ≤ 9999 from (by omega)) d) (fun x124_ M125_ b126_ o127_ g128_ d123_ => ?_)
              have f129_ : pvFr fp_eX10_shut_124_x M M125_ := pvfr_t g128_ pvfr_0 fp_eX10_shut_124_x_fp_eX10_goMinutes_124_x
              refine pw_blkw hT 6 (pc := 67) (lo := [some (pvR 124), some (pvI n1), some (pvI (x22_ + (M.1 129 (Int32.toNatClampNeg n1)))), some (pvI x124_)]) (st := []) (M := pvu M125_ 131 (Int32.toNatClampNeg n1) (vp_nar .boolean 1)) rfl ⟨trivial, trivial, rfl, trivial, trivial, ⟨rfl, (zr_in (n := 7) b17_ (by decide) (by decide))⟩, trivial⟩ (fun M130_ e131_ => ?_)
              have o132_ : pvOk M130_ := pvok_u2 e131_ o127_ rfl (zboolr 1)
              have f133_ : pvFr fp_eX10_shut_124_x M M130_ := pvfr_u e131_ f129_ rfl
              have b134_ : 0 ≤ Int32.toInt (M130_.1 127 (Int32.toNatClampNeg n1)) ∧ Int32.toInt (M130_.1 127 (Int32.toNatClampNeg n1)) ≤ 3 := pvok_r o132_ 127 (Int32.toNatClampNeg n1) rfl
              refine pw_blkw hT 6 (pc := 77) (lo := [some (pvR 124), some (pvI n1), some (pvI (x22_ + (M.1 129 (Int32.toNatClampNeg n1)))), some (pvI x124_)]) (st := []) (M := pvu M130_ 124 5 (M130_.1 127 (Int32.toNatClampNeg n1))) rfl ⟨trivial, trivial, rfl, trivial, ⟨rfl, (zr_in (n := 7) b17_ (by decide) (by decide))⟩, rfl, trivial⟩ (fun M135_ e136_ => ?_)
              have o137_ : pvOk M135_ := pvok_u2 e136_ o132_ rfl b134_
              have f138_ : pvFr fp_eX10_shut_124_x M M135_ := pvfr_u e136_ f133_ rfl
              have b139_ : 0 ≤ Int32.toInt (M135_.1 128 (Int32.toNatClampNeg n1)) ∧ Int32.toInt (M135_.1 128 (Int32.toNatClampNeg n1)) ≤ 4 := pvok_r o137_ 128 (Int32.toNatClampNeg n1) rfl
              refine pw_blkw hT 6 (pc := 87) (lo := [some (pvR 124), some (pvI n1), some (pvI (x22_ + (M.1 129 (Int32.toNatClampNeg n1)))), some (pvI x124_)]) (st := []) (M := pvu M135_ 124 6 (M135_.1 128 (Int32.toNatClampNeg n1))) rfl ⟨trivial, trivial, rfl, trivial, ⟨rfl, (zr_in (n := 7) b17_ (by decide) (by decide))⟩, rfl, trivial⟩ (fun M140_ e141_ => ?_)
              have o142_ : pvOk M140_ := pvok_u2 e141_ o137_ rfl b139_
              have f143_ : pvFr fp_eX10_shut_124_x M M140_ := pvfr_u e141_ f138_ rfl
              refine pw_blk hT 1 (S' := (88, [some (pvR 124), some (pvI n1), some (pvI (x22_ + (M.1 129 (Int32.toNatClampNeg n1)))), some (pvI x124_)], [pvI (x22_ + (M.1 129 (Int32.toNatClampNeg n1)))], M140_)) rfl ⟨trivial, trivial⟩ ?_
              exact pw_ret hT rfl (r := some (pvI (x22_ + (M.1 129 (Int32.toNatClampNeg n1))))) (M' := M140_) ⟨rfl, rfl⟩ ⟨⟨_, rfl, (zr_wide b112_ (by decide) (by decide))⟩, o142_, f143_, ⟨zwT_i (by have u := b112_; omega) b17_ ((((pvu_n e141_ 124 1 (Or.inr (by decide))).trans (pvu_n e136_ 124 1 (Or.inr (by decide)))).trans (pvu_n e131_ 124 1 (Or.inl (by decide)))).trans (d123_)) ((pvu_n e141_ 124 5 (Or.inr (by decide))).trans ((pvu_s e136_).trans ((pvu_n e131_ 127 (Int32.toNatClampNeg n1) (Or.inl (by decide))).trans (congrFun (pvfr_row (L := fpL_eX10_goMinutes_124_x) g128_ rfl) (Int32.toNatClampNeg n1))))) ((pvu_s e141_).trans ((pvu_n e136_ 128 (Int32.toNatClampNeg n1) (Or.inl (by decide))).trans ((pvu_n e131_ 128 (Int32.toNatClampNeg n1) (Or.inl (by decide))).trans (congrFun (pvfr_row (L := fpL_eX10_goMinutes_124_x) g128_ rfl) (Int32.toNatClampNeg n1))))) (zVu1 e131_ (by decide) (fun i => (pvu_n e141_ 131 i (Or.inl (by decide))).trans (pvu_n e136_ 131 i (Or.inl (by decide)))) (fun i => congrFun (pvfr_row (L := fpL_eX10_goMinutes_124_x) g128_ rfl) i)), zsA_2 (zvl_y0 (pvok_r hok 124 0 (lo := 0) (hi := 7) rfl).1 c6_ c13_) c115_ (by have b := b122_; have c := (show Int32.toInt (x22_ + (M.1 129 (Int32.toNatClampNeg n1))) = zcS0 n1 M from by unfold zcS0 zTm; rw [if_neg (fun z => z.elim c35_ c73_)]; omega); omega) (show Int32.toInt (x22_ + (M.1 129 (Int32.toNatClampNeg n1))) = zcS0 n1 M from by unfold zcS0 zTm; rw [if_neg (fun z => z.elim c35_ c73_)]; omega)⟩⟩
            · have b144_ : 10000 ≤ Int32.toInt ((M.1 124 1) + (x22_ + (M.1 129 (Int32.toNatClampNeg n1)))) ∧ Int32.toInt ((M.1 124 1) + (x22_ + (M.1 129 (Int32.toNatClampNeg n1)))) ≤ 10309 := zr_nle_l 10000 c121_ b119_ (show 9999 ≤ Int32.toInt 9999 ∧ Int32.toInt 9999 ≤ 9999 from (by decide)) (by decide)
              refine pw_blk hT 1 (S' := (53, [some (pvR 124), some (pvI n1), some (pvI (x22_ + (M.1 129 (Int32.toNatClampNeg n1)))), none], [pvI (-3)], M)) rfl ⟨trivial, trivial⟩ ?_
              exact pw_ret hT rfl (r := some (pvI (-3))) (M' := M) ⟨rfl, rfl⟩ ⟨⟨_, rfl, (zr_wide (show (-3) ≤ Int32.toInt (-3) ∧ Int32.toInt (-3) ≤ (-3) from (by decide)) (by decide) (by decide))⟩, hok, pvfr_0, ⟨zwT_n (by decide), zsA_1 (zvl_y0 (pvok_r hok 124 0 (lo := 0) (hi := 7) rfl).1 c6_ c13_) (Or.inr (by have b := b144_; have c := (show Int32.toInt (x22_ + (M.1 129 (Int32.toNatClampNeg n1))) = zcS0 n1 M from by unfold zcS0 zTm; rw [if_neg (fun z => z.elim c35_ c73_)]; omega); omega))⟩⟩
