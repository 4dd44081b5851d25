set_option maxHeartbeats 4000000 in
set_option maxRecDepth 10000 in
theorem se_X10_narrow_124_x_x (M : pvM) (hok : pvOk M) (n1 : Int32) (n2 : Int64) (d : Nat) : PW 56 d (0, [some (pvR 124), some (pvI n1), some (pvJ n2), none], [], M) (fun r X => (∃ x : Int64, r = some (pvJ x) ∧ x = (if n1 = 0 then (Int32.toInt64 (Int8.toInt32 (Int32.toInt8 (Int64.toInt32 n2)))) else (if n1 = 1 then (Int32.toInt64 (Int16.toInt32 (Int32.toInt16 (Int64.toInt32 n2)))) else (if n1 = 2 then (Int32.toInt64 (Int64.toInt32 n2)) else (if n1 = 4 then (if (lg_cmp n2 0) = 0 then 0 else 1) else n2))))) ∧ X = M) := by
  have hT : pvdom 56 = pvD_56 := rfl
  refine pw_blk hT 1 (S' := (1, [some (pvR 124), some (pvI n1), some (pvJ n2), none], [pvI n1], M)) rfl ⟨trivial, trivial⟩ ?_
  refine pw_ifn hT (c := n1 = 0) rfl rfl (fun c1_ => ?_) (fun c1_ => ?_)
  · refine pw_blk hT 2 (S' := (13, [some (pvR 124), some (pvI n1), some (pvJ n2), none], [pvI 1, pvI n1], M)) rfl ⟨trivial, trivial, trivial⟩ ?_
    refine pw_icn hT (c := n1 = 1) rfl rfl (fun c2_ => ?_) (fun c2_ => ?_)
    · refine pw_blk hT 2 (S' := (25, [some (pvR 124), some (pvI n1), some (pvJ n2), none], [pvI 2, pvI n1], M)) rfl ⟨trivial, trivial, trivial⟩ ?_
      refine pw_icn hT (c := n1 = 2) rfl rfl (fun c3_ => ?_) (fun c3_ => ?_)
      · refine pw_blk hT 2 (S' := (36, [some (pvR 124), some (pvI n1), some (pvJ n2), none], [pvI 4, pvI n1], M)) rfl ⟨trivial, trivial, trivial⟩ ?_
        refine pw_icn hT (c := n1 = 4) rfl rfl (fun c4_ => ?_) (fun c4_ => ?_)
        · refine pw_blk hT 1 (S' := (54, [some (pvR 124), some (pvI n1), some (pvJ n2), none], [pvJ n2], M)) rfl ⟨trivial, trivial⟩ ?_
          exact pw_ret hT rfl (r := some (pvJ n2)) (M' := M) ⟨rfl, rfl⟩ ⟨⟨_, rfl, (by rw [if_neg c1_, if_neg c2_, if_neg c3_, if_neg c4_]; first | done | (rw [if_neg c4_]; done))⟩, rfl⟩
        · have b5_ : 4 ≤ Int32.toInt n1 ∧ Int32.toInt n1 ≤ 4 := (by have u0 := (zbnd n1); have u1 := (zi_eq _ _).mp c4_; have u2 := (show 4 ≤ Int32.toInt 4 ∧ Int32.toInt 4 ≤ 4 from (by decide)); omega)
          refine pw_blk hT 3 (S' := (42, [some (pvR 124), some (pvI n1), some (pvJ n2), none], [pvI (lg_cmp n2 0)], M)) rfl ⟨trivial, trivial, trivial, trivial⟩ ?_
          refine pw_if hT (c := (lg_cmp n2 0) = 0) rfl rfl (fun c6_ => ?_) (fun c6_ => ?_)
          · have b7_ : 0 ≤ Int32.toInt (lg_cmp n2 0) ∧ Int32.toInt (lg_cmp n2 0) ≤ 0 := (by have u0 := (zbnd (lg_cmp n2 0)); have u1 := (zi_eq _ _).mp c6_; have u2 := (show 0 ≤ Int32.toInt 0 ∧ Int32.toInt 0 ≤ 0 from (by decide)); omega)
            refine pw_blk hT 2 (S' := (54, [some (pvR 124), some (pvI n1), some (pvJ n2), none], [pvJ 0], M)) rfl ⟨trivial, trivial, trivial⟩ ?_
            exact pw_ret hT rfl (r := some (pvJ 0)) (M' := M) ⟨rfl, rfl⟩ ⟨⟨_, rfl, (by rw [if_neg c1_, if_neg c2_, if_neg c3_, if_pos c4_, if_pos c6_]; first | done | (rw [if_pos c6_]; done))⟩, rfl⟩
          · refine pw_blk hT 2 (S' := (54, [some (pvR 124), some (pvI n1), some (pvJ n2), none], [pvJ 1], M)) rfl ⟨trivial, trivial, trivial⟩ ?_
            exact pw_ret hT rfl (r := some (pvJ 1)) (M' := M) ⟨rfl, rfl⟩ ⟨⟨_, rfl, (by rw [if_neg c1_, if_neg c2_, if_neg c3_, if_pos c4_, if_neg c6_]; first | done | (rw [if_neg c6_]; done))⟩, rfl⟩
      · have b8_ : 2 ≤ Int32.toInt n1 ∧ Int32.toInt n1 ≤ 2 := (by have u0 := (zbnd n1); have u1 := (zi_eq _ _).mp c3_; have u2 := (show 2 ≤ Int32.toInt 2 ∧ Int32.toInt 2 ≤ 2 from (by decide)); omega)
        refine pw_blk hT 4 (S' := (54, [some (pvR 124), some (pvI n1), some (pvJ n2), none], [pvJ (Int32.toInt64 (Int64.toInt32 n2))], M)) rfl ⟨trivial, trivial, trivial, trivial, trivial⟩ ?_
        exact pw_ret hT rfl (r := some (pvJ (Int32.toInt64 (Int64.toInt32 n2)))) (M' := M) ⟨rfl, rfl⟩ ⟨⟨_, rfl, (by rw [if_neg c1_, if_neg c2_, if_pos c3_]; first | done | (rw [if_pos c3_]; done))⟩, rfl⟩
    · have b9_ : 1 ≤ Int32.toInt n1 ∧ Int32.toInt n1 ≤ 1 := (by have u0 := (zbnd n1); have u1 := (zi_eq _ _).mp c2_; have u2 := (show 1 ≤ Int32.toInt 1 ∧ Int32.toInt 1 ≤ 1 from (by decide)); omega)
      refine pw_blk hT 5 (S' := (54, [some (pvR 124), some (pvI n1), some (pvJ n2), none], [pvJ (Int32.toInt64 (Int16.toInt32 (Int32.toInt16 (Int64.toInt32 n2))))], M)) rfl ⟨trivial, trivial, trivial, trivial, trivial, trivial⟩ ?_
      exact pw_ret hT rfl (r := some (pvJ (Int32.toInt64 (Int16.toInt32 (Int32.toInt16 (Int64.toInt32 n2)))))) (M' := M) ⟨rfl, rfl⟩ ⟨⟨_, rfl, (by rw [if_neg c1_, if_pos c2_]; first | done | (rw [if_pos c2_]; done))⟩, rfl⟩
  · have b10_ : 0 ≤ Int32.toInt n1 ∧ Int32.toInt n1 ≤ 0 := (by have u0 := (zbnd n1); have u1 := (zi_eq _ _).mp c1_; have u2 := (show 0 ≤ Int32.toInt 0 ∧ Int32.toInt 0 ≤ 0 from (by decide)); omega)
    refine pw_blk hT 5 (S' := (54, [some (pvR 124), some (pvI n1), some (pvJ n2), none], [pvJ (Int32.toInt64 (Int8.toInt32 (Int32.toInt8 (Int64.toInt32 n2))))], M)) rfl ⟨trivial, trivial, trivial, trivial, trivial, trivial⟩ ?_
    exact pw_ret hT rfl (r := some (pvJ (Int32.toInt64 (Int8.toInt32 (Int32.toInt8 (Int64.toInt32 n2)))))) (M' := M) ⟨rfl, rfl⟩ ⟨⟨_, rfl, (by rw [if_pos c1_]; first | done | (rw [if_pos c1_]; done))⟩, rfl⟩
def fpL_eX10_item_124_x_x_x : List (Nat × Nat × Nat) := []
def fp_eX10_item_124_x_x_x (q k : Nat) : Bool := pvfp fpL_eX10_item_124_x_x_x q k
set_option maxHeartbeats 4000000 in
set_option maxRecDepth 10000 in
theorem se_X10_item_124_x_x_x (M : pvM) (hok : pvOk M) (n1 : Int32) (n2 : Int32) (n3 : Int64) (d : Nat) : PW 43 d (0, [some (pvR 124), some (pvI n1), some (pvI n2), some (pvJ n3), none], [], M) (fun r X => (∃ x : Int32, r = some (pvI x) ∧ ((-13) ≤ Int32.toInt x ∧ Int32.toInt x ≤ 1) ∧ x = (if n1 < 0 then (-1) else (if 5 < n1 then (-1) else (if 0 ≤ (M.1 164 (Int32.toNatClampNeg n1)) then (if n2 < 0 then (-13) else (if ((M.1 165 (Int32.toNatClampNeg n1)) - 1) < n2 then (-13) else 1)) else (-11))))) ∧ pvOk X ∧ pvFr fp_eX10_item_124_x_x_x M X ∧ zIT zF10 n1 n2 (if (M.1 164 (Int32.toNatClampNeg n1)) = 0 then (Int32.toInt64 (Int8.toInt32 (Int32.toInt8 (Int64.toInt32 n3)))) else (if (M.1 164 (Int32.toNatClampNeg n1)) = 1 then (Int32.toInt64 (Int16.toInt32 (Int32.toInt16 (Int64.toInt32 n3)))) else (if (M.1 164 (Int32.toNatClampNeg n1)) = 2 then (Int32.toInt64 (Int64.toInt32 n3)) else (if (M.1 164 (Int32.toNatClampNeg n1)) = 4 then (if (lg_cmp n3 0) = 0 then 0 else 1) else n3)))) r M X) := by
  have hT : pvdom 43 = pvD_43 := rfl
  refine pw_blk hT 2 (S' := (2, [some (pvR 124), some (pvI n1), some (pvI n2), some (pvJ n3), none], [pvI n1, pvR 124], M)) rfl ⟨trivial, trivial, trivial⟩ ?_
  refine pw_callT hT (as := [pvR 124, pvI n1]) (lo1 := [some (pvR 124), some (pvI n1)]) (d1 := d) (rest := []) rfl rfl rfl rfl rfl (fun _ => rfl) (Nat.zero_le _) rfl rfl rfl (sf_X10_isTape_124_x M hok n1 d) ?_
  by_cases c6_ : n1 < 0
  · refine pw_eqI (if_pos c6_) ?_
    have b7_ : (-2147483648) ≤ Int32.toInt n1 ∧ Int32.toInt n1 ≤ (-1) := zr_lt_l (-1) c6_ (zbnd n1) (show 0 ≤ Int32.toInt 0 ∧ Int32.toInt 0 ≤ 0 from (by decide)) (by decide)
    show PW 43 d (5, [some (pvR 124), some (pvI n1), some (pvI n2), some (pvJ n3), none], [pvI 0], M) _
    refine pw_ifn hT (c := 0 = 0) rfl rfl (fun c8_ => absurd (by decide) c8_) (fun c8_ => ?_)
    refine pw_blk hT 1 (S' := (9, [some (pvR 124), some (pvI n1), some (pvI n2), some (pvJ n3), none], [pvI (-1)], M)) rfl ⟨trivial, trivial⟩ ?_
    exact pw_ret hT rfl (r := some (pvI (-1))) (M' := M) ⟨rfl, rfl⟩ ⟨⟨_, rfl, (zr_wide (show (-1) ≤ Int32.toInt (-1) ∧ Int32.toInt (-1) ≤ (-1) from (by decide)) (by decide) (by decide)), (by rw [if_pos c6_]; first | done | (rw [if_pos c6_]; done))⟩, hok, pvfr_0, ⟨_, rfl, Or.inl ⟨by decide, rfl⟩⟩⟩
  · refine pw_eqI (if_neg c6_) ?_
    have b9_ : 0 ≤ Int32.toInt n1 ∧ Int32.toInt n1 ≤ 2147483647 := zr_nlt_l 0 c6_ (zbnd n1) (show 0 ≤ Int32.toInt 0 ∧ Int32.toInt 0 ≤ 0 from (by decide)) (by decide)
    by_cases c10_ : 5 < n1
    · refine pw_eqI (if_pos c10_) ?_
      have b11_ : 6 ≤ Int32.toInt n1 ∧ Int32.toInt n1 ≤ 2147483647 := zr_lt_r 6 c10_ b9_ (show 5 ≤ Int32.toInt 5 ∧ Int32.toInt 5 ≤ 5 from (by decide)) (by decide)
      show PW 43 d (5, [some (pvR 124), some (pvI n1), some (pvI n2), some (pvJ n3), none], [pvI 0], M) _
      refine pw_ifn hT (c := 0 = 0) rfl rfl (fun c12_ => absurd (by decide) c12_) (fun c12_ => ?_)
      refine pw_blk hT 1 (S' := (9, [some (pvR 124), some (pvI n1), some (pvI n2), some (pvJ n3), none], [pvI (-1)], M)) rfl ⟨trivial, trivial⟩ ?_
      exact pw_ret hT rfl (r := some (pvI (-1))) (M' := M) ⟨rfl, rfl⟩ ⟨⟨_, rfl, (zr_wide (show (-1) ≤ Int32.toInt (-1) ∧ Int32.toInt (-1) ≤ (-1) from (by decide)) (by decide) (by decide)), (by rw [if_neg c6_, if_pos c10_]; first | done | (rw [if_pos c10_]; done))⟩, hok, pvfr_0, ⟨_, rfl, Or.inl ⟨by decide, rfl⟩⟩⟩
    · refine pw_eqI (if_neg c10_) ?_
      have b13_ : 0 ≤ Int32.toInt n1 ∧ Int32.toInt n1 ≤ 5 := zr_nlt_r 5 c10_ b9_ (show 5 ≤ Int32.toInt 5 ∧ Int32.toInt 5 ≤ 5 from (by decide)) (by decide)
      show PW 43 d (5, [some (pvR 124), some (pvI n1), some (pvI n2), some (pvJ n3), none], [pvI 1], M) _
      refine pw_ifn hT (c := 1 = 0) rfl rfl (fun c14_ => ?_) (fun c14_ => absurd c14_ (by decide))
      have b15_ : (-1) ≤ Int32.toInt (M.1 164 (Int32.toNatClampNeg n1)) ∧ Int32.toInt (M.1 164 (Int32.toNatClampNeg n1)) ≤ 4 := pvok_r hok 164 (Int32.toNatClampNeg n1) rfl
      refine pw_blk hT 4 (S' := (16, [some (pvR 124), some (pvI n1), some (pvI n2), some (pvJ n3), none], [pvI (M.1 164 (Int32.toNatClampNeg n1))], M)) rfl ⟨trivial, rfl, trivial, ⟨rfl, (zr_in (n := 6) b13_ (by decide) (by decide))⟩, trivial⟩ ?_
      refine pw_if hT (c := 0 ≤ (M.1 164 (Int32.toNatClampNeg n1))) rfl rfl (fun c16_ => ?_) (fun c16_ => ?_)
      · have b17_ : 0 ≤ Int32.toInt (M.1 164 (Int32.toNatClampNeg n1)) ∧ Int32.toInt (M.1 164 (Int32.toNatClampNeg n1)) ≤ 4 := zr_le_r 0 c16_ b15_ (show 0 ≤ Int32.toInt 0 ∧ Int32.toInt 0 ≤ 0 from (by decide)) (by decide)
        have b18_ : 0 ≤ Int32.toInt (M.1 165 (Int32.toNatClampNeg n1)) ∧ Int32.toInt (M.1 165 (Int32.toNatClampNeg n1)) ≤ 60 := pvok_r hok 165 (Int32.toNatClampNeg n1) rfl
        obtain ⟨q20_, b19_⟩ : (Int32.toInt ((M.1 165 (Int32.toNatClampNeg n1)) - 1) = Int32.toInt (M.1 165 (Int32.toNatClampNeg n1)) - 1) ∧ ((-1) ≤ Int32.toInt ((M.1 165 (Int32.toNatClampNeg n1)) - 1) ∧ Int32.toInt ((M.1 165 (Int32.toNatClampNeg n1)) - 1) ≤ 59) := zsub_k (M.1 165 (Int32.toNatClampNeg n1)) 1 1 (-1) 59 b18_ (by decide) (by decide) (by decide) (by decide) (by decide)
        refine pw_blk hT 9 (S' := (33, [some (pvR 124), some (pvI n1), some (pvI n2), some (pvJ n3), none], [pvI ((M.1 165 (Int32.toNatClampNeg n1)) - 1), pvI 0, pvI n2, pvR 124], M)) rfl ⟨trivial, trivial, trivial, trivial, rfl, trivial, ⟨rfl, (zr_in (n := 6) b13_ (by decide) (by decide))⟩, trivial, trivial, trivial⟩ ?_
        refine pw_callT hT (as := [pvR 124, pvI n2, pvI 0, pvI ((M.1 165 (Int32.toNatClampNeg n1)) - 1)]) (lo1 := [some (pvR 124), some (pvI n2), some (pvI 0), some (pvI ((M.1 165 (Int32.toNatClampNeg n1)) - 1))]) (d1 := d) (rest := []) rfl rfl rfl rfl rfl (fun _ => rfl) (Nat.zero_le _) rfl rfl rfl (sf_X10_in_124_x_x_x M hok n2 0 ((M.1 165 (Int32.toNatClampNeg n1)) - 1) d) ?_
        by_cases c26_ : n2 < 0
        · refine pw_eqI (if_pos c26_) ?_
          have b27_ : (-2147483648) ≤ Int32.toInt n2 ∧ Int32.toInt n2 ≤ (-1) := zr_lt_l (-1) c26_ (zbnd n2) (show 0 ≤ Int32.toInt 0 ∧ Int32.toInt 0 ≤ 0 from (by decide)) (by decide)
          show PW 43 d (36, [some (pvR 124), some (pvI n1), some (pvI n2), some (pvJ n3), none], [pvI 0], M) _
          refine pw_ifn hT (c := 0 = 0) rfl rfl (fun c28_ => absurd (by decide) c28_) (fun c28_ => ?_)
          refine pw_blk hT 1 (S' := (41, [some (pvR 124), some (pvI n1), some (pvI n2), some (pvJ n3), none], [pvI (-13)], M)) rfl ⟨trivial, trivial⟩ ?_
          exact pw_ret hT rfl (r := some (pvI (-13))) (M' := M) ⟨rfl, rfl⟩ ⟨⟨_, rfl, (zr_wide (show (-13) ≤ Int32.toInt (-13) ∧ Int32.toInt (-13) ≤ (-13) from (by decide)) (by decide) (by decide)), (by rw [if_neg c6_, if_neg c10_, if_pos c16_, if_pos c26_]; first | done | (rw [if_pos c26_]; done))⟩, hok, pvfr_0, ⟨_, rfl, Or.inl ⟨by decide, rfl⟩⟩⟩
        · refine pw_eqI (if_neg c26_) ?_
          have b29_ : 0 ≤ Int32.toInt n2 ∧ Int32.toInt n2 ≤ 2147483647 := zr_nlt_l 0 c26_ (zbnd n2) (show 0 ≤ Int32.toInt 0 ∧ Int32.toInt 0 ≤ 0 from (by decide)) (by decide)
          by_cases c30_ : ((M.1 165 (Int32.toNatClampNeg n1)) - 1) < n2
          · refine pw_eqI (if_pos c30_) ?_
            have d31_ : Int32.toInt ((M.1 165 (Int32.toNatClampNeg n1)) - 1) < Int32.toInt n2 := (zi_lt _ _).mp c30_
            show PW 43 d (36, [some (pvR 124), some (pvI n1), some (pvI n2), some (pvJ n3), none], [pvI 0], M) _
            refine pw_ifn hT (c := 0 = 0) rfl rfl (fun c32_ => absurd (by decide) c32_) (fun c32_ => ?_)
            refine pw_blk hT 1 (S' := (41, [some (pvR 124), some (pvI n1), some (pvI n2), some (pvJ n3), none], [pvI (-13)], M)) rfl ⟨trivial, trivial⟩ ?_
            exact pw_ret hT rfl (r := some (pvI (-13))) (M' := M) ⟨rfl, rfl⟩ ⟨⟨_, rfl, (zr_wide (show (-13) ≤ Int32.toInt (-13) ∧ Int32.toInt (-13) ≤ (-13) from (by decide)) (by decide) (by decide)), (by rw [if_neg c6_, if_neg c10_, if_pos c16_, if_neg c26_, if_pos c30_]; first | done | (rw [if_pos c30_]; done))⟩, hok, pvfr_0, ⟨_, rfl, Or.inl ⟨by decide, rfl⟩⟩⟩
          · refine pw_eqI (if_neg c30_) ?_
            have b33_ : 0 ≤ Int32.toInt ((M.1 165 (Int32.toNatClampNeg n1)) - 1) ∧ Int32.toInt ((M.1 165 (Int32.toNatClampNeg n1)) - 1) ≤ 59 := zr_nlt_l 0 c30_ b19_ b29_ (by decide)
            have b34_ : 0 ≤ Int32.toInt n2 ∧ Int32.toInt n2 ≤ 59 := zr_nlt_r 59 c30_ b29_ b33_ (by decide)
            have d35_ : Int32.toInt ((M.1 165 (Int32.toNatClampNeg n1)) - 1) ≥ Int32.toInt n2 := Int.not_lt.mp ((not_congr (zi_lt _ _)).mp c30_)
            show PW 43 d (36, [some (pvR 124), some (pvI n1), some (pvI n2), some (pvJ n3), none], [pvI 1], M) _
            refine pw_ifn hT (c := 1 = 0) rfl rfl (fun c36_ => ?_) (fun c36_ => absurd c36_ (by decide))
            have q37_ : Int32.toInt (60 * n1) = 60 * Int32.toInt n1 := by have u0 : Int32.toInt 60 = 60 := (by decide); have u1 := b13_; have u2 := zmul 60 n1 (by rw [u0]; omega) (by rw [u0]; omega); rw [u0] at u2; omega
            have b38_ : 0 ≤ Int32.toInt (60 * n1) ∧ Int32.toInt (60 * n1) ≤ 300 := (by have u1 := b13_; omega)
            obtain ⟨q40_, b39_⟩ : (Int32.toInt ((60 * n1) + n2) = Int32.toInt (60 * n1) + Int32.toInt n2) ∧ (0 ≤ Int32.toInt ((60 * n1) + n2) ∧ Int32.toInt ((60 * n1) + n2) ≤ 359) := zadd_r (60 * n1) n2 0 359 b38_ b34_ (by decide) (by decide) (by decide) (by decide)
            refine pw_blk hT 13 (S' := (60, [some (pvR 124), some (pvI n1), some (pvI n2), some (pvJ n3), none], [pvJ n3, pvI (M.1 164 (Int32.toNatClampNeg n1)), pvR 124, pvI ((60 * n1) + n2), pvR 166], M)) rfl ⟨trivial, rfl, trivial, trivial, trivial, trivial, trivial, trivial, trivial, rfl, trivial, ⟨rfl, (zr_in (n := 6) b13_ (by decide) (by decide))⟩, trivial, trivial⟩ ?_
            refine pw_callJe hT (as := [pvR 124, pvI (M.1 164 (Int32.toNatClampNeg n1)), pvJ n3]) (lo1 := [some (pvR 124), some (pvI (M.1 164 (Int32.toNatClampNeg n1))), some (pvJ n3), none]) (d1 := d) (rest := [pvI ((60 * n1) + n2), pvR 166]) rfl rfl rfl rfl rfl (fun _ => rfl) (Nat.zero_le _) rfl rfl rfl (se_X10_narrow_124_x_x M hok (M.1 164 (Int32.toNatClampNeg n1)) n3 d) ?_
            refine pw_blkw hT 1 (pc := 64) (lo := [some (pvR 124), some (pvI n1), some (pvI n2), some (pvJ n3), none]) (st := []) (M := pvw M 166 (Int32.toNatClampNeg ((60 * n1) + n2)) (if (M.1 164 (Int32.toNatClampNeg n1)) = 0 then (Int32.toInt64 (Int8.toInt32 (Int32.toInt8 (Int64.toInt32 n3)))) else (if (M.1 164 (Int32.toNatClampNeg n1)) = 1 then (Int32.toInt64 (Int16.toInt32 (Int32.toInt16 (Int64.toInt32 n3)))) else (if (M.1 164 (Int32.toNatClampNeg n1)) = 2 then (Int32.toInt64 (Int64.toInt32 n3)) else (if (M.1 164 (Int32.toNatClampNeg n1)) = 4 then (if (lg_cmp n3 0) = 0 then 0 else 1) else n3))))) rfl ⟨⟨rfl, (zr_in (n := 360) b39_ (by decide) (by decide))⟩, trivial⟩ (fun M46_ e47_ => ?_)
            have o48_ : pvOk M46_ := pvok_w e47_ hok
            have f49_ : pvFr fp_eX10_item_124_x_x_x M M46_ := pvfr_w e47_ pvfr_0
            refine pw_blk hT 1 (S' := (65, [some (pvR 124), some (pvI n1), some (pvI n2), some (pvJ n3), none], [pvI 1], M46_)) rfl ⟨trivial, trivial⟩ ?_
            exact pw_ret hT rfl (r := some (pvI 1)) (M' := M46_) ⟨rfl, rfl⟩ ⟨⟨_, rfl, (zr_wide (show 1 ≤ Int32.toInt 1 ∧ Int32.toInt 1 ≤ 1 from (by decide)) (by decide) (by decide)), (by rw [if_neg c6_, if_neg c10_, if_pos c16_, if_neg c26_, if_neg c30_]; first | done | (rw [if_neg c30_]; done))⟩, o48_, f49_, ⟨_, rfl, Or.inr ⟨by decide, b13_, b34_, (zI9_k (zk60 b13_ b34_).symm (zI9_w e47_))⟩⟩⟩
      · have b50_ : (-1) ≤ Int32.toInt (M.1 164 (Int32.toNatClampNeg n1)) ∧ Int32.toInt (M.1 164 (Int32.toNatClampNeg n1)) ≤ (-1) := zr_nle_r (-1) c16_ b15_ (show 0 ≤ Int32.toInt 0 ∧ Int32.toInt 0 ≤ 0 from (by decide)) (by decide)
        refine pw_blk hT 1 (S' := (21, [some (pvR 124), some (pvI n1), some (pvI n2), some (pvJ n3), none], [pvI (-11)], M)) rfl ⟨trivial, trivial⟩ ?_
        exact pw_ret hT rfl (r := some (pvI (-11))) (M' := M) ⟨rfl, rfl⟩ ⟨⟨_, rfl, (zr_wide (show (-11) ≤ Int32.toInt (-11) ∧ Int32.toInt (-11) ≤ (-11) from (by decide)) (by decide) (by decide)), (by rw [if_neg c6_, if_neg c10_, if_neg c16_]; first | done | (rw [if_neg c16_]; done))⟩, hok, pvfr_0, ⟨_, rfl, Or.inl ⟨by decide, rfl⟩⟩⟩
set_option maxHeartbeats 4000000 in
set_option maxRecDepth 10000 in
theorem se_X10_judge_124_x_x (M : pvM) (hok : pvOk M) (n1 : Int32) (n2 : Int32) (d : Nat) : PW 44 d (0, [some (pvR 124), some (pvI n1), some (pvI n2), none], [], M) (fun r X => (∃ x : Int32, r = some (pvI x) ∧ (-12) ≤ Int32.toInt x ∧ Int32.toInt x ≤ 106) ∧ X = M ∧ yju0 n1 n2 r M) := by
  have hT : pvdom 44 = pvD_44 := rfl
  refine pw_blk hT 2 (S' := (2, [some (pvR 124), some (pvI n1), some (pvI n2), none], [pvI n1, pvR 124], M)) rfl ⟨trivial, trivial, trivial⟩ ?_
  refine pw_callT hT (as := [pvR 124, pvI n1]) (lo1 := [some (pvR 124), some (pvI n1)]) (d1 := d) (rest := []) rfl rfl rfl rfl rfl (fun _ => rfl) (Nat.zero_le _) rfl rfl rfl (sf_X10_isTape_124_x M hok n1 d) ?_
  by_cases c6_ : n1 < 0
  · refine pw_eqI (if_pos c6_) ?_
    have b7_ : (-2147483648) ≤ Int32.toInt n1 ∧ Int32.toInt n1 ≤ (-1) := zr_lt_l (-1) c6_ (zbnd n1) (show 0 ≤ Int32.toInt 0 ∧ Int32.toInt 0 ≤ 0 from (by decide)) (by decide)
    show PW 44 d (5, [some (pvR 124), some (pvI n1), some (pvI n2), none], [pvI 0], M) _
    refine pw_ifn hT (c := 0 = 0) rfl rfl (fun c8_ => absurd (by decide) c8_) (fun c8_ => ?_)
    refine pw_blk hT 1 (S' := (9, [some (pvR 124), some (pvI n1), some (pvI n2), none], [pvI (-1)], M)) rfl ⟨trivial, trivial⟩ ?_
    exact pw_ret hT rfl (r := some (pvI (-1))) (M' := M) ⟨rfl, rfl⟩ ⟨⟨_, rfl, (zr_wide (show (-1) ≤ Int32.toInt (-1) ∧ Int32.toInt (-1) ≤ (-1) from (by decide)) (by decide) (by decide))⟩, rfl, (yju0_n (by have u := b7_; omega) (by decide))⟩
  · refine pw_eqI (if_neg c6_) ?_
    have b9_ : 0 ≤ Int32.toInt n1 ∧ Int32.toInt n1 ≤ 2147483647 := zr_nlt_l 0 c6_ (zbnd n1) (show 0 ≤ Int32.toInt 0 ∧ Int32.toInt 0 ≤ 0 from (by decide)) (by decide)
    by_cases c10_ : 5 < n1
    · refine pw_eqI (if_pos c10_) ?_
      have b11_ : 6 ≤ Int32.toInt n1 ∧ Int32.toInt n1 ≤ 2147483647 := zr_lt_r 6 c10_ b9_ (show 5 ≤ Int32.toInt 5 ∧ Int32.toInt 5 ≤ 5 from (by decide)) (by decide)
      show PW 44 d (5, [some (pvR 124), some (pvI n1), some (pvI n2), none], [pvI 0], M) _
      refine pw_ifn hT (c := 0 = 0) rfl rfl (fun c12_ => absurd (by decide) c12_) (fun c12_ => ?_)
      refine pw_blk hT 1 (S' := (9, [some (pvR 124), some (pvI n1), some (pvI n2), none], [pvI (-1)], M)) rfl ⟨trivial, trivial⟩ ?_
      exact pw_ret hT rfl (r := some (pvI (-1))) (M' := M) ⟨rfl, rfl⟩ ⟨⟨_, rfl, (zr_wide (show (-1) ≤ Int32.toInt (-1) ∧ Int32.toInt (-1) ≤ (-1) from (by decide)) (by decide) (by decide))⟩, rfl, (yju0_n (by have u := b11_; omega) (by decide))⟩
    · refine pw_eqI (if_neg c10_) ?_
      have b13_ : 0 ≤ Int32.toInt n1 ∧ Int32.toInt n1 ≤ 5 := zr_nlt_r 5 c10_ b9_ (show 5 ≤ Int32.toInt 5 ∧ Int32.toInt 5 ≤ 5 from (by decide)) (by decide)
      show PW 44 d (5, [some (pvR 124), some (pvI n1), some (pvI n2), none], [pvI 1], M) _
      refine pw_ifn hT (c := 1 = 0) rfl rfl (fun c14_ => ?_) (fun c14_ => absurd c14_ (by decide))
      have b15_ : (-1) ≤ Int32.toInt (M.1 164 (Int32.toNatClampNeg n1)) ∧ Int32.toInt (M.1 164 (Int32.toNatClampNeg n1)) ≤ 4 := pvok_r hok 164 (Int32.toNatClampNeg n1) rfl
      refine pw_blk hT 4 (S' := (16, [some (pvR 124), some (pvI n1), some (pvI n2), none], [pvI (M.1 164 (Int32.toNatClampNeg n1))], M)) rfl ⟨trivial, rfl, trivial, ⟨rfl, (zr_in (n := 6) b13_ (by decide) (by decide))⟩, trivial⟩ ?_
      refine pw_if hT (c := (M.1 164 (Int32.toNatClampNeg n1)) < 0) rfl rfl (fun c16_ => ?_) (fun c16_ => ?_)
      · have b17_ : (-1) ≤ Int32.toInt (M.1 164 (Int32.toNatClampNeg n1)) ∧ Int32.toInt (M.1 164 (Int32.toNatClampNeg n1)) ≤ (-1) := zr_lt_l (-1) c16_ b15_ (show 0 ≤ Int32.toInt 0 ∧ Int32.toInt 0 ≤ 0 from (by decide)) (by decide)
        refine pw_blk hT 2 (S' := (34, [some (pvR 124), some (pvI n1), some (pvI n2), some (pvI 0)], [], M)) rfl ⟨trivial, trivial, trivial⟩ ?_
        have hlz28_ : ∀ (nz28_ : Nat) (i3z28_ : Int32), (0 ≤ Int32.toInt i3z28_ ∧ Int32.toInt i3z28_ ≤ 0) → (yjI (decide (Int32.toInt (M.1 164 (Int32.toNatClampNeg n1)) < 0)) (Int32.toInt (M.1 165 (Int32.toNatClampNeg n1))) (Int32.toInt n2) (yj0 M (Int32.toNatClampNeg n1) n2) (Int32.toNatClampNeg (M.1 124 0)) i3z28_) → (zhide (0 < nz28_)) → PW 44 d (34, [some (pvR 124), some (pvI n1), some (pvI n2), some (pvI i3z28_)], [], M) (fun r X => (∃ x : Int32, r = some (pvI x) ∧ (-12) ≤ Int32.toInt x ∧ Int32.toInt x ≤ 106) ∧ X = M ∧ yju0 n1 n2 r M) := by
          intro nz28_
          induction nz28_ with
          | zero => intro i3z28_ h3z28_ j0z28_ hmz28_; exact absurd (zshow hmz28_) (Nat.not_lt_zero _)
          | succ nz28_ ihz28_ =>
            intro i3z28_ h3z28_ j0z28_ hmz28_
            have b29_ : 0 ≤ Int32.toInt (M.1 124 0) ∧ Int32.toInt (M.1 124 0) ≤ 7 := pvok_r hok 124 0 rfl
            refine pw_blk hT 3 (S' := (39, [some (pvR 124), some (pvI n1), some (pvI n2), some (pvI i3z28_)], [pvI (M.1 124 0), pvI i3z28_], M)) rfl ⟨trivial, trivial, rfl, trivial⟩ ?_
            refine pw_ic hT (c := (M.1 124 0) ≤ i3z28_) rfl rfl (fun c30_ => ?_) (fun c30_ => ?_)
            · have b31_ : 0 ≤ Int32.toInt (M.1 124 0) ∧ Int32.toInt (M.1 124 0) ≤ 0 := zr_le_l 0 c30_ b29_ h3z28_ (by decide)
              have d32_ : Int32.toInt (M.1 124 0) ≤ Int32.toInt i3z28_ := (zi_le _ _).mp c30_
              refine pw_blk hT 1 (S' := (115, [some (pvR 124), some (pvI n1), some (pvI n2), some (pvI i3z28_)], [pvI (-5)], M)) rfl ⟨trivial, trivial⟩ ?_
              exact pw_ret hT rfl (r := some (pvI (-5))) (M' := M) ⟨rfl, rfl⟩ ⟨⟨_, rfl, (zr_wide (show (-5) ≤ Int32.toInt (-5) ∧ Int32.toInt (-5) ≤ (-5) from (by decide)) (by decide) (by decide))⟩, rfl, (yju0_i (by have u := b13_; omega) (Or.inl (by have v := (zi_lt _ _).mp c16_; have u0 : (0 : Int32).toInt = 0 := (by decide); omega)) (by have v := (zi_le _ _).mp c30_; have t := ycl_ (pvok_r hok 124 0 (lo := 0) (hi := 7) rfl).1; exact (by decide : Int32.toInt (-5) = -5).trans (yjI_e j0z28_ (by omega) (by have u := h3z28_; omega))))⟩
            · have b33_ : 1 ≤ Int32.toInt (M.1 124 0) ∧ Int32.toInt (M.1 124 0) ≤ 7 := zr_nle_l 1 c30_ b29_ h3z28_ (by decide)
              have d34_ : Int32.toInt (M.1 124 0) > Int32.toInt i3z28_ := Int.not_le.mp ((not_congr (zi_le _ _)).mp c30_)
              refine pw_blk hT 4 (S' := (48, [some (pvR 124), some (pvI n1), some (pvI n2), some (pvI i3z28_)], [pvI (M.1 164 (Int32.toNatClampNeg n1))], M)) rfl ⟨trivial, rfl, trivial, ⟨rfl, (zr_in (n := 6) b13_ (by decide) (by decide))⟩, trivial⟩ ?_
              refine pw_if hT (c := (M.1 164 (Int32.toNatClampNeg n1)) < 0) rfl rfl (fun c35_ => ?_) (fun c35_ => absurd c16_ c35_)
              obtain ⟨q37_, b36_⟩ : (Int32.toInt (100 + i3z28_) = 100 + Int32.toInt i3z28_) ∧ (100 ≤ Int32.toInt (100 + i3z28_) ∧ Int32.toInt (100 + i3z28_) ≤ 100) := zadd_q 100 i3z28_ 100 100 100 h3z28_ (by decide) (by decide) (by decide) (by decide) (by decide)
              refine pw_blk hT 3 (S' := (73, [some (pvR 124), some (pvI n1), some (pvI n2), some (pvI i3z28_)], [pvI (100 + i3z28_)], M)) rfl ⟨trivial, trivial, trivial, trivial⟩ ?_
              exact pw_ret hT rfl (r := some (pvI (100 + i3z28_))) (M' := M) ⟨rfl, rfl⟩ ⟨⟨_, rfl, (zr_wide b36_ (by decide) (by decide))⟩, rfl, (yju0_i (by have u := b13_; omega) (Or.inl (by have v := (zi_lt _ _).mp c16_; have u0 : (0 : Int32).toInt = 0 := (by decide); omega)) (by have z := yjI_r j0z28_ (by have u := h3z28_; omega) (by have u := ycl_ (pvok_r hok 124 0 (lo := 0) (hi := 7) rfl).1; have v := (not_congr (zi_le _ _)).mp c30_; omega) (Or.inl (decide_eq_true (by have v := (zi_lt _ _).mp c16_; have u0 : (0 : Int32).toInt = 0 := (by decide); omega))); omega))⟩
        have u38_ : Int32.toInt 0 = 0 := by decide
        have j39_ : yjI (decide (Int32.toInt (M.1 164 (Int32.toNatClampNeg n1)) < 0)) (Int32.toInt (M.1 165 (Int32.toNatClampNeg n1))) (Int32.toInt n2) (yj0 M (Int32.toNatClampNeg n1) n2) (Int32.toNatClampNeg (M.1 124 0)) 0 := yjI_0
        exact hlz28_ _ 0 (show 0 ≤ Int32.toInt 0 ∧ Int32.toInt 0 ≤ 0 from (by decide)) j39_ (zhid (Nat.lt_succ_self _))
      · have b40_ : 0 ≤ Int32.toInt (M.1 164 (Int32.toNatClampNeg n1)) ∧ Int32.toInt (M.1 164 (Int32.toNatClampNeg n1)) ≤ 4 := zr_nlt_l 0 c16_ b15_ (show 0 ≤ Int32.toInt 0 ∧ Int32.toInt 0 ≤ 0 from (by decide)) (by decide)
        refine pw_blk hT 5 (S' := (26, [some (pvR 124), some (pvI n1), some (pvI n2), none], [pvI 4, pvI (M.1 164 (Int32.toNatClampNeg n1))], M)) rfl ⟨trivial, rfl, trivial, ⟨rfl, (zr_in (n := 6) b13_ (by decide) (by decide))⟩, trivial, trivial⟩ ?_
        refine pw_ic hT (c := (M.1 164 (Int32.toNatClampNeg n1)) = 4) rfl rfl (fun c41_ => ?_) (fun c41_ => ?_)
        · have b42_ : 4 ≤ Int32.toInt (M.1 164 (Int32.toNatClampNeg n1)) ∧ Int32.toInt (M.1 164 (Int32.toNatClampNeg n1)) ≤ 4 := (by have u0 := b40_; have u1 := (zi_eq _ _).mp c41_; have u2 := (show 4 ≤ Int32.toInt 4 ∧ Int32.toInt 4 ≤ 4 from (by decide)); omega)
          refine pw_blk hT 2 (S' := (34, [some (pvR 124), some (pvI n1), some (pvI n2), some (pvI 0)], [], M)) rfl ⟨trivial, trivial, trivial⟩ ?_
          have hlz172_ : ∀ (nz172_ : Nat) (i3z172_ : Int32), (0 ≤ Int32.toInt i3z172_ ∧ Int32.toInt i3z172_ ≤ 7) → (yjI (decide (Int32.toInt (M.1 164 (Int32.toNatClampNeg n1)) < 0)) (Int32.toInt (M.1 165 (Int32.toNatClampNeg n1))) (Int32.toInt n2) (yj0 M (Int32.toNatClampNeg n1) n2) (Int32.toNatClampNeg (M.1 124 0)) i3z172_) → (zhide ((8 - Int32.toInt i3z172_).toNat < nz172_)) → PW 44 d (34, [some (pvR 124), some (pvI n1), some (pvI n2), some (pvI i3z172_)], [], M) (fun r X => (∃ x : Int32, r = some (pvI x) ∧ (-12) ≤ Int32.toInt x ∧ Int32.toInt x ≤ 106) ∧ X = M ∧ yju0 n1 n2 r M) := by
            intro nz172_
            induction nz172_ with
            | zero => intro i3z172_ h3z172_ j0z172_ hmz172_; exact absurd (zshow hmz172_) (Nat.not_lt_zero _)
            | succ nz172_ ihz172_ =>
              intro i3z172_ h3z172_ j0z172_ hmz172_
              have b173_ : 0 ≤ Int32.toInt (M.1 124 0) ∧ Int32.toInt (M.1 124 0) ≤ 7 := pvok_r hok 124 0 rfl
              refine pw_blk hT 3 (S' := (39, [some (pvR 124), some (pvI n1), some (pvI n2), some (pvI i3z172_)], [pvI (M.1 124 0), pvI i3z172_], M)) rfl ⟨trivial, trivial, rfl, trivial⟩ ?_
              refine pw_ic hT (c := (M.1 124 0) ≤ i3z172_) rfl rfl (fun c174_ => ?_) (fun c174_ => ?_)
              · have d175_ : Int32.toInt (M.1 124 0) ≤ Int32.toInt i3z172_ := (zi_le _ _).mp c174_
                refine pw_blk hT 1 (S' := (115, [some (pvR 124), some (pvI n1), some (pvI n2), some (pvI i3z172_)], [pvI (-5)], M)) rfl ⟨trivial, trivial⟩ ?_
                exact pw_ret hT rfl (r := some (pvI (-5))) (M' := M) ⟨rfl, rfl⟩ ⟨⟨_, rfl, (zr_wide (show (-5) ≤ Int32.toInt (-5) ∧ Int32.toInt (-5) ≤ (-5) from (by decide)) (by decide) (by decide))⟩, rfl, (yju0_i (by have u := b13_; omega) (Or.inr c41_) (by have v := (zi_le _ _).mp c174_; have t := ycl_ (pvok_r hok 124 0 (lo := 0) (hi := 7) rfl).1; exact (by decide : Int32.toInt (-5) = -5).trans (yjI_e j0z172_ (by omega) (by have u := h3z172_; omega))))⟩
              · have b176_ : 1 ≤ Int32.toInt (M.1 124 0) ∧ Int32.toInt (M.1 124 0) ≤ 7 := zr_nle_l 1 c174_ b173_ h3z172_ (by decide)
                have b177_ : 0 ≤ Int32.toInt i3z172_ ∧ Int32.toInt i3z172_ ≤ 6 := zr_nle_r 6 c174_ h3z172_ b176_ (by decide)
                have d178_ : Int32.toInt (M.1 124 0) > Int32.toInt i3z172_ := Int.not_le.mp ((not_congr (zi_le _ _)).mp c174_)
                refine pw_blk hT 4 (S' := (48, [some (pvR 124), some (pvI n1), some (pvI n2), some (pvI i3z172_)], [pvI (M.1 164 (Int32.toNatClampNeg n1))], M)) rfl ⟨trivial, rfl, trivial, ⟨rfl, (zr_in (n := 6) b13_ (by decide) (by decide))⟩, trivial⟩ ?_
                refine pw_if hT (c := (M.1 164 (Int32.toNatClampNeg n1)) < 0) rfl rfl (fun c179_ => absurd c179_ c16_) (fun c179_ => ?_)
                refine pw_blk hT 1 (S' := (52, [some (pvR 124), some (pvI n1), some (pvI n2), some (pvI i3z172_)], [pvI n2], M)) rfl ⟨trivial, trivial⟩ ?_
                refine pw_if hT (c := n2 < 0) rfl rfl (fun c180_ => ?_) (fun c180_ => ?_)
                · have b181_ : (-2147483648) ≤ Int32.toInt n2 ∧ Int32.toInt n2 ≤ (-1) := zr_lt_l (-1) c180_ (zbnd n2) (show 0 ≤ Int32.toInt 0 ∧ Int32.toInt 0 ≤ 0 from (by decide)) (by decide)
                  obtain ⟨q183_, b182_⟩ : (Int32.toInt (100 + i3z172_) = 100 + Int32.toInt i3z172_) ∧ (100 ≤ Int32.toInt (100 + i3z172_) ∧ Int32.toInt (100 + i3z172_) ≤ 106) := zadd_q 100 i3z172_ 100 100 106 b177_ (by decide) (by decide) (by decide) (by decide) (by decide)
                  refine pw_blk hT 3 (S' := (73, [some (pvR 124), some (pvI n1), some (pvI n2), some (pvI i3z172_)], [pvI (100 + i3z172_)], M)) rfl ⟨trivial, trivial, trivial, trivial⟩ ?_
                  exact pw_ret hT rfl (r := some (pvI (100 + i3z172_))) (M' := M) ⟨rfl, rfl⟩ ⟨⟨_, rfl, (zr_wide b182_ (by decide) (by decide))⟩, rfl, (yju0_i (by have u := b13_; omega) (Or.inr c41_) (by have z := yjI_r j0z172_ (by have u := b177_; omega) (by have u := ycl_ (pvok_r hok 124 0 (lo := 0) (hi := 7) rfl).1; have v := (not_congr (zi_le _ _)).mp c174_; omega) (Or.inr (Or.inl (by have v := (zi_lt _ _).mp c180_; have u0 : (0 : Int32).toInt = 0 := (by decide); omega))); omega))⟩
                · have b184_ : 0 ≤ Int32.toInt n2 ∧ Int32.toInt n2 ≤ 2147483647 := zr_nlt_l 0 c180_ (zbnd n2) (show 0 ≤ Int32.toInt 0 ∧ Int32.toInt 0 ≤ 0 from (by decide)) (by decide)
                  have b185_ : 0 ≤ Int32.toInt (M.1 165 (Int32.toNatClampNeg n1)) ∧ Int32.toInt (M.1 165 (Int32.toNatClampNeg n1)) ≤ 60 := pvok_r hok 165 (Int32.toNatClampNeg n1) rfl
                  obtain ⟨q187_, b186_⟩ : (Int32.toInt ((M.1 165 (Int32.toNatClampNeg n1)) - i3z172_) = Int32.toInt (M.1 165 (Int32.toNatClampNeg n1)) - Int32.toInt i3z172_) ∧ ((-6) ≤ Int32.toInt ((M.1 165 (Int32.toNatClampNeg n1)) - i3z172_) ∧ Int32.toInt ((M.1 165 (Int32.toNatClampNeg n1)) - i3z172_) ≤ 60) := zsub_r (M.1 165 (Int32.toNatClampNeg n1)) i3z172_ (-6) 60 b185_ b177_ (by decide) (by decide) (by decide) (by decide)
                  obtain ⟨q189_, b188_⟩ : (Int32.toInt (((M.1 165 (Int32.toNatClampNeg n1)) - i3z172_) - 1) = Int32.toInt ((M.1 165 (Int32.toNatClampNeg n1)) - i3z172_) - 1) ∧ ((-7) ≤ Int32.toInt (((M.1 165 (Int32.toNatClampNeg n1)) - i3z172_) - 1) ∧ Int32.toInt (((M.1 165 (Int32.toNatClampNeg n1)) - i3z172_) - 1) ≤ 59) := zsub_k ((M.1 165 (Int32.toNatClampNeg n1)) - i3z172_) 1 1 (-7) 59 b186_ (by decide) (by decide) (by decide) (by decide) (by decide)
                  refine pw_blk hT 9 (S' := (66, [some (pvR 124), some (pvI n1), some (pvI n2), some (pvI i3z172_)], [pvI (((M.1 165 (Int32.toNatClampNeg n1)) - i3z172_) - 1), pvI n2], M)) rfl ⟨trivial, trivial, rfl, trivial, ⟨rfl, (zr_in (n := 6) b13_ (by decide) (by decide))⟩, trivial, trivial, trivial, trivial, trivial⟩ ?_
                  refine pw_ic hT (c := n2 ≤ (((M.1 165 (Int32.toNatClampNeg n1)) - i3z172_) - 1)) rfl rfl (fun c190_ => ?_) (fun c190_ => ?_)
                  · have b191_ : 0 ≤ Int32.toInt n2 ∧ Int32.toInt n2 ≤ 59 := zr_le_l 59 c190_ b184_ b188_ (by decide)
                    have b192_ : 0 ≤ Int32.toInt (((M.1 165 (Int32.toNatClampNeg n1)) - i3z172_) - 1) ∧ Int32.toInt (((M.1 165 (Int32.toNatClampNeg n1)) - i3z172_) - 1) ≤ 59 := zr_le_r 0 c190_ b188_ b191_ (by decide)
                    have d193_ : Int32.toInt n2 ≤ Int32.toInt (((M.1 165 (Int32.toNatClampNeg n1)) - i3z172_) - 1) := (zi_le _ _).mp c190_
                    have q194_ : Int32.toInt (60 * n1) = 60 * Int32.toInt n1 := by have u0 : Int32.toInt 60 = 60 := (by decide); have u1 := b13_; have u2 := zmul 60 n1 (by rw [u0]; omega) (by rw [u0]; omega); rw [u0] at u2; omega
                    have b195_ : 0 ≤ Int32.toInt (60 * n1) ∧ Int32.toInt (60 * n1) ≤ 300 := (by have u1 := b13_; omega)
                    obtain ⟨q197_, b196_⟩ : (Int32.toInt ((60 * n1) + n2) = Int32.toInt (60 * n1) + Int32.toInt n2) ∧ (0 ≤ Int32.toInt ((60 * n1) + n2) ∧ Int32.toInt ((60 * n1) + n2) ≤ 359) := zadd_r (60 * n1) n2 0 359 b195_ b191_ (by decide) (by decide) (by decide) (by decide)
                    obtain ⟨q199_, b198_⟩ : (Int32.toInt (((60 * n1) + n2) + i3z172_) = Int32.toInt ((60 * n1) + n2) + Int32.toInt i3z172_) ∧ (0 ≤ Int32.toInt (((60 * n1) + n2) + i3z172_) ∧ Int32.toInt (((60 * n1) + n2) + i3z172_) ≤ 365) := zadd_r ((60 * n1) + n2) i3z172_ 0 365 b196_ b177_ (by decide) (by decide) (by decide) (by decide)
                    have b200_ : 0 ≤ Int32.toInt (M.1 131 (Int32.toNatClampNeg i3z172_)) ∧ Int32.toInt (M.1 131 (Int32.toNatClampNeg i3z172_)) ≤ 1 := pvok_r hok 131 (Int32.toNatClampNeg i3z172_) rfl
                    refine pw_blk hT 14 (S' := (93, [some (pvR 124), some (pvI n1), some (pvI n2), some (pvI i3z172_)], [pvI (M.1 131 (Int32.toNatClampNeg i3z172_)), pvJ (M.2 166 (Int32.toNatClampNeg (((60 * n1) + n2) + i3z172_)))], M)) rfl ⟨trivial, rfl, trivial, trivial, trivial, trivial, trivial, trivial, trivial, ⟨rfl, (vp_in_iff.mpr (show 0 ≤ Int32.toInt (((60 * n1) + n2) + i3z172_) ∧ Int32.toInt (((60 * n1) + n2) + i3z172_) < ((360 : Nat) : Int) from (by have u0 := b198_; omega)))⟩, trivial, rfl, trivial, ⟨rfl, (zr_in (n := 7) b177_ (by decide) (by decide))⟩, trivial⟩ ?_
                    refine pw_if hT (c := (M.1 131 (Int32.toNatClampNeg i3z172_)) = 0) rfl rfl (fun c201_ => ?_) (fun c201_ => ?_)
                    · have b202_ : 0 ≤ Int32.toInt (M.1 131 (Int32.toNatClampNeg i3z172_)) ∧ Int32.toInt (M.1 131 (Int32.toNatClampNeg i3z172_)) ≤ 0 := (by have u0 := b200_; have u1 := (zi_eq _ _).mp c201_; have u2 := (show 0 ≤ Int32.toInt 0 ∧ Int32.toInt 0 ≤ 0 from (by decide)); omega)
                      refine pw_blk hT 2 (S' := (102, [some (pvR 124), some (pvI n1), some (pvI n2), some (pvI i3z172_)], [pvI (lg_cmp (M.2 166 (Int32.toNatClampNeg (((60 * n1) + n2) + i3z172_))) 0)], M)) rfl ⟨trivial, trivial, trivial⟩ ?_
                      refine pw_if hT (c := (lg_cmp (M.2 166 (Int32.toNatClampNeg (((60 * n1) + n2) + i3z172_))) 0) = 0) rfl rfl (fun c203_ => ?_) (fun c203_ => ?_)
                      · have b204_ : 0 ≤ Int32.toInt (lg_cmp (M.2 166 (Int32.toNatClampNeg (((60 * n1) + n2) + i3z172_))) 0) ∧ Int32.toInt (lg_cmp (M.2 166 (Int32.toNatClampNeg (((60 * n1) + n2) + i3z172_))) 0) ≤ 0 := (by have u0 := (zbnd (lg_cmp (M.2 166 (Int32.toNatClampNeg (((60 * n1) + n2) + i3z172_))) 0)); have u1 := (zi_eq _ _).mp c203_; have u2 := (show 0 ≤ Int32.toInt 0 ∧ Int32.toInt 0 ≤ 0 from (by decide)); omega)
                        obtain ⟨q206_, b205_⟩ : (Int32.toInt (i3z172_ + 1) = Int32.toInt i3z172_ + 1) ∧ (1 ≤ Int32.toInt (i3z172_ + 1) ∧ Int32.toInt (i3z172_ + 1) ≤ 7) := zadd_k i3z172_ 1 1 1 7 b177_ (by decide) (by decide) (by decide) (by decide) (by decide)
                        refine pw_blk hT 2 (S' := (34, [some (pvR 124), some (pvI n1), some (pvI n2), some (pvI (i3z172_ + 1))], [], M)) rfl ⟨trivial, trivial, trivial⟩ ?_
                        have j207_ : yjI (decide (Int32.toInt (M.1 164 (Int32.toNatClampNeg n1)) < 0)) (Int32.toInt (M.1 165 (Int32.toNatClampNeg n1))) (Int32.toInt n2) (yj0 M (Int32.toNatClampNeg n1) n2) (Int32.toNatClampNeg (M.1 124 0)) (i3z172_ + 1) := (yjI_s j0z172_ (by have u := b177_; omega) (by have u := ycl_ (pvok_r hok 124 0 (lo := 0) (hi := 7) rfl).1; have v := (not_congr (zi_le _ _)).mp c174_; omega) (yjd (by have v := (not_congr (zi_lt _ _)).mp c16_; have u0 : (0 : Int32).toInt = 0 := (by decide); omega) (yjc (by have v := (not_congr (zi_lt _ _)).mp c180_; have u0 : (0 : Int32).toInt = 0 := (by decide); omega) (by have v := (zi_le _ _).mp c190_; omega))) (yj0_y (zk60b b13_ (zr_wide b191_ (by decide) (by decide)) (zr_wide b177_ (by decide) (by decide))) (Or.inl ⟨c201_, c203_⟩)) (by omega))
                        exact ihz172_ (i3z172_ + 1) (zr_wide b205_ (by decide) (by decide)) j207_ (zhid (pvms_up (zshow hmz172_) h3z172_ q206_ (by decide) (by decide)))
                      · refine pw_blk hT 1 (S' := (106, [some (pvR 124), some (pvI n1), some (pvI n2), some (pvI i3z172_)], [pvI i3z172_], M)) rfl ⟨trivial, trivial⟩ ?_
                        exact pw_ret hT rfl (r := some (pvI i3z172_)) (M' := M) ⟨rfl, rfl⟩ ⟨⟨_, rfl, (zr_wide b177_ (by decide) (by decide))⟩, rfl, (yju0_i (by have u := b13_; omega) (Or.inr c41_) (yjI_n j0z172_ (by have u := b177_; omega) (by have u := ycl_ (pvok_r hok 124 0 (lo := 0) (hi := 7) rfl).1; have v := (not_congr (zi_le _ _)).mp c174_; omega) (yjd (by have v := (not_congr (zi_lt _ _)).mp c16_; have u0 : (0 : Int32).toInt = 0 := (by decide); omega) (yjc (by have v := (not_congr (zi_lt _ _)).mp c180_; have u0 : (0 : Int32).toInt = 0 := (by decide); omega) (by have v := (zi_le _ _).mp c190_; omega))) (yj0_n (zk60b b13_ (zr_wide b191_ (by decide) (by decide)) (zr_wide b177_ (by decide) (by decide))) (Or.inl ⟨c201_, c203_⟩))))⟩
                    · have b208_ : 1 ≤ Int32.toInt (M.1 131 (Int32.toNatClampNeg i3z172_)) ∧ Int32.toInt (M.1 131 (Int32.toNatClampNeg i3z172_)) ≤ 1 := (by have u0 := b200_; have u1 := (not_congr (zi_eq _ _)).mp c201_; have u2 := (show 0 ≤ Int32.toInt 0 ∧ Int32.toInt 0 ≤ 0 from (by decide)); omega)
                      refine pw_blk hT 3 (S' := (102, [some (pvR 124), some (pvI n1), some (pvI n2), some (pvI i3z172_)], [pvI (lg_cmp (M.2 166 (Int32.toNatClampNeg (((60 * n1) + n2) + i3z172_))) 1)], M)) rfl ⟨trivial, trivial, trivial, trivial⟩ ?_
                      refine pw_if hT (c := (lg_cmp (M.2 166 (Int32.toNatClampNeg (((60 * n1) + n2) + i3z172_))) 1) = 0) rfl rfl (fun c209_ => ?_) (fun c209_ => ?_)
                      · have b210_ : 0 ≤ Int32.toInt (lg_cmp (M.2 166 (Int32.toNatClampNeg (((60 * n1) + n2) + i3z172_))) 1) ∧ Int32.toInt (lg_cmp (M.2 166 (Int32.toNatClampNeg (((60 * n1) + n2) + i3z172_))) 1) ≤ 0 := (by have u0 := (zbnd (lg_cmp (M.2 166 (Int32.toNatClampNeg (((60 * n1) + n2) + i3z172_))) 1)); have u1 := (zi_eq _ _).mp c209_; have u2 := (show 0 ≤ Int32.toInt 0 ∧ Int32.toInt 0 ≤ 0 from (by decide)); omega)
                        obtain ⟨q212_, b211_⟩ : (Int32.toInt (i3z172_ + 1) = Int32.toInt i3z172_ + 1) ∧ (1 ≤ Int32.toInt (i3z172_ + 1) ∧ Int32.toInt (i3z172_ + 1) ≤ 7) := zadd_k i3z172_ 1 1 1 7 b177_ (by decide) (by decide) (by decide) (by decide) (by decide)
                        refine pw_blk hT 2 (S' := (34, [some (pvR 124), some (pvI n1), some (pvI n2), some (pvI (i3z172_ + 1))], [], M)) rfl ⟨trivial, trivial, trivial⟩ ?_
                        have j213_ : yjI (decide (Int32.toInt (M.1 164 (Int32.toNatClampNeg n1)) < 0)) (Int32.toInt (M.1 165 (Int32.toNatClampNeg n1))) (Int32.toInt n2) (yj0 M (Int32.toNatClampNeg n1) n2) (Int32.toNatClampNeg (M.1 124 0)) (i3z172_ + 1) := (yjI_s j0z172_ (by have u := b177_; omega) (by have u := ycl_ (pvok_r hok 124 0 (lo := 0) (hi := 7) rfl).1; have v := (not_congr (zi_le _ _)).mp c174_; omega) (yjd (by have v := (not_congr (zi_lt _ _)).mp c16_; have u0 : (0 : Int32).toInt = 0 := (by decide); omega) (yjc (by have v := (not_congr (zi_lt _ _)).mp c180_; have u0 : (0 : Int32).toInt = 0 := (by decide); omega) (by have v := (zi_le _ _).mp c190_; omega))) (yj0_y (zk60b b13_ (zr_wide b191_ (by decide) (by decide)) (zr_wide b177_ (by decide) (by decide))) (Or.inr ⟨c201_, c209_⟩)) (by omega))
                        exact ihz172_ (i3z172_ + 1) (zr_wide b211_ (by decide) (by decide)) j213_ (zhid (pvms_up (zshow hmz172_) h3z172_ q212_ (by decide) (by decide)))
                      · refine pw_blk hT 1 (S' := (106, [some (pvR 124), some (pvI n1), some (pvI n2), some (pvI i3z172_)], [pvI i3z172_], M)) rfl ⟨trivial, trivial⟩ ?_
                        exact pw_ret hT rfl (r := some (pvI i3z172_)) (M' := M) ⟨rfl, rfl⟩ ⟨⟨_, rfl, (zr_wide b177_ (by decide) (by decide))⟩, rfl, (yju0_i (by have u := b13_; omega) (Or.inr c41_) (yjI_n j0z172_ (by have u := b177_; omega) (by have u := ycl_ (pvok_r hok 124 0 (lo := 0) (hi := 7) rfl).1; have v := (not_congr (zi_le _ _)).mp c174_; omega) (yjd (by have v := (not_congr (zi_lt _ _)).mp c16_; have u0 : (0 : Int32).toInt = 0 := (by decide); omega) (yjc (by have v := (not_congr (zi_lt _ _)).mp c180_; have u0 : (0 : Int32).toInt = 0 := (by decide); omega) (by have v := (zi_le _ _).mp c190_; omega))) (yj0_n (zk60b b13_ (zr_wide b191_ (by decide) (by decide)) (zr_wide b177_ (by decide) (by decide))) (Or.inr ⟨c201_, c209_⟩))))⟩
                  · have d214_ : Int32.toInt n2 > Int32.toInt (((M.1 165 (Int32.toNatClampNeg n1)) - i3z172_) - 1) := Int.not_le.mp ((not_congr (zi_le _ _)).mp c190_)
                    obtain ⟨q216_, b215_⟩ : (Int32.toInt (100 + i3z172_) = 100 + Int32.toInt i3z172_) ∧ (100 ≤ Int32.toInt (100 + i3z172_) ∧ Int32.toInt (100 + i3z172_) ≤ 106) := zadd_q 100 i3z172_ 100 100 106 b177_ (by decide) (by decide) (by decide) (by decide) (by decide)
                    refine pw_blk hT 3 (S' := (73, [some (pvR 124), some (pvI n1), some (pvI n2), some (pvI i3z172_)], [pvI (100 + i3z172_)], M)) rfl ⟨trivial, trivial, trivial, trivial⟩ ?_
                    exact pw_ret hT rfl (r := some (pvI (100 + i3z172_))) (M' := M) ⟨rfl, rfl⟩ ⟨⟨_, rfl, (zr_wide b215_ (by decide) (by decide))⟩, rfl, (yju0_i (by have u := b13_; omega) (Or.inr c41_) (by have z := yjI_r j0z172_ (by have u := b177_; omega) (by have u := ycl_ (pvok_r hok 124 0 (lo := 0) (hi := 7) rfl).1; have v := (not_congr (zi_le _ _)).mp c174_; omega) (Or.inr (Or.inr (by have v := (not_congr (zi_le _ _)).mp c190_; omega))); omega))⟩
          have u217_ : Int32.toInt 0 = 0 := by decide
          have j218_ : yjI (decide (Int32.toInt (M.1 164 (Int32.toNatClampNeg n1)) < 0)) (Int32.toInt (M.1 165 (Int32.toNatClampNeg n1))) (Int32.toInt n2) (yj0 M (Int32.toNatClampNeg n1) n2) (Int32.toNatClampNeg (M.1 124 0)) 0 := yjI_0
          exact hlz172_ _ 0 (zr_wide (show 0 ≤ Int32.toInt 0 ∧ Int32.toInt 0 ≤ 0 from (by decide)) (by decide) (by decide)) j218_ (zhid (Nat.lt_succ_self _))
        · have b219_ : 0 ≤ Int32.toInt (M.1 164 (Int32.toNatClampNeg n1)) ∧ Int32.toInt (M.1 164 (Int32.toNatClampNeg n1)) ≤ 3 := (by have u0 := b40_; have u1 := (not_congr (zi_eq _ _)).mp c41_; have u2 := (show 4 ≤ Int32.toInt 4 ∧ Int32.toInt 4 ≤ 4 from (by decide)); omega)
          refine pw_blk hT 1 (S' := (31, [some (pvR 124), some (pvI n1), some (pvI n2), none], [pvI (-12)], M)) rfl ⟨trivial, trivial⟩ ?_
          exact pw_ret hT rfl (r := some (pvI (-12))) (M' := M) ⟨rfl, rfl⟩ ⟨⟨_, rfl, (zr_wide (show (-12) ≤ Int32.toInt (-12) ∧ Int32.toInt (-12) ≤ (-12) from (by decide)) (by decide) (by decide))⟩, rfl, (yju0_c (by have u := b13_; omega) (by have v := (not_congr (zi_lt _ _)).mp c16_; have u0 : (0 : Int32).toInt = 0 := (by decide); omega) c41_ (by decide))⟩
def fpL_eX10_mean_124_x : List (Nat × Nat × Nat) := [(0, 124, 4), (0, 124, 33), (0, 124, 36), (0, 141, 0), (0, 142, 0), (0, 143, 0), (0, 144, 0)]
def fp_eX10_mean_124_x (q k : Nat) : Bool := pvfp fpL_eX10_mean_124_x q k
theorem fp_eX10_mean_124_x_fp_X10_costOfRound_124_x (a b : Nat) (h : fp_X10_costOfRound_124_x a b = true) : fp_eX10_mean_124_x a b = true := pvfp_sub (l1 := fpL_X10_costOfRound_124_x) (l2 := fpL_eX10_mean_124_x) (by decide) a b h
set_option maxHeartbeats 4000000 in
set_option maxRecDepth 10000 in
theorem se_X10_mean_124_x (M : pvM) (hok : pvOk M) (n1 : Int32) (hz : pvWF M) (hx0 : Int32.toInt (M.1 124 3) ≤ 99) (d : Nat) : PW 55 d (0, [some (pvR 124), some (pvI n1), none, none, none], [], M) (fun r X => (∃ x : Int64, r = some (pvJ x)) ∧ pvOk X ∧ pvFr fp_eX10_mean_124_x M X ∧ X.1 124 3 = M.1 124 3) := by
  have hT : pvdom 55 = pvD_55 := rfl
  refine pw_blk hT 4 (S' := (4, [some (pvR 124), some (pvI n1), none, none, none], [pvI 1, pvI 0, pvI n1, pvR 124], M)) rfl ⟨trivial, trivial, trivial, trivial, trivial⟩ ?_
  refine pw_callT hT (as := [pvR 124, pvI n1, pvI 0, pvI 1]) (lo1 := [some (pvR 124), some (pvI n1), some (pvI 0), some (pvI 1)]) (d1 := d) (rest := []) rfl rfl rfl rfl rfl (fun _ => rfl) (Nat.zero_le _) rfl rfl rfl (sf_X10_in_124_x_x_x M hok n1 0 1 d) ?_
  by_cases c6_ : n1 < 0
  · refine pw_eqI (if_pos c6_) ?_
    have b7_ : (-2147483648) ≤ Int32.toInt n1 ∧ Int32.toInt n1 ≤ (-1) := zr_lt_l (-1) c6_ (zbnd n1) (show 0 ≤ Int32.toInt 0 ∧ Int32.toInt 0 ≤ 0 from (by decide)) (by decide)
    show PW 55 d (7, [some (pvR 124), some (pvI n1), none, none, none], [pvI 0], M) _
    refine pw_ifn hT (c := 0 = 0) rfl rfl (fun c8_ => absurd (by decide) c8_) (fun c8_ => ?_)
    refine pw_blk hT 1 (S' := (13, [some (pvR 124), some (pvI n1), none, none, none], [pvJ (-9223372036854775808)], M)) rfl ⟨trivial, trivial⟩ ?_
    exact pw_ret hT rfl (r := some (pvJ (-9223372036854775808))) (M' := M) ⟨rfl, rfl⟩ ⟨⟨_, rfl⟩, hok, pvfr_0, rfl⟩
  · refine pw_eqI (if_neg c6_) ?_
    have b9_ : 0 ≤ Int32.toInt n1 ∧ Int32.toInt n1 ≤ 2147483647 := zr_nlt_l 0 c6_ (zbnd n1) (show 0 ≤ Int32.toInt 0 ∧ Int32.toInt 0 ≤ 0 from (by decide)) (by decide)
    by_cases c10_ : 1 < n1
    · refine pw_eqI (if_pos c10_) ?_
      have b11_ : 2 ≤ Int32.toInt n1 ∧ Int32.toInt n1 ≤ 2147483647 := zr_lt_r 2 c10_ b9_ (show 1 ≤ Int32.toInt 1 ∧ Int32.toInt 1 ≤ 1 from (by decide)) (by decide)
      show PW 55 d (7, [some (pvR 124), some (pvI n1), none, none, none], [pvI 0], M) _
      refine pw_ifn hT (c := 0 = 0) rfl rfl (fun c12_ => absurd (by decide) c12_) (fun c12_ => ?_)
      refine pw_blk hT 1 (S' := (13, [some (pvR 124), some (pvI n1), none, none, none], [pvJ (-9223372036854775808)], M)) rfl ⟨trivial, trivial⟩ ?_
      exact pw_ret hT rfl (r := some (pvJ (-9223372036854775808))) (M' := M) ⟨rfl, rfl⟩ ⟨⟨_, rfl⟩, hok, pvfr_0, rfl⟩
    · refine pw_eqI (if_neg c10_) ?_
      have b13_ : 0 ≤ Int32.toInt n1 ∧ Int32.toInt n1 ≤ 1 := zr_nlt_r 1 c10_ b9_ (show 1 ≤ Int32.toInt 1 ∧ Int32.toInt 1 ≤ 1 from (by decide)) (by decide)
      show PW 55 d (7, [some (pvR 124), some (pvI n1), none, none, none], [pvI 1], M) _
      refine pw_ifn hT (c := 1 = 0) rfl rfl (fun c14_ => ?_) (fun c14_ => absurd c14_ (by decide))
      have b15_ : 0 ≤ Int32.toInt (M.1 124 3) ∧ Int32.toInt (M.1 124 3) ≤ 108 := pvok_r hok 124 3 rfl
      refine pw_blk hT 7 (S' := (24, [some (pvR 124), some (pvI n1), some (pvI (M.1 124 3)), some (pvI 0), some (pvI 0)], [], M)) rfl ⟨trivial, rfl, trivial, trivial, trivial, trivial, trivial, trivial⟩ ?_
      have hlz121_ : ∀ (nz121_ : Nat) (i3z121_ : Int32) (i4z121_ : Int32) (Mz121_ : pvM), (pvOk Mz121_) → (pvFr fp_eX10_mean_124_x M Mz121_) → (0 ≤ Int32.toInt i3z121_ ∧ Int32.toInt i3z121_ ≤ 90000000) → (0 ≤ Int32.toInt i4z121_ ∧ Int32.toInt i4z121_ ≤ 10) → (Int32.toInt i3z121_ ≤ 9000000 * Int32.toInt i4z121_) → (zhide ((11 - Int32.toInt i4z121_).toNat < nz121_)) → PW 55 d (24, [some (pvR 124), some (pvI n1), some (pvI (M.1 124 3)), some (pvI i3z121_), some (pvI i4z121_)], [], Mz121_) (fun r X => (∃ x : Int64, r = some (pvJ x)) ∧ pvOk X ∧ pvFr fp_eX10_mean_124_x M X ∧ X.1 124 3 = M.1 124 3) := by
        intro nz121_
        induction nz121_ with
        | zero => intro i3z121_ i4z121_ Mz121_ oz121_ fz121_ h3z121_ h4z121_ j0z121_ hmz121_; exact absurd (zshow hmz121_) (Nat.not_lt_zero _)
        | succ nz121_ ihz121_ =>
          intro i3z121_ i4z121_ Mz121_ oz121_ fz121_ h3z121_ h4z121_ j0z121_ hmz121_
          refine pw_blk hT 2 (S' := (28, [some (pvR 124), some (pvI n1), some (pvI (M.1 124 3)), some (pvI i3z121_), some (pvI i4z121_)], [pvI 10, pvI i4z121_], Mz121_)) rfl ⟨trivial, trivial, trivial⟩ ?_
          refine pw_ic hT (c := 10 ≤ i4z121_) rfl rfl (fun c122_ => ?_) (fun c122_ => ?_)
          · have b123_ : 10 ≤ Int32.toInt i4z121_ ∧ Int32.toInt i4z121_ ≤ 10 := zr_le_r 10 c122_ h4z121_ (show 10 ≤ Int32.toInt 10 ∧ Int32.toInt 10 ≤ 10 from (by decide)) (by decide)
            refine pw_blkw hT 3 (pc := 58) (lo := [some (pvR 124), some (pvI n1), some (pvI (M.1 124 3)), some (pvI i3z121_), some (pvI i4z121_)]) (st := []) (M := pvu Mz121_ 124 3 (M.1 124 3)) rfl ⟨trivial, trivial, rfl, trivial⟩ (fun M124_ e125_ => ?_)
            have o126_ : pvOk M124_ := pvok_u2 e125_ oz121_ rfl b15_
            have f127_ : pvFr fp_eX10_mean_124_x M M124_ := pvfr_u e125_ fz121_ rfl
            refine pw_blk hT 4 (S' := (63, [some (pvR 124), some (pvI n1), some (pvI (M.1 124 3)), some (pvI i3z121_), some (pvI i4z121_)], [pvI n1, pvI 10, pvI i3z121_, pvR 124], M124_)) rfl ⟨trivial, trivial, trivial, trivial, trivial⟩ ?_
            refine pw_callJp hT (as := [pvR 124, pvI i3z121_, pvI 10, pvI n1]) (lo1 := [some (pvR 124), some (pvI i3z121_), some (pvI 10), some (pvI n1), none]) (d1 := d) (rest := []) rfl rfl rfl rfl rfl (fun _ => rfl) (Nat.zero_le _) rfl rfl rfl (sf_X10_lowest_124_x_x_x M124_ o126_ i3z121_ 10 n1 h3z121_ (zr_wide (show 10 ≤ Int32.toInt 10 ∧ Int32.toInt 10 ≤ 10 from (by decide)) (by decide) (by decide)) d) (fun x128_ b130_ => ?_)
            exact pw_ret hT rfl (r := some (pvJ x128_)) (M' := M124_) ⟨rfl, rfl⟩ ⟨⟨_, rfl⟩, o126_, f127_, (pvu_s e125_)⟩
          · have b133_ : 0 ≤ Int32.toInt i4z121_ ∧ Int32.toInt i4z121_ ≤ 9 := zr_nle_r 9 c122_ h4z121_ (show 10 ≤ Int32.toInt 10 ∧ Int32.toInt 10 ≤ 10 from (by decide)) (by decide)
            obtain ⟨q135_, b134_⟩ : (Int32.toInt ((M.1 124 3) + i4z121_) = Int32.toInt (M.1 124 3) + Int32.toInt i4z121_) ∧ (0 ≤ Int32.toInt ((M.1 124 3) + i4z121_) ∧ Int32.toInt ((M.1 124 3) + i4z121_) ≤ 117) := zadd_r (M.1 124 3) i4z121_ 0 117 b15_ b133_ (by decide) (by decide) (by decide) (by decide)
            refine pw_blkw hT 5 (pc := 39) (lo := [some (pvR 124), some (pvI n1), some (pvI (M.1 124 3)), some (pvI i3z121_), some (pvI i4z121_)]) (st := []) (M := pvu Mz121_ 124 3 ((M.1 124 3) + i4z121_)) rfl ⟨trivial, trivial, trivial, trivial, rfl, trivial⟩ (fun M136_ e137_ => ?_)
            have o138_ : pvOk M136_ := pvok_u2 e137_ oz121_ rfl (by have u0 := b134_; omega)
            have f139_ : pvFr fp_eX10_mean_124_x M M136_ := pvfr_u e137_ fz121_ rfl
            refine pw_blk hT 3 (S' := (42, [some (pvR 124), some (pvI n1), some (pvI (M.1 124 3)), some (pvI i3z121_), some (pvI i4z121_)], [pvI 0, pvR 124, pvI i3z121_], M136_)) rfl ⟨trivial, trivial, trivial, trivial⟩ ?_
            have u140_ : Int32.toInt 0 = 0 := by decide
            refine pw_callG hT (as := [pvR 124, pvI 0]) (lo1 := [some (pvR 124), some (pvI 0)]) (d1 := d) (rest := [pvI i3z121_]) rfl rfl rfl rfl rfl (fun _ => rfl) (Nat.zero_le _) rfl rfl rfl (sf_X10_costOfRound_124_x M136_ o138_ 0 (zr_wide (show 0 ≤ Int32.toInt 0 ∧ Int32.toInt 0 ≤ 0 from (by decide)) (by decide) (by decide)) (pvWF_fr (L := fpL_eX10_mean_124_x) rfl f139_ hz) d) (fun x141_ M142_ b143_ o144_ g145_ => ?_)
            have f146_ : pvFr fp_eX10_mean_124_x M M142_ := pvfr_t g145_ f139_ fp_eX10_mean_124_x_fp_X10_costOfRound_124_x
            obtain ⟨q148_, b147_⟩ : (Int32.toInt (i3z121_ + x141_) = Int32.toInt i3z121_ + Int32.toInt x141_) ∧ (0 ≤ Int32.toInt (i3z121_ + x141_) ∧ Int32.toInt (i3z121_ + x141_) ≤ 99000000) := zadd_r i3z121_ x141_ 0 99000000 h3z121_ b143_ (by decide) (by decide) (by decide) (by decide)
            obtain ⟨q150_, b149_⟩ : (Int32.toInt (i4z121_ + 1) = Int32.toInt i4z121_ + 1) ∧ (1 ≤ Int32.toInt (i4z121_ + 1) ∧ Int32.toInt (i4z121_ + 1) ≤ 10) := zadd_k i4z121_ 1 1 1 10 b133_ (by decide) (by decide) (by decide) (by decide) (by decide)
            refine pw_blk hT 4 (S' := (24, [some (pvR 124), some (pvI n1), some (pvI (M.1 124 3)), some (pvI (i3z121_ + x141_)), some (pvI (i4z121_ + 1))], [], M142_)) rfl ⟨trivial, trivial, trivial, trivial, trivial⟩ ?_
            have j151_ : Int32.toInt (i3z121_ + x141_) ≤ 9000000 * Int32.toInt (i4z121_ + 1) := by omega
            exact ihz121_ (i3z121_ + x141_) (i4z121_ + 1) M142_ o144_ f146_ (by have u0 := b147_; omega) (zr_wide b149_ (by decide) (by decide)) j151_ (zhid (pvms_up (zshow hmz121_) h4z121_ q150_ (by decide) (by decide)))
      have u152_ : Int32.toInt 0 = 0 := by decide
      have j153_ : Int32.toInt 0 ≤ 9000000 * Int32.toInt 0 := by omega
      exact hlz121_ _ 0 0 M hok pvfr_0 (zr_wide (show 0 ≤ Int32.toInt 0 ∧ Int32.toInt 0 ≤ 0 from (by decide)) (by decide) (by decide)) (zr_wide (show 0 ≤ Int32.toInt 0 ∧ Int32.toInt 0 ≤ 0 from (by decide)) (by decide) (by decide)) j153_ (zhid (Nat.lt_succ_self _))
def fpL_eX10_odds_124_x_x : List (Nat × Nat × Nat) := [(0, 124, 33), (0, 124, 36), (0, 124, 5), (0, 141, 0), (0, 142, 0), (0, 143, 0), (0, 144, 0)]
def fp_eX10_odds_124_x_x (q k : Nat) : Bool := pvfp fpL_eX10_odds_124_x_x q k
theorem fp_eX10_odds_124_x_x_fp_X10_costOfRound_124_x (a b : Nat) (h : fp_X10_costOfRound_124_x a b = true) : fp_eX10_odds_124_x_x a b = true := pvfp_sub (l1 := fpL_X10_costOfRound_124_x) (l2 := fpL_eX10_odds_124_x_x) (by decide) a b h
set_option maxHeartbeats 4000000 in
set_option maxRecDepth 10000 in
theorem se_X10_odds_124_x_x (M : pvM) (hok : pvOk M) (n1 : Int32) (n2 : Int32) (hz : pvWF M) (d : Nat) : PW 58 d (0, [some (pvR 124), some (pvI n1), some (pvI n2), none, none], [], M) (fun r X => (∃ x : Int64, r = some (pvJ x)) ∧ pvOk X ∧ pvFr fp_eX10_odds_124_x_x M X ∧ X.1 124 4 = M.1 124 4) := by
  have hT : pvdom 58 = pvD_58 := rfl
  refine pw_blk hT 2 (S' := (2, [some (pvR 124), some (pvI n1), some (pvI n2), none, none], [pvI n1, pvR 124], M)) rfl ⟨trivial, trivial, trivial⟩ ?_
  refine pw_callT hT (as := [pvR 124, pvI n1]) (lo1 := [some (pvR 124), some (pvI n1)]) (d1 := d) (rest := []) rfl rfl rfl rfl rfl (fun _ => rfl) (Nat.zero_le _) rfl rfl rfl (sf_X10_isLimit_124_x M hok n1 d) ?_
  by_cases c6_ : n1 < 0
  · refine pw_eqI (if_pos c6_) ?_
    have b7_ : (-2147483648) ≤ Int32.toInt n1 ∧ Int32.toInt n1 ≤ (-1) := zr_lt_l (-1) c6_ (zbnd n1) (show 0 ≤ Int32.toInt 0 ∧ Int32.toInt 0 ≤ 0 from (by decide)) (by decide)
    show PW 58 d (5, [some (pvR 124), some (pvI n1), some (pvI n2), none, none], [pvI 0], M) _
    refine pw_if hT (c := 0 = 0) rfl rfl (fun c8_ => ?_) (fun c8_ => absurd (by decide) c8_)
    refine pw_blk hT 1 (S' := (21, [some (pvR 124), some (pvI n1), some (pvI n2), none, none], [pvJ (-9223372036854775808)], M)) rfl ⟨trivial, trivial⟩ ?_
    exact pw_ret hT rfl (r := some (pvJ (-9223372036854775808))) (M' := M) ⟨rfl, rfl⟩ ⟨⟨_, rfl⟩, hok, pvfr_0, rfl⟩
  · refine pw_eqI (if_neg c6_) ?_
    have b9_ : 0 ≤ Int32.toInt n1 ∧ Int32.toInt n1 ≤ 2147483647 := zr_nlt_l 0 c6_ (zbnd n1) (show 0 ≤ Int32.toInt 0 ∧ Int32.toInt 0 ≤ 0 from (by decide)) (by decide)
    by_cases c10_ : 99999 < n1
    · refine pw_eqI (if_pos c10_) ?_
      have b11_ : 100000 ≤ Int32.toInt n1 ∧ Int32.toInt n1 ≤ 2147483647 := zr_lt_r 100000 c10_ b9_ (show 99999 ≤ Int32.toInt 99999 ∧ Int32.toInt 99999 ≤ 99999 from (by decide)) (by decide)
      show PW 58 d (5, [some (pvR 124), some (pvI n1), some (pvI n2), none, none], [pvI 0], M) _
      refine pw_if hT (c := 0 = 0) rfl rfl (fun c12_ => ?_) (fun c12_ => absurd (by decide) c12_)
      refine pw_blk hT 1 (S' := (21, [some (pvR 124), some (pvI n1), some (pvI n2), none, none], [pvJ (-9223372036854775808)], M)) rfl ⟨trivial, trivial⟩ ?_
      exact pw_ret hT rfl (r := some (pvJ (-9223372036854775808))) (M' := M) ⟨rfl, rfl⟩ ⟨⟨_, rfl⟩, hok, pvfr_0, rfl⟩
    · refine pw_eqI (if_neg c10_) ?_
      have b13_ : 0 ≤ Int32.toInt n1 ∧ Int32.toInt n1 ≤ 99999 := zr_nlt_r 99999 c10_ b9_ (show 99999 ≤ Int32.toInt 99999 ∧ Int32.toInt 99999 ≤ 99999 from (by decide)) (by decide)
      show PW 58 d (5, [some (pvR 124), some (pvI n1), some (pvI n2), none, none], [pvI 1], M) _
      refine pw_if hT (c := 1 = 0) rfl rfl (fun c14_ => absurd c14_ (by decide)) (fun c14_ => ?_)
      refine pw_blk hT 4 (S' := (12, [some (pvR 124), some (pvI n1), some (pvI n2), none, none], [pvI 1, pvI 0, pvI n2, pvR 124], M)) rfl ⟨trivial, trivial, trivial, trivial, trivial⟩ ?_
      refine pw_callT hT (as := [pvR 124, pvI n2, pvI 0, pvI 1]) (lo1 := [some (pvR 124), some (pvI n2), some (pvI 0), some (pvI 1)]) (d1 := d) (rest := []) rfl rfl rfl rfl rfl (fun _ => rfl) (Nat.zero_le _) rfl rfl rfl (sf_X10_in_124_x_x_x M hok n2 0 1 d) ?_
      by_cases c20_ : n2 < 0
      · refine pw_eqI (if_pos c20_) ?_
        have b21_ : (-2147483648) ≤ Int32.toInt n2 ∧ Int32.toInt n2 ≤ (-1) := zr_lt_l (-1) c20_ (zbnd n2) (show 0 ≤ Int32.toInt 0 ∧ Int32.toInt 0 ≤ 0 from (by decide)) (by decide)
        show PW 58 d (15, [some (pvR 124), some (pvI n1), some (pvI n2), none, none], [pvI 0], M) _
        refine pw_ifn hT (c := 0 = 0) rfl rfl (fun c22_ => absurd (by decide) c22_) (fun c22_ => ?_)
        refine pw_blk hT 1 (S' := (21, [some (pvR 124), some (pvI n1), some (pvI n2), none, none], [pvJ (-9223372036854775808)], M)) rfl ⟨trivial, trivial⟩ ?_
        exact pw_ret hT rfl (r := some (pvJ (-9223372036854775808))) (M' := M) ⟨rfl, rfl⟩ ⟨⟨_, rfl⟩, hok, pvfr_0, rfl⟩
      · refine pw_eqI (if_neg c20_) ?_
        have b23_ : 0 ≤ Int32.toInt n2 ∧ Int32.toInt n2 ≤ 2147483647 := zr_nlt_l 0 c20_ (zbnd n2) (show 0 ≤ Int32.toInt 0 ∧ Int32.toInt 0 ≤ 0 from (by decide)) (by decide)
        by_cases c24_ : 1 < n2
        · refine pw_eqI (if_pos c24_) ?_
          have b25_ : 2 ≤ Int32.toInt n2 ∧ Int32.toInt n2 ≤ 2147483647 := zr_lt_r 2 c24_ b23_ (show 1 ≤ Int32.toInt 1 ∧ Int32.toInt 1 ≤ 1 from (by decide)) (by decide)
          show PW 58 d (15, [some (pvR 124), some (pvI n1), some (pvI n2), none, none], [pvI 0], M) _
          refine pw_ifn hT (c := 0 = 0) rfl rfl (fun c26_ => absurd (by decide) c26_) (fun c26_ => ?_)
          refine pw_blk hT 1 (S' := (21, [some (pvR 124), some (pvI n1), some (pvI n2), none, none], [pvJ (-9223372036854775808)], M)) rfl ⟨trivial, trivial⟩ ?_
          exact pw_ret hT rfl (r := some (pvJ (-9223372036854775808))) (M' := M) ⟨rfl, rfl⟩ ⟨⟨_, rfl⟩, hok, pvfr_0, rfl⟩
        · refine pw_eqI (if_neg c24_) ?_
          have b27_ : 0 ≤ Int32.toInt n2 ∧ Int32.toInt n2 ≤ 1 := zr_nlt_r 1 c24_ b23_ (show 1 ≤ Int32.toInt 1 ∧ Int32.toInt 1 ≤ 1 from (by decide)) (by decide)
          show PW 58 d (15, [some (pvR 124), some (pvI n1), some (pvI n2), none, none], [pvI 1], M) _
          refine pw_ifn hT (c := 1 = 0) rfl rfl (fun c28_ => ?_) (fun c28_ => absurd c28_ (by decide))
          have b29_ : 0 ≤ Int32.toInt (M.1 124 4) ∧ Int32.toInt (M.1 124 4) ≤ 4 := pvok_r hok 124 4 rfl
          refine pw_blkw hT 8 (pc := 35) (lo := [some (pvR 124), some (pvI n1), some (pvI n2), some (pvI (M.1 124 4)), some (pvI 0)]) (st := []) (M := pvu M 124 4 0) rfl ⟨trivial, rfl, trivial, trivial, trivial, trivial, trivial, rfl, trivial⟩ (fun M30_ e31_ => ?_)
          have o32_ : pvOk M30_ := pvok_u2 e31_ hok rfl (zr_wide (show 0 ≤ Int32.toInt 0 ∧ Int32.toInt 0 ≤ 0 from (by decide)) (by decide) (by decide))
          have f33_ : pvFr fp_eX10_odds_124_x_x M M30_ := pvfr_u e31_ pvfr_0 rfl
          have hlz206_ : ∀ (nz206_ : Nat) (i4z206_ : Int32) (Mz206_ : pvM), (pvOk Mz206_) → (pvFr fp_eX10_odds_124_x_x M Mz206_) → (0 ≤ Int32.toInt i4z206_ ∧ Int32.toInt i4z206_ ≤ 4) → (Int32.toInt i4z206_ ≤ Int32.toInt (Mz206_.1 124 4)) → (zhide ((5 - Int32.toInt (Mz206_.1 124 4)).toNat < nz206_)) → PW 58 d (35, [some (pvR 124), some (pvI n1), some (pvI n2), some (pvI (M.1 124 4)), some (pvI i4z206_)], [], Mz206_) (fun r X => (∃ x : Int64, r = some (pvJ x)) ∧ pvOk X ∧ pvFr fp_eX10_odds_124_x_x M X ∧ X.1 124 4 = M.1 124 4) := by
            intro nz206_
            induction nz206_ with
            | zero => intro i4z206_ Mz206_ oz206_ fz206_ h4z206_ j0z206_ hmz206_; exact absurd (zshow hmz206_) (Nat.not_lt_zero _)
            | succ nz206_ ihz206_ =>
              intro i4z206_ Mz206_ oz206_ fz206_ h4z206_ j0z206_ hmz206_
              have b207_ : 0 ≤ Int32.toInt (Mz206_.1 124 4) ∧ Int32.toInt (Mz206_.1 124 4) ≤ 4 := pvok_r oz206_ 124 4 rfl
              refine pw_blk hT 3 (S' := (40, [some (pvR 124), some (pvI n1), some (pvI n2), some (pvI (M.1 124 4)), some (pvI i4z206_)], [pvI 4, pvI (Mz206_.1 124 4)], Mz206_)) rfl ⟨trivial, rfl, trivial, trivial⟩ ?_
              refine pw_ic hT (c := 4 ≤ (Mz206_.1 124 4)) rfl rfl (fun c208_ => ?_) (fun c208_ => ?_)
              · have b209_ : 4 ≤ Int32.toInt (Mz206_.1 124 4) ∧ Int32.toInt (Mz206_.1 124 4) ≤ 4 := zr_le_r 4 c208_ b207_ (show 4 ≤ Int32.toInt 4 ∧ Int32.toInt 4 ≤ 4 from (by decide)) (by decide)
                refine pw_blkw hT 3 (pc := 80) (lo := [some (pvR 124), some (pvI n1), some (pvI n2), some (pvI (M.1 124 4)), some (pvI i4z206_)]) (st := []) (M := pvu Mz206_ 124 4 (M.1 124 4)) rfl ⟨trivial, trivial, rfl, trivial⟩ (fun M210_ e211_ => ?_)
                have o212_ : pvOk M210_ := pvok_u2 e211_ oz206_ rfl b29_
                have f213_ : pvFr fp_eX10_odds_124_x_x M M210_ := pvfr_u e211_ fz206_ rfl
                refine pw_blk hT 4 (S' := (85, [some (pvR 124), some (pvI n1), some (pvI n2), some (pvI (M.1 124 4)), some (pvI i4z206_)], [pvI n2, pvI 4, pvI i4z206_, pvR 124], M210_)) rfl ⟨trivial, trivial, trivial, trivial, trivial⟩ ?_
                refine pw_callJp hT (as := [pvR 124, pvI i4z206_, pvI 4, pvI n2]) (lo1 := [some (pvR 124), some (pvI i4z206_), some (pvI 4), some (pvI n2), none]) (d1 := d) (rest := []) rfl rfl rfl rfl rfl (fun _ => rfl) (Nat.zero_le _) rfl rfl rfl (sf_X10_lowest_124_x_x_x M210_ o212_ i4z206_ 4 n2 (zr_wide h4z206_ (by decide) (by decide)) (zr_wide (show 4 ≤ Int32.toInt 4 ∧ Int32.toInt 4 ≤ 4 from (by decide)) (by decide) (by decide)) d) (fun x214_ b216_ => ?_)
                exact pw_ret hT rfl (r := some (pvJ x214_)) (M' := M210_) ⟨rfl, rfl⟩ ⟨⟨_, rfl⟩, o212_, f213_, (pvu_s e211_)⟩
              · have b219_ : 0 ≤ Int32.toInt (Mz206_.1 124 4) ∧ Int32.toInt (Mz206_.1 124 4) ≤ 3 := zr_nle_r 3 c208_ b207_ (show 4 ≤ Int32.toInt 4 ∧ Int32.toInt 4 ≤ 4 from (by decide)) (by decide)
                refine pw_blk hT 3 (S' := (47, [some (pvR 124), some (pvI n1), some (pvI n2), some (pvI (M.1 124 4)), some (pvI i4z206_)], [pvI 0, pvR 124, pvI i4z206_], Mz206_)) rfl ⟨trivial, trivial, trivial, trivial⟩ ?_
                have u220_ : Int32.toInt 0 = 0 := by decide
                refine pw_callG hT (as := [pvR 124, pvI 0]) (lo1 := [some (pvR 124), some (pvI 0)]) (d1 := d) (rest := [pvI i4z206_]) rfl rfl rfl rfl rfl (fun _ => rfl) (Nat.zero_le _) rfl rfl rfl (sf_X10_costOfRound_124_x Mz206_ oz206_ 0 (zr_wide (show 0 ≤ Int32.toInt 0 ∧ Int32.toInt 0 ≤ 0 from (by decide)) (by decide) (by decide)) (pvWF_fr (L := fpL_eX10_odds_124_x_x) rfl fz206_ hz) d) (fun x221_ M222_ b223_ o224_ g225_ => ?_)
                have f226_ : pvFr fp_eX10_odds_124_x_x M M222_ := pvfr_t g225_ fz206_ fp_eX10_odds_124_x_x_fp_X10_costOfRound_124_x
                refine pw_blk hT 1 (S' := (51, [some (pvR 124), some (pvI n1), some (pvI n2), some (pvI (M.1 124 4)), some (pvI i4z206_)], [pvI n1, pvI x221_, pvI i4z206_], M222_)) rfl ⟨trivial, trivial⟩ ?_
                refine pw_ic hT (c := n1 < x221_) rfl rfl (fun c227_ => ?_) (fun c227_ => ?_)
                · have b228_ : 1 ≤ Int32.toInt x221_ ∧ Int32.toInt x221_ ≤ 9000000 := zr_lt_r 1 c227_ b223_ b13_ (by decide)
                  have d229_ : Int32.toInt n1 < Int32.toInt x221_ := (zi_lt _ _).mp c227_
                  obtain ⟨q231_, b230_⟩ : (Int32.toInt (i4z206_ + 0) = Int32.toInt i4z206_ + 0) ∧ (0 ≤ Int32.toInt (i4z206_ + 0) ∧ Int32.toInt (i4z206_ + 0) ≤ 4) := zadd_k i4z206_ 0 0 0 4 h4z206_ (by decide) (by decide) (by decide) (by decide) (by decide)
                  have e232_ : (M222_.1 124 4) = (Mz206_.1 124 4) := (g225_ 124 4 rfl)
                  have b233_ : 0 ≤ Int32.toInt (M222_.1 124 4) ∧ Int32.toInt (M222_.1 124 4) ≤ 3 := (by rw [e232_]; exact b219_)
                  have d234_ : Int32.toInt (M222_.1 124 4) = Int32.toInt (Mz206_.1 124 4) := congrArg Int32.toInt e232_
                  obtain ⟨q236_, b235_⟩ : (Int32.toInt ((M222_.1 124 4) + 1) = Int32.toInt (M222_.1 124 4) + 1) ∧ (1 ≤ Int32.toInt ((M222_.1 124 4) + 1) ∧ Int32.toInt ((M222_.1 124 4) + 1) ≤ 4) := zadd_k (M222_.1 124 4) 1 1 1 4 b233_ (by decide) (by decide) (by decide) (by decide) (by decide)
                  refine pw_blkw hT 9 (pc := 72) (lo := [some (pvR 124), some (pvI n1), some (pvI n2), some (pvI (M.1 124 4)), some (pvI (i4z206_ + 0))]) (st := []) (M := pvu M222_ 124 4 ((M222_.1 124 4) + 1)) rfl ⟨trivial, trivial, trivial, trivial, trivial, rfl, trivial, trivial, rfl, trivial⟩ (fun M237_ e238_ => ?_)
                  have o239_ : pvOk M237_ := pvok_u2 e238_ o224_ rfl (zr_wide b235_ (by decide) (by decide))
                  have f240_ : pvFr fp_eX10_odds_124_x_x M M237_ := pvfr_u e238_ f226_ rfl
                  refine pw_blk hT 1 (S' := (35, [some (pvR 124), some (pvI n1), some (pvI n2), some (pvI (M.1 124 4)), some (pvI (i4z206_ + 0))], [], M237_)) rfl ⟨trivial, trivial⟩ ?_
                  have j241_ : Int32.toInt (i4z206_ + 0) ≤ Int32.toInt (M237_.1 124 4) := by have z1 : Int32.toInt (M237_.1 124 4) = Int32.toInt ((M222_.1 124 4) + 1) := congrArg Int32.toInt (pvu_s e238_); have z2 : Int32.toInt (M222_.1 124 4) = Int32.toInt (Mz206_.1 124 4) := congrArg Int32.toInt (g225_ 124 4 rfl); have y01 : Int32.toInt (M237_.1 124 4) = Int32.toInt ((M222_.1 124 4) + 1) := congrArg Int32.toInt (pvu_s e238_); have y02 : Int32.toInt (M222_.1 124 4) = Int32.toInt (Mz206_.1 124 4) := congrArg Int32.toInt (g225_ 124 4 rfl); omega
                  exact ihz206_ (i4z206_ + 0) M237_ o239_ f240_ b230_ j241_ (zhid (by have hm0 := zshow hmz206_; have z1 : Int32.toInt (M237_.1 124 4) = Int32.toInt ((M222_.1 124 4) + 1) := congrArg Int32.toInt (pvu_s e238_); have z2 : Int32.toInt (M222_.1 124 4) = Int32.toInt (Mz206_.1 124 4) := congrArg Int32.toInt (g225_ 124 4 rfl); have y01 : Int32.toInt (M237_.1 124 4) = Int32.toInt ((M222_.1 124 4) + 1) := congrArg Int32.toInt (pvu_s e238_); have y02 : Int32.toInt (M222_.1 124 4) = Int32.toInt (Mz206_.1 124 4) := congrArg Int32.toInt (g225_ 124 4 rfl); omega))
                · have b242_ : 0 ≤ Int32.toInt x221_ ∧ Int32.toInt x221_ ≤ 99999 := zr_nlt_r 99999 c227_ b223_ b13_ (by decide)
                  have d243_ : Int32.toInt n1 ≥ Int32.toInt x221_ := Int.not_lt.mp ((not_congr (zi_lt _ _)).mp c227_)
                  obtain ⟨q245_, b244_⟩ : (Int32.toInt (i4z206_ + 1) = Int32.toInt i4z206_ + 1) ∧ (1 ≤ Int32.toInt (i4z206_ + 1) ∧ Int32.toInt (i4z206_ + 1) ≤ 5) := zadd_k i4z206_ 1 1 1 5 h4z206_ (by decide) (by decide) (by decide) (by decide) (by decide)
                  have e246_ : (M222_.1 124 4) = (Mz206_.1 124 4) := (g225_ 124 4 rfl)
                  have b247_ : 0 ≤ Int32.toInt (M222_.1 124 4) ∧ Int32.toInt (M222_.1 124 4) ≤ 3 := (by rw [e246_]; exact b219_)
                  have d248_ : Int32.toInt (M222_.1 124 4) = Int32.toInt (Mz206_.1 124 4) := congrArg Int32.toInt e246_
                  obtain ⟨q250_, b249_⟩ : (Int32.toInt ((M222_.1 124 4) + 1) = Int32.toInt (M222_.1 124 4) + 1) ∧ (1 ≤ Int32.toInt ((M222_.1 124 4) + 1) ∧ Int32.toInt ((M222_.1 124 4) + 1) ≤ 4) := zadd_k (M222_.1 124 4) 1 1 1 4 b247_ (by decide) (by decide) (by decide) (by decide) (by decide)
                  refine pw_blkw hT 10 (pc := 72) (lo := [some (pvR 124), some (pvI n1), some (pvI n2), some (pvI (M.1 124 4)), some (pvI (i4z206_ + 1))]) (st := []) (M := pvu M222_ 124 4 ((M222_.1 124 4) + 1)) rfl ⟨trivial, trivial, trivial, trivial, trivial, trivial, rfl, trivial, trivial, rfl, trivial⟩ (fun M251_ e252_ => ?_)
                  have o253_ : pvOk M251_ := pvok_u2 e252_ o224_ rfl (zr_wide b249_ (by decide) (by decide))
                  have f254_ : pvFr fp_eX10_odds_124_x_x M M251_ := pvfr_u e252_ f226_ rfl
                  refine pw_blk hT 1 (S' := (35, [some (pvR 124), some (pvI n1), some (pvI n2), some (pvI (M.1 124 4)), some (pvI (i4z206_ + 1))], [], M251_)) rfl ⟨trivial, trivial⟩ ?_
                  have j255_ : Int32.toInt (i4z206_ + 1) ≤ Int32.toInt (M251_.1 124 4) := by have z1 : Int32.toInt (M251_.1 124 4) = Int32.toInt ((M222_.1 124 4) + 1) := congrArg Int32.toInt (pvu_s e252_); have z2 : Int32.toInt (M222_.1 124 4) = Int32.toInt (Mz206_.1 124 4) := congrArg Int32.toInt (g225_ 124 4 rfl); have y01 : Int32.toInt (M251_.1 124 4) = Int32.toInt ((M222_.1 124 4) + 1) := congrArg Int32.toInt (pvu_s e252_); have y02 : Int32.toInt (M222_.1 124 4) = Int32.toInt (Mz206_.1 124 4) := congrArg Int32.toInt (g225_ 124 4 rfl); omega
                  exact ihz206_ (i4z206_ + 1) M251_ o253_ f254_ (by have u0 := b244_; omega) j255_ (zhid (by have hm0 := zshow hmz206_; have z1 : Int32.toInt (M251_.1 124 4) = Int32.toInt ((M222_.1 124 4) + 1) := congrArg Int32.toInt (pvu_s e252_); have z2 : Int32.toInt (M222_.1 124 4) = Int32.toInt (Mz206_.1 124 4) := congrArg Int32.toInt (g225_ 124 4 rfl); have y01 : Int32.toInt (M251_.1 124 4) = Int32.toInt ((M222_.1 124 4) + 1) := congrArg Int32.toInt (pvu_s e252_); have y02 : Int32.toInt (M222_.1 124 4) = Int32.toInt (Mz206_.1 124 4) := congrArg Int32.toInt (g225_ 124 4 rfl); omega))
          have u256_ : Int32.toInt 0 = 0 := by decide
          have j257_ : Int32.toInt 0 ≤ Int32.toInt (M30_.1 124 4) := by have y01 : Int32.toInt (M30_.1 124 4) = Int32.toInt 0 := congrArg Int32.toInt (pvu_s e31_); have y03 : Int32.toInt 0 = 0 := (by decide); omega
          exact hlz206_ _ 0 M30_ o32_ f33_ (zr_wide (show 0 ≤ Int32.toInt 0 ∧ Int32.toInt 0 ≤ 0 from (by decide)) (by decide) (by decide)) j257_ (zhid (Nat.lt_succ_self _))
def fpL_eX10_pass_124_x : List (Nat × Nat × Nat) := [(0, 124, 2), (0, 124, 3), (0, 124, 33), (0, 141, 0), (0, 142, 0), (0, 143, 0)]
def fp_eX10_pass_124_x (q k : Nat) : Bool := pvfp fpL_eX10_pass_124_x q k
theorem fp_eX10_pass_124_x_fp_eX10_goMinutes_124_x (a b : Nat) (h : fp_eX10_goMinutes_124_x a b = true) : fp_eX10_pass_124_x a b = true := pvfp_sub (l1 := fpL_eX10_goMinutes_124_x) (l2 := fpL_eX10_pass_124_x) (by decide) a b h
set_option maxHeartbeats 4000000 in
set_option maxRecDepth 10000 in
theorem se_X10_pass_124_x (M : pvM) (hok : pvOk M) (n1 : Int32) (hz : pvWF M) (d : Nat) : PW 63 d (0, [some (pvR 124), some (pvI n1)], [], M) (fun r X => (∃ x : Int32, r = some (pvI x) ∧ (-3) ≤ Int32.toInt x ∧ Int32.toInt x ≤ 9000000) ∧ pvOk X ∧ pvFr fp_eX10_pass_124_x M X ∧ zwG n1 (zw0 1 5 6 131 M) (zw0 1 5 6 131 X)) := by
  have hT : pvdom 63 = pvD_63 := rfl
  refine pw_blk hT 4 (S' := (5, [some (pvR 124), some (pvI n1)], [pvI 99, pvI 0, pvI n1, pvR 124], M)) rfl ⟨trivial, trivial, trivial, trivial, trivial⟩ ?_
  refine pw_callT hT (as := [pvR 124, pvI n1, pvI 0, pvI 99]) (lo1 := [some (pvR 124), some (pvI n1), some (pvI 0), some (pvI 99)]) (d1 := d) (rest := []) rfl rfl rfl rfl rfl (fun _ => rfl) (Nat.zero_le _) rfl rfl rfl (sf_X10_in_124_x_x_x M hok n1 0 99 d) ?_
  by_cases c6_ : n1 < 0
  · refine pw_eqI (if_pos c6_) ?_
    have b7_ : (-2147483648) ≤ Int32.toInt n1 ∧ Int32.toInt n1 ≤ (-1) := zr_lt_l (-1) c6_ (zbnd n1) (show 0 ≤ Int32.toInt 0 ∧ Int32.toInt 0 ≤ 0 from (by decide)) (by decide)
    show PW 63 d (8, [some (pvR 124), some (pvI n1)], [pvI 0], M) _
    refine pw_ifn hT (c := 0 = 0) rfl rfl (fun c8_ => absurd (by decide) c8_) (fun c8_ => ?_)
    refine pw_blk hT 1 (S' := (13, [some (pvR 124), some (pvI n1)], [pvI (-2)], M)) rfl ⟨trivial, trivial⟩ ?_
    exact pw_ret hT rfl (r := some (pvI (-2))) (M' := M) ⟨rfl, rfl⟩ ⟨⟨_, rfl, (zr_wide (show (-2) ≤ Int32.toInt (-2) ∧ Int32.toInt (-2) ≤ (-2) from (by decide)) (by decide) (by decide))⟩, hok, pvfr_0, (zwG_n (fun z => by have v := (zi_lt _ _).mp c6_; have w := z.1; have u0 : (0 : Int32).toInt = 0 := (by decide); have u99 : (99 : Int32).toInt = 99 := (by decide); have u9 : (9999 : Int32).toInt = 9999 := (by decide); omega))⟩
  · refine pw_eqI (if_neg c6_) ?_
    have b9_ : 0 ≤ Int32.toInt n1 ∧ Int32.toInt n1 ≤ 2147483647 := zr_nlt_l 0 c6_ (zbnd n1) (show 0 ≤ Int32.toInt 0 ∧ Int32.toInt 0 ≤ 0 from (by decide)) (by decide)
    by_cases c10_ : 99 < n1
    · refine pw_eqI (if_pos c10_) ?_
      have b11_ : 100 ≤ Int32.toInt n1 ∧ Int32.toInt n1 ≤ 2147483647 := zr_lt_r 100 c10_ b9_ (show 99 ≤ Int32.toInt 99 ∧ Int32.toInt 99 ≤ 99 from (by decide)) (by decide)
      show PW 63 d (8, [some (pvR 124), some (pvI n1)], [pvI 0], M) _
      refine pw_ifn hT (c := 0 = 0) rfl rfl (fun c12_ => absurd (by decide) c12_) (fun c12_ => ?_)
      refine pw_blk hT 1 (S' := (13, [some (pvR 124), some (pvI n1)], [pvI (-2)], M)) rfl ⟨trivial, trivial⟩ ?_
      exact pw_ret hT rfl (r := some (pvI (-2))) (M' := M) ⟨rfl, rfl⟩ ⟨⟨_, rfl, (zr_wide (show (-2) ≤ Int32.toInt (-2) ∧ Int32.toInt (-2) ≤ (-2) from (by decide)) (by decide) (by decide))⟩, hok, pvfr_0, (zwG_n (fun z => by have v := (zi_lt _ _).mp c10_; have w := z.1; have u0 : (0 : Int32).toInt = 0 := (by decide); have u99 : (99 : Int32).toInt = 99 := (by decide); have u9 : (9999 : Int32).toInt = 9999 := (by decide); omega))⟩
    · refine pw_eqI (if_neg c10_) ?_
      have b13_ : 0 ≤ Int32.toInt n1 ∧ Int32.toInt n1 ≤ 99 := zr_nlt_r 99 c10_ b9_ (show 99 ≤ Int32.toInt 99 ∧ Int32.toInt 99 ≤ 99 from (by decide)) (by decide)
      show PW 63 d (8, [some (pvR 124), some (pvI n1)], [pvI 1], M) _
      refine pw_ifn hT (c := 1 = 0) rfl rfl (fun c14_ => ?_) (fun c14_ => absurd c14_ (by decide))
      have b15_ : 0 ≤ Int32.toInt (M.1 124 1) ∧ Int32.toInt (M.1 124 1) ≤ 9999 := pvok_r hok 124 1 rfl
      obtain ⟨q17_, b16_⟩ : (Int32.toInt ((M.1 124 1) + n1) = Int32.toInt (M.1 124 1) + Int32.toInt n1) ∧ (0 ≤ Int32.toInt ((M.1 124 1) + n1) ∧ Int32.toInt ((M.1 124 1) + n1) ≤ 10098) := zadd_r (M.1 124 1) n1 0 10098 b15_ b13_ (by decide) (by decide) (by decide) (by decide)
      refine pw_blk hT 5 (S' := (23, [some (pvR 124), some (pvI n1)], [pvI 9999, pvI ((M.1 124 1) + n1)], M)) rfl ⟨trivial, rfl, trivial, trivial, trivial, trivial⟩ ?_
      refine pw_ic hT (c := ((M.1 124 1) + n1) ≤ 9999) rfl rfl (fun c18_ => ?_) (fun c18_ => ?_)
      · have b19_ : 0 ≤ Int32.toInt ((M.1 124 1) + n1) ∧ Int32.toInt ((M.1 124 1) + n1) ≤ 9999 := zr_le_l 9999 c18_ b16_ (show 9999 ≤ Int32.toInt 9999 ∧ Int32.toInt 9999 ≤ 9999 from (by decide)) (by decide)
        refine pw_blk hT 2 (S' := (33, [some (pvR 124), some (pvI n1)], [pvI n1, pvR 124], M)) rfl ⟨trivial, trivial, trivial⟩ ?_
        refine pw_callGd hT (as := [pvR 124, pvI n1]) (lo1 := [some (pvR 124), some (pvI n1), none]) (d1 := d) (rest := []) rfl rfl rfl rfl rfl (fun _ => rfl) (Nat.zero_le _) rfl rfl rfl (se_X10_goMinutes_124_x M hok n1 (zr_wide b13_ (by decide) (by decide)) hz (show Int32.toInt (M.1 124 1) + Int32.toInt n1 ≤ 9999 from (by omega)) d) (fun x21_ M22_ b23_ o24_ g25_ d20_ => ?_)
        have f26_ : pvFr fp_eX10_pass_124_x M M22_ := pvfr_t g25_ pvfr_0 fp_eX10_pass_124_x_fp_eX10_goMinutes_124_x
        exact pw_ret hT rfl (r := some (pvI x21_)) (M' := M22_) ⟨rfl, rfl⟩ ⟨⟨_, rfl, (zr_wide b23_ (by decide) (by decide))⟩, o24_, f26_, (zwG_i ⟨b13_, (show Int32.toInt (M.1 124 1) + Int32.toInt n1 ≤ 9999 from by have b := b19_; omega)⟩ (d20_) (g25_ 124 5 rfl) (g25_ 124 6 rfl) (fun i _ => congrFun (pvfr_row (L := fpL_eX10_goMinutes_124_x) g25_ rfl) i))⟩
      · have b27_ : 10000 ≤ Int32.toInt ((M.1 124 1) + n1) ∧ Int32.toInt ((M.1 124 1) + n1) ≤ 10098 := zr_nle_l 10000 c18_ b16_ (show 9999 ≤ Int32.toInt 9999 ∧ Int32.toInt 9999 ≤ 9999 from (by decide)) (by decide)
        refine pw_blk hT 2 (S' := (36, [some (pvR 124), some (pvI n1)], [pvI (-3)], M)) rfl ⟨trivial, trivial, trivial⟩ ?_
        exact pw_ret hT rfl (r := some (pvI (-3))) (M' := M) ⟨rfl, rfl⟩ ⟨⟨_, rfl, (zr_wide (show (-3) ≤ Int32.toInt (-3) ∧ Int32.toInt (-3) ≤ (-3) from (by decide)) (by decide) (by decide))⟩, hok, pvfr_0, (zwG_n (fun z => by have w : Int32.toInt (M.1 124 1) + Int32.toInt n1 ≤ 9999 := z.2; have b := b27_; omega))⟩
def fpL_eX10_put_124_x_x : List (Nat × Nat × Nat) := [(0, 131, 0)]
def fp_eX10_put_124_x_x (q k : Nat) : Bool := pvfp fpL_eX10_put_124_x_x q k
set_option maxHeartbeats 4000000 in
set_option maxRecDepth 10000 in
theorem se_X10_put_124_x_x (M : pvM) (hok : pvOk M) (n1 : Int32) (n2 : Int32) (hn2 : 0 ≤ Int32.toInt n2 ∧ Int32.toInt n2 ≤ 1) (d : Nat) : PW 66 d (0, [some (pvR 124), some (pvI n1), some (pvI n2), none], [], M) (fun r X => (∃ x : Int32, r = some (pvI x) ∧ (-1) ≤ Int32.toInt x ∧ Int32.toInt x ≤ 1) ∧ pvOk X ∧ pvFr fp_eX10_put_124_x_x M X ∧ zPT0 n1 n2 r M X) := by
  have hT : pvdom 66 = pvD_66 := rfl
  refine pw_blk hT 2 (S' := (2, [some (pvR 124), some (pvI n1), some (pvI n2), none], [pvI n1, pvR 124], M)) rfl ⟨trivial, trivial, trivial⟩ ?_
  refine pw_callT hT (as := [pvR 124, pvI n1]) (lo1 := [some (pvR 124), some (pvI n1)]) (d1 := d) (rest := []) rfl rfl rfl rfl rfl (fun _ => rfl) (Nat.zero_le _) rfl rfl rfl (sf_X10_isWindow_124_x M hok n1 d) ?_
  by_cases c6_ : n1 < 0
  · refine pw_eqI (if_pos c6_) ?_
    have b7_ : (-2147483648) ≤ Int32.toInt n1 ∧ Int32.toInt n1 ≤ (-1) := zr_lt_l (-1) c6_ (zbnd n1) (show 0 ≤ Int32.toInt 0 ∧ Int32.toInt 0 ≤ 0 from (by decide)) (by decide)
    show PW 66 d (5, [some (pvR 124), some (pvI n1), some (pvI n2), none], [pvI 0], M) _
    refine pw_ifn hT (c := 0 = 0) rfl rfl (fun c8_ => absurd (by decide) c8_) (fun c8_ => ?_)
    refine pw_blk hT 1 (S' := (9, [some (pvR 124), some (pvI n1), some (pvI n2), none], [pvI (-1)], M)) rfl ⟨trivial, trivial⟩ ?_
    exact pw_ret hT rfl (r := some (pvI (-1))) (M' := M) ⟨rfl, rfl⟩ ⟨⟨_, rfl, (zr_wide (show (-1) ≤ Int32.toInt (-1) ∧ Int32.toInt (-1) ≤ (-1) from (by decide)) (by decide) (by decide))⟩, hok, pvfr_0, ⟨zwP_n (zvl_l c6_), zpA_0 (zvl_l c6_)⟩⟩
  · refine pw_eqI (if_neg c6_) ?_
    have b9_ : 0 ≤ Int32.toInt n1 ∧ Int32.toInt n1 ≤ 2147483647 := zr_nlt_l 0 c6_ (zbnd n1) (show 0 ≤ Int32.toInt 0 ∧ Int32.toInt 0 ≤ 0 from (by decide)) (by decide)
    have b10_ : 0 ≤ Int32.toInt (M.1 124 0) ∧ Int32.toInt (M.1 124 0) ≤ 7 := pvok_r hok 124 0 rfl
    obtain ⟨q12_, b11_⟩ : (Int32.toInt ((M.1 124 0) - 1) = Int32.toInt (M.1 124 0) - 1) ∧ ((-1) ≤ Int32.toInt ((M.1 124 0) - 1) ∧ Int32.toInt ((M.1 124 0) - 1) ≤ 6) := zsub_k (M.1 124 0) 1 1 (-1) 6 b10_ (by decide) (by decide) (by decide) (by decide) (by decide)
    by_cases c13_ : ((M.1 124 0) - 1) < n1
    · refine pw_eqI (if_pos c13_) ?_
      have d14_ : Int32.toInt ((M.1 124 0) - 1) < Int32.toInt n1 := (zi_lt _ _).mp c13_
      show PW 66 d (5, [some (pvR 124), some (pvI n1), some (pvI n2), none], [pvI 0], M) _
      refine pw_ifn hT (c := 0 = 0) rfl rfl (fun c15_ => absurd (by decide) c15_) (fun c15_ => ?_)
      refine pw_blk hT 1 (S' := (9, [some (pvR 124), some (pvI n1), some (pvI n2), none], [pvI (-1)], M)) rfl ⟨trivial, trivial⟩ ?_
      exact pw_ret hT rfl (r := some (pvI (-1))) (M' := M) ⟨rfl, rfl⟩ ⟨⟨_, rfl, (zr_wide (show (-1) ≤ Int32.toInt (-1) ∧ Int32.toInt (-1) ≤ (-1) from (by decide)) (by decide) (by decide))⟩, hok, pvfr_0, ⟨zwP_n (zvl_u0 (pvok_r hok 124 0 (lo := 0) (hi := 7) rfl).1 c13_), zpA_0 (zvl_u0 (pvok_r hok 124 0 (lo := 0) (hi := 7) rfl).1 c13_)⟩⟩
    · refine pw_eqI (if_neg c13_) ?_
      have b16_ : 0 ≤ Int32.toInt ((M.1 124 0) - 1) ∧ Int32.toInt ((M.1 124 0) - 1) ≤ 6 := zr_nlt_l 0 c13_ b11_ b9_ (by decide)
      have b17_ : 0 ≤ Int32.toInt n1 ∧ Int32.toInt n1 ≤ 6 := zr_nlt_r 6 c13_ b9_ b16_ (by decide)
      have d18_ : Int32.toInt ((M.1 124 0) - 1) ≥ Int32.toInt n1 := Int.not_lt.mp ((not_congr (zi_lt _ _)).mp c13_)
      show PW 66 d (5, [some (pvR 124), some (pvI n1), some (pvI n2), none], [pvI 1], M) _
      refine pw_ifn hT (c := 1 = 0) rfl rfl (fun c19_ => ?_) (fun c19_ => absurd c19_ (by decide))
      have b20_ : 0 ≤ Int32.toInt (M.1 131 (Int32.toNatClampNeg n1)) ∧ Int32.toInt (M.1 131 (Int32.toNatClampNeg n1)) ≤ 1 := pvok_r hok 131 (Int32.toNatClampNeg n1) rfl
      refine pw_blk hT 4 (S' := (16, [some (pvR 124), some (pvI n1), some (pvI n2), none], [pvI (M.1 131 (Int32.toNatClampNeg n1))], M)) rfl ⟨trivial, rfl, trivial, ⟨rfl, (zr_in (n := 7) b17_ (by decide) (by decide))⟩, trivial⟩ ?_
      refine pw_if hT (c := (M.1 131 (Int32.toNatClampNeg n1)) = 0) rfl rfl (fun c21_ => ?_) (fun c21_ => ?_)
      · have b22_ : 0 ≤ Int32.toInt (M.1 131 (Int32.toNatClampNeg n1)) ∧ Int32.toInt (M.1 131 (Int32.toNatClampNeg n1)) ≤ 0 := (by have u0 := b20_; have u1 := (zi_eq _ _).mp c21_; have u2 := (show 0 ≤ Int32.toInt 0 ∧ Int32.toInt 0 ≤ 0 from (by decide)); omega)
        refine pw_blkw hT 7 (pc := 32) (lo := [some (pvR 124), some (pvI n1), some (pvI n2), some (pvI 0)]) (st := []) (M := pvu M 131 (Int32.toNatClampNeg n1) (vp_nar .boolean n2)) rfl ⟨trivial, trivial, trivial, rfl, trivial, trivial, ⟨rfl, (zr_in (n := 7) b17_ (by decide) (by decide))⟩, trivial⟩ (fun M23_ e24_ => ?_)
        have o25_ : pvOk M23_ := pvok_u2 e24_ hok rfl (zboolr n2)
        have f26_ : pvFr fp_eX10_put_124_x_x M M23_ := pvfr_u e24_ pvfr_0 rfl
        refine pw_blk hT 1 (S' := (33, [some (pvR 124), some (pvI n1), some (pvI n2), some (pvI 0)], [pvI 0], M23_)) rfl ⟨trivial, trivial⟩ ?_
        exact pw_ret hT rfl (r := some (pvI 0)) (M' := M23_) ⟨rfl, rfl⟩ ⟨⟨_, rfl, (zr_wide (show 0 ≤ Int32.toInt 0 ∧ Int32.toInt 0 ≤ 0 from (by decide)) (by decide) (by decide))⟩, o25_, f26_, ⟨zwP_i (zvl_y0 (pvok_r hok 124 0 (lo := 0) (hi := 7) rfl).1 c6_ c13_) (pvu_n e24_ 124 1 (Or.inl (by decide))) (pvu_n e24_ 124 5 (Or.inl (by decide))) (pvu_n e24_ 124 6 (Or.inl (by decide))) (zVu1 e24_ (zvnar hn2) (fun _ => rfl) (fun _ => rfl)), (zpA_1 (zvl_y0 (pvok_r hok 124 0 (lo := 0) (hi := 7) rfl).1 c6_ c13_) c21_.symm)⟩⟩
      · have b27_ : 1 ≤ Int32.toInt (M.1 131 (Int32.toNatClampNeg n1)) ∧ Int32.toInt (M.1 131 (Int32.toNatClampNeg n1)) ≤ 1 := (by have u0 := b20_; have u1 := (not_congr (zi_eq _ _)).mp c21_; have u2 := (show 0 ≤ Int32.toInt 0 ∧ Int32.toInt 0 ≤ 0 from (by decide)); omega)
        refine pw_blkw hT 8 (pc := 32) (lo := [some (pvR 124), some (pvI n1), some (pvI n2), some (pvI 1)]) (st := []) (M := pvu M 131 (Int32.toNatClampNeg n1) (vp_nar .boolean n2)) rfl ⟨trivial, trivial, trivial, trivial, rfl, trivial, trivial, ⟨rfl, (zr_in (n := 7) b17_ (by decide) (by decide))⟩, trivial⟩ (fun M28_ e29_ => ?_)
        have o30_ : pvOk M28_ := pvok_u2 e29_ hok rfl (zboolr n2)
        have f31_ : pvFr fp_eX10_put_124_x_x M M28_ := pvfr_u e29_ pvfr_0 rfl
        refine pw_blk hT 1 (S' := (33, [some (pvR 124), some (pvI n1), some (pvI n2), some (pvI 1)], [pvI 1], M28_)) rfl ⟨trivial, trivial⟩ ?_
        exact pw_ret hT rfl (r := some (pvI 1)) (M' := M28_) ⟨rfl, rfl⟩ ⟨⟨_, rfl, (zr_wide (show 1 ≤ Int32.toInt 1 ∧ Int32.toInt 1 ≤ 1 from (by decide)) (by decide) (by decide))⟩, o30_, f31_, ⟨zwP_i (zvl_y0 (pvok_r hok 124 0 (lo := 0) (hi := 7) rfl).1 c6_ c13_) (pvu_n e29_ 124 1 (Or.inl (by decide))) (pvu_n e29_ 124 5 (Or.inl (by decide))) (pvu_n e29_ 124 6 (Or.inl (by decide))) (zVu1 e29_ (zvnar hn2) (fun _ => rfl) (fun _ => rfl)), (zpA_1 (zvl_y0 (pvok_r hok 124 0 (lo := 0) (hi := 7) rfl).1 c6_ c13_) (zone1 b27_))⟩⟩
set_option maxHeartbeats 4000000 in
set_option maxRecDepth 10000 in
theorem se_X10_read_124_x_x (M : pvM) (hok : pvOk M) (n1 : Int32) (n2 : Int32) (d : Nat) : PW 68 d (0, [some (pvR 124), some (pvI n1), some (pvI n2)], [], M) (fun r X => (∃ x : Int64, r = some (pvJ x) ∧ x = (if n1 < 0 then (-9223372036854775808) else (if 5 < n1 then (-9223372036854775808) else (if (M.1 164 (Int32.toNatClampNeg n1)) < 0 then (-9223372036854775808) else (if n2 < 0 then (-9223372036854775808) else (if ((M.1 165 (Int32.toNatClampNeg n1)) - 1) < n2 then (-9223372036854775808) else (M.2 166 (Int32.toNatClampNeg ((60 * n1) + n2))))))))) ∧ X = M) := by
  have hT : pvdom 68 = pvD_68 := rfl
  refine pw_blk hT 2 (S' := (2, [some (pvR 124), some (pvI n1), some (pvI n2)], [pvI n1, pvR 124], M)) rfl ⟨trivial, trivial, trivial⟩ ?_
  refine pw_callT hT (as := [pvR 124, pvI n1]) (lo1 := [some (pvR 124), some (pvI n1)]) (d1 := d) (rest := []) rfl rfl rfl rfl rfl (fun _ => rfl) (Nat.zero_le _) rfl rfl rfl (sf_X10_isTape_124_x M hok n1 d) ?_
  by_cases c6_ : n1 < 0
  · refine pw_eqI (if_pos c6_) ?_
    have b7_ : (-2147483648) ≤ Int32.toInt n1 ∧ Int32.toInt n1 ≤ (-1) := zr_lt_l (-1) c6_ (zbnd n1) (show 0 ≤ Int32.toInt 0 ∧ Int32.toInt 0 ≤ 0 from (by decide)) (by decide)
    show PW 68 d (5, [some (pvR 124), some (pvI n1), some (pvI n2)], [pvI 0], M) _
    refine pw_if hT (c := 0 = 0) rfl rfl (fun c8_ => ?_) (fun c8_ => absurd (by decide) c8_)
    refine pw_blk hT 2 (S' := (51, [some (pvR 124), some (pvI n1), some (pvI n2)], [pvJ (-9223372036854775808)], M)) rfl ⟨trivial, trivial, trivial⟩ ?_
    exact pw_ret hT rfl (r := some (pvJ (-9223372036854775808))) (M' := M) ⟨rfl, rfl⟩ ⟨⟨_, rfl, (by rw [if_pos c6_]; first | done | (rw [if_pos c6_]; done))⟩, rfl⟩
  · refine pw_eqI (if_neg c6_) ?_
    have b9_ : 0 ≤ Int32.toInt n1 ∧ Int32.toInt n1 ≤ 2147483647 := zr_nlt_l 0 c6_ (zbnd n1) (show 0 ≤ Int32.toInt 0 ∧ Int32.toInt 0 ≤ 0 from (by decide)) (by decide)
    by_cases c10_ : 5 < n1
    · refine pw_eqI (if_pos c10_) ?_
      have b11_ : 6 ≤ Int32.toInt n1 ∧ Int32.toInt n1 ≤ 2147483647 := zr_lt_r 6 c10_ b9_ (show 5 ≤ Int32.toInt 5 ∧ Int32.toInt 5 ≤ 5 from (by decide)) (by decide)
      show PW 68 d (5, [some (pvR 124), some (pvI n1), some (pvI n2)], [pvI 0], M) _
      refine pw_if hT (c := 0 = 0) rfl rfl (fun c12_ => ?_) (fun c12_ => absurd (by decide) c12_)
      refine pw_blk hT 2 (S' := (51, [some (pvR 124), some (pvI n1), some (pvI n2)], [pvJ (-9223372036854775808)], M)) rfl ⟨trivial, trivial, trivial⟩ ?_
      exact pw_ret hT rfl (r := some (pvJ (-9223372036854775808))) (M' := M) ⟨rfl, rfl⟩ ⟨⟨_, rfl, (by rw [if_neg c6_, if_pos c10_]; first | done | (rw [if_pos c10_]; done))⟩, rfl⟩
    · refine pw_eqI (if_neg c10_) ?_
      have b13_ : 0 ≤ Int32.toInt n1 ∧ Int32.toInt n1 ≤ 5 := zr_nlt_r 5 c10_ b9_ (show 5 ≤ Int32.toInt 5 ∧ Int32.toInt 5 ≤ 5 from (by decide)) (by decide)
      show PW 68 d (5, [some (pvR 124), some (pvI n1), some (pvI n2)], [pvI 1], M) _
      refine pw_if hT (c := 1 = 0) rfl rfl (fun c14_ => absurd c14_ (by decide)) (fun c14_ => ?_)
      have b15_ : (-1) ≤ Int32.toInt (M.1 164 (Int32.toNatClampNeg n1)) ∧ Int32.toInt (M.1 164 (Int32.toNatClampNeg n1)) ≤ 4 := pvok_r hok 164 (Int32.toNatClampNeg n1) rfl
      refine pw_blk hT 4 (S' := (14, [some (pvR 124), some (pvI n1), some (pvI n2)], [pvI (M.1 164 (Int32.toNatClampNeg n1))], M)) rfl ⟨trivial, rfl, trivial, ⟨rfl, (zr_in (n := 6) b13_ (by decide) (by decide))⟩, trivial⟩ ?_
      refine pw_if hT (c := (M.1 164 (Int32.toNatClampNeg n1)) < 0) rfl rfl (fun c16_ => ?_) (fun c16_ => ?_)
      · have b17_ : (-1) ≤ Int32.toInt (M.1 164 (Int32.toNatClampNeg n1)) ∧ Int32.toInt (M.1 164 (Int32.toNatClampNeg n1)) ≤ (-1) := zr_lt_l (-1) c16_ b15_ (show 0 ≤ Int32.toInt 0 ∧ Int32.toInt 0 ≤ 0 from (by decide)) (by decide)
        refine pw_blk hT 2 (S' := (51, [some (pvR 124), some (pvI n1), some (pvI n2)], [pvJ (-9223372036854775808)], M)) rfl ⟨trivial, trivial, trivial⟩ ?_
        exact pw_ret hT rfl (r := some (pvJ (-9223372036854775808))) (M' := M) ⟨rfl, rfl⟩ ⟨⟨_, rfl, (by rw [if_neg c6_, if_neg c10_, if_pos c16_]; first | done | (rw [if_pos c16_]; done))⟩, rfl⟩
      · have b18_ : 0 ≤ Int32.toInt (M.1 164 (Int32.toNatClampNeg n1)) ∧ Int32.toInt (M.1 164 (Int32.toNatClampNeg n1)) ≤ 4 := zr_nlt_l 0 c16_ b15_ (show 0 ≤ Int32.toInt 0 ∧ Int32.toInt 0 ≤ 0 from (by decide)) (by decide)
        have b19_ : 0 ≤ Int32.toInt (M.1 165 (Int32.toNatClampNeg n1)) ∧ Int32.toInt (M.1 165 (Int32.toNatClampNeg n1)) ≤ 60 := pvok_r hok 165 (Int32.toNatClampNeg n1) rfl
        obtain ⟨q21_, b20_⟩ : (Int32.toInt ((M.1 165 (Int32.toNatClampNeg n1)) - 1) = Int32.toInt (M.1 165 (Int32.toNatClampNeg n1)) - 1) ∧ ((-1) ≤ Int32.toInt ((M.1 165 (Int32.toNatClampNeg n1)) - 1) ∧ Int32.toInt ((M.1 165 (Int32.toNatClampNeg n1)) - 1) ≤ 59) := zsub_k (M.1 165 (Int32.toNatClampNeg n1)) 1 1 (-1) 59 b19_ (by decide) (by decide) (by decide) (by decide) (by decide)
        refine pw_blk hT 9 (S' := (28, [some (pvR 124), some (pvI n1), some (pvI n2)], [pvI ((M.1 165 (Int32.toNatClampNeg n1)) - 1), pvI 0, pvI n2, pvR 124], M)) rfl ⟨trivial, trivial, trivial, trivial, rfl, trivial, ⟨rfl, (zr_in (n := 6) b13_ (by decide) (by decide))⟩, trivial, trivial, trivial⟩ ?_
        refine pw_callT hT (as := [pvR 124, pvI n2, pvI 0, pvI ((M.1 165 (Int32.toNatClampNeg n1)) - 1)]) (lo1 := [some (pvR 124), some (pvI n2), some (pvI 0), some (pvI ((M.1 165 (Int32.toNatClampNeg n1)) - 1))]) (d1 := d) (rest := []) rfl rfl rfl rfl rfl (fun _ => rfl) (Nat.zero_le _) rfl rfl rfl (sf_X10_in_124_x_x_x M hok n2 0 ((M.1 165 (Int32.toNatClampNeg n1)) - 1) d) ?_
        by_cases c27_ : n2 < 0
        · refine pw_eqI (if_pos c27_) ?_
          have b28_ : (-2147483648) ≤ Int32.toInt n2 ∧ Int32.toInt n2 ≤ (-1) := zr_lt_l (-1) c27_ (zbnd n2) (show 0 ≤ Int32.toInt 0 ∧ Int32.toInt 0 ≤ 0 from (by decide)) (by decide)
          show PW 68 d (31, [some (pvR 124), some (pvI n1), some (pvI n2)], [pvI 0], M) _
          refine pw_ifn hT (c := 0 = 0) rfl rfl (fun c29_ => absurd (by decide) c29_) (fun c29_ => ?_)
          refine pw_blk hT 2 (S' := (51, [some (pvR 124), some (pvI n1), some (pvI n2)], [pvJ (-9223372036854775808)], M)) rfl ⟨trivial, trivial, trivial⟩ ?_
          exact pw_ret hT rfl (r := some (pvJ (-9223372036854775808))) (M' := M) ⟨rfl, rfl⟩ ⟨⟨_, rfl, (by rw [if_neg c6_, if_neg c10_, if_neg c16_, if_pos c27_]; first | done | (rw [if_pos c27_]; done))⟩, rfl⟩
        · refine pw_eqI (if_neg c27_) ?_
          have b30_ : 0 ≤ Int32.toInt n2 ∧ Int32.toInt n2 ≤ 2147483647 := zr_nlt_l 0 c27_ (zbnd n2) (show 0 ≤ Int32.toInt 0 ∧ Int32.toInt 0 ≤ 0 from (by decide)) (by decide)
          by_cases c31_ : ((M.1 165 (Int32.toNatClampNeg n1)) - 1) < n2
          · refine pw_eqI (if_pos c31_) ?_
            have d32_ : Int32.toInt ((M.1 165 (Int32.toNatClampNeg n1)) - 1) < Int32.toInt n2 := (zi_lt _ _).mp c31_
            show PW 68 d (31, [some (pvR 124), some (pvI n1), some (pvI n2)], [pvI 0], M) _
            refine pw_ifn hT (c := 0 = 0) rfl rfl (fun c33_ => absurd (by decide) c33_) (fun c33_ => ?_)
            refine pw_blk hT 2 (S' := (51, [some (pvR 124), some (pvI n1), some (pvI n2)], [pvJ (-9223372036854775808)], M)) rfl ⟨trivial, trivial, trivial⟩ ?_
            exact pw_ret hT rfl (r := some (pvJ (-9223372036854775808))) (M' := M) ⟨rfl, rfl⟩ ⟨⟨_, rfl, (by rw [if_neg c6_, if_neg c10_, if_neg c16_, if_neg c27_, if_pos c31_]; first | done | (rw [if_pos c31_]; done))⟩, rfl⟩
          · refine pw_eqI (if_neg c31_) ?_
            have b34_ : 0 ≤ Int32.toInt ((M.1 165 (Int32.toNatClampNeg n1)) - 1) ∧ Int32.toInt ((M.1 165 (Int32.toNatClampNeg n1)) - 1) ≤ 59 := zr_nlt_l 0 c31_ b20_ b30_ (by decide)
            have b35_ : 0 ≤ Int32.toInt n2 ∧ Int32.toInt n2 ≤ 59 := zr_nlt_r 59 c31_ b30_ b34_ (by decide)
            have d36_ : Int32.toInt ((M.1 165 (Int32.toNatClampNeg n1)) - 1) ≥ Int32.toInt n2 := Int.not_lt.mp ((not_congr (zi_lt _ _)).mp c31_)
            show PW 68 d (31, [some (pvR 124), some (pvI n1), some (pvI n2)], [pvI 1], M) _
            refine pw_ifn hT (c := 1 = 0) rfl rfl (fun c37_ => ?_) (fun c37_ => absurd c37_ (by decide))
            have q38_ : Int32.toInt (60 * n1) = 60 * Int32.toInt n1 := by have u0 : Int32.toInt 60 = 60 := (by decide); have u1 := b13_; have u2 := zmul 60 n1 (by rw [u0]; omega) (by rw [u0]; omega); rw [u0] at u2; omega
            have b39_ : 0 ≤ Int32.toInt (60 * n1) ∧ Int32.toInt (60 * n1) ≤ 300 := (by have u1 := b13_; omega)
            obtain ⟨q41_, b40_⟩ : (Int32.toInt ((60 * n1) + n2) = Int32.toInt (60 * n1) + Int32.toInt n2) ∧ (0 ≤ Int32.toInt ((60 * n1) + n2) ∧ Int32.toInt ((60 * n1) + n2) ≤ 359) := zadd_r (60 * n1) n2 0 359 b39_ b35_ (by decide) (by decide) (by decide) (by decide)
            refine pw_blk hT 8 (S' := (51, [some (pvR 124), some (pvI n1), some (pvI n2)], [pvJ (M.2 166 (Int32.toNatClampNeg ((60 * n1) + n2)))], M)) rfl ⟨trivial, rfl, trivial, trivial, trivial, trivial, trivial, ⟨rfl, (zr_in (n := 360) b40_ (by decide) (by decide))⟩, trivial⟩ ?_
            exact pw_ret hT rfl (r := some (pvJ (M.2 166 (Int32.toNatClampNeg ((60 * n1) + n2))))) (M' := M) ⟨rfl, rfl⟩ ⟨⟨_, rfl, (by rw [if_neg c6_, if_neg c10_, if_neg c16_, if_neg c27_, if_neg c31_]; first | done | (rw [if_neg c31_]; done))⟩, rfl⟩
