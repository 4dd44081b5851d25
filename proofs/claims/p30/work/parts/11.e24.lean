def fpL_eX9_image_0 : List (Nat × Nat × Nat) := [(0, 0, 6), (0, 101, 1), (0, 103, 1), (0, 105, 1), (0, 109, 0), (0, 111, 0), (0, 113, 0), (0, 117, 0), (0, 119, 0), (0, 121, 0), (0, 74, 1), (0, 74, 2), (0, 74, 3), (0, 74, 4), (0, 74, 5), (0, 74, 6), (0, 75, 1), (0, 75, 2), (0, 75, 3), (0, 75, 4), (0, 75, 5), (0, 75, 6), (0, 76, 1), (0, 76, 2), (0, 76, 3), (0, 76, 4), (0, 76, 5), (0, 76, 6), (0, 77, 1), (0, 77, 2), (0, 77, 3), (0, 77, 4), (0, 77, 5), (0, 77, 6), (0, 78, 1), (0, 78, 2), (0, 78, 3), (0, 78, 4), (0, 78, 5), (0, 78, 6), (0, 79, 1), (0, 79, 2), (0, 79, 3), (0, 79, 4), (0, 79, 5), (0, 79, 6), (0, 80, 1), (0, 80, 2), (0, 80, 3), (0, 80, 4), (0, 80, 5), (0, 80, 6), (0, 81, 0), (0, 82, 0), (0, 83, 0), (0, 84, 0), (0, 85, 0), (0, 86, 0), (0, 87, 0), (0, 9, 2), (0, 9, 3), (0, 9, 4), (0, 9, 5), (0, 9, 6), (0, 9, 7), (0, 9, 8), (0, 9, 9)]
def fp_eX9_image_0 (q k : Nat) : Bool := pvfp fpL_eX9_image_0 q k
theorem fp_eX9_image_0_fp_eX7_becomeAs_9_8 (a b : Nat) (h : fp_eX7_becomeAs_9_8 a b = true) : fp_eX9_image_0 a b = true := pvfp_sub (l1 := fpL_eX7_becomeAs_9_8) (l2 := fpL_eX9_image_0) (by decide) a b h
set_option maxHeartbeats 4000000 in
set_option maxRecDepth 10000 in
theorem se_X9_image_0 (M : pvM) (hok : pvOk M) (d : Nat) : PW 178 d (0, [some (pvR 0)], [], M) (fun r X => (∃ x : Int32, r = some (pvI x) ∧ (0 ≤ Int32.toInt x ∧ Int32.toInt x ≤ 7) ∧ x = (M.1 8 1)) ∧ pvOk X ∧ pvFr fp_eX9_image_0 M X ∧ zC 74 60 (M.1 8 1) M X ∧ zC1 109 108 (Int32.toNatClampNeg (M.1 100 0)) M X ∧ zC1 117 116 (Int32.toNatClampNeg (M.1 100 0)) M X ∧ zC1 111 110 (Int32.toNatClampNeg (M.1 102 0)) M X ∧ zC1 119 118 (Int32.toNatClampNeg (M.1 102 0)) M X ∧ zC1 113 112 (Int32.toNatClampNeg (M.1 104 0)) M X ∧ zC1 121 120 (Int32.toNatClampNeg (M.1 104 0)) M X ∧ zwC (M.1 8 1) (zw9 8 60 M) (zw9 9 74 X) ∧ zKi9 M X ∧ X.1 9 1 = (M.1 8 1) ∧ X.1 9 2 = (M.1 8 2) ∧ X.1 9 3 = (M.1 8 3) ∧ X.1 0 5 = 1 ∧ X.1 103 0 = (M.1 102 0) ∧ X.1 105 0 = (M.1 104 0) ∧ X.1 101 0 = (M.1 100 0)) := by
  have hT : pvdom 178 = pvD_178 := rfl
  refine pw_blk hT 4 (S' := (8, [some (pvR 0)], [pvR 8, pvR 9], M)) rfl ⟨trivial, rfl, trivial, rfl, trivial⟩ ?_
  refine pw_callVd hT (as := [pvR 9, pvR 8]) (lo1 := [some (pvR 9), some (pvR 8), none]) (d1 := d) (rest := []) rfl rfl rfl rfl rfl (fun _ => rfl) (Nat.zero_le _) rfl rfl rfl (se_X7_becomeAs_9_8 M hok d) (fun M3_ o5_ g6_ d1_ => ?_)
  have f7_ : pvFr fp_eX9_image_0 M M3_ := pvfr_t g6_ pvfr_0 fp_eX9_image_0_fp_eX7_becomeAs_9_8
  refine pw_blkw hT 3 (pc := 16) (lo := [some (pvR 0)]) (st := []) (M := pvu M3_ 0 5 1) rfl ⟨trivial, trivial, ⟨rfl, Or.inr rfl⟩, trivial⟩ (fun M8_ e9_ => ?_)
  have o10_ : pvOk M8_ := pvok_u2 e9_ o5_ rfl (zr_wide (show 1 ≤ Int32.toInt 1 ∧ Int32.toInt 1 ≤ 1 from (by decide)) (by decide) (by decide))
  have f11_ : pvFr fp_eX9_image_0 M M8_ := pvfr_u e9_ f7_ rfl
  have b12_ : 0 ≤ Int32.toInt (M8_.1 8 1) ∧ Int32.toInt (M8_.1 8 1) ≤ 7 := pvok_r o10_ 8 1 rfl
  refine pw_blk hT 3 (S' := (23, [some (pvR 0)], [pvI (M8_.1 8 1)], M8_)) rfl ⟨trivial, rfl, rfl, trivial⟩ ?_
  exact pw_ret hT rfl (r := some (pvI (M8_.1 8 1))) (M' := M8_) ⟨rfl, rfl⟩ ⟨⟨_, rfl, b12_, (show (M8_.1 8 1) = (M.1 8 1) from by rw [((pvu_n e9_ 8 1 (Or.inl (by decide))).trans (g6_ 8 1 rfl))])⟩, o10_, f11_, (zC_k d1_.1 (fun i hi => ⟨fun f hf => pvu_n e9_ (74 + i) f (Or.inl (by omega)), fun j hj => pvu_n e9_ (74 + 7 + i) j (Or.inl (by omega))⟩)), (zC1_g d1_.2.1 (fun i => pvu_n e9_ 109 i (Or.inl (by decide)))), (zC1_g d1_.2.2.1 (fun i => pvu_n e9_ 117 i (Or.inl (by decide)))), (zC1_g d1_.2.2.2.1 (fun i => pvu_n e9_ 111 i (Or.inl (by decide)))), (zC1_g d1_.2.2.2.2.1 (fun i => pvu_n e9_ 119 i (Or.inl (by decide)))), (zC1_g d1_.2.2.2.2.2.1 (fun i => pvu_n e9_ 113 i (Or.inl (by decide)))), (zC1_g d1_.2.2.2.2.2.2.1 (fun i => pvu_n e9_ 121 i (Or.inl (by decide)))), (zwC_i ((pvu_n e9_ 9 4 (Or.inl (by decide))).trans (d1_.2.2.2.2.2.2.2.2.2.2.2.2.2.2.2.1)) ((pvu_n e9_ 9 6 (Or.inl (by decide))).trans (d1_.2.2.2.2.2.2.2.2.2.2.2.2.2.2.2.2.1)) ((pvu_n e9_ 9 7 (Or.inl (by decide))).trans (d1_.2.2.2.2.2.2.2.2.2.2.2.2.2.2.2.2.2)) (fun i hi => match i, hi with | 0, _ => fun hl => ((pvu_n e9_ 74 5 (Or.inl (by decide)))).trans (d1_.2.2.2.2.2.2.2.1 0 (by decide) hl) | 1, _ => fun hl => ((pvu_n e9_ 75 5 (Or.inl (by decide)))).trans (d1_.2.2.2.2.2.2.2.1 1 (by decide) hl) | 2, _ => fun hl => ((pvu_n e9_ 76 5 (Or.inl (by decide)))).trans (d1_.2.2.2.2.2.2.2.1 2 (by decide) hl) | 3, _ => fun hl => ((pvu_n e9_ 77 5 (Or.inl (by decide)))).trans (d1_.2.2.2.2.2.2.2.1 3 (by decide) hl) | 4, _ => fun hl => ((pvu_n e9_ 78 5 (Or.inl (by decide)))).trans (d1_.2.2.2.2.2.2.2.1 4 (by decide) hl) | 5, _ => fun hl => ((pvu_n e9_ 79 5 (Or.inl (by decide)))).trans (d1_.2.2.2.2.2.2.2.1 5 (by decide) hl) | 6, _ => fun hl => ((pvu_n e9_ 80 5 (Or.inl (by decide)))).trans (d1_.2.2.2.2.2.2.2.1 6 (by decide) hl) | i + 7, z => absurd z (by omega))), ⟨((pvu_n e9_ 0 1 (Or.inr (by decide))).trans (g6_ 0 1 rfl)), ((pvu_n e9_ 8 8 (Or.inl (by decide))).trans (g6_ 8 8 rfl)), ((pvu_n e9_ 9 8 (Or.inl (by decide))).trans (d1_.2.2.2.2.2.2.2.2.1)), (fun a c h1 h2 => ((pvu_n e9_ a c (Or.inl (by omega))).trans (zfr36 (L := fpL_eX7_becomeAs_9_8) g6_ (by decide +kernel) a c h1 h2)))⟩, ((pvu_n e9_ 9 1 (Or.inl (by decide))).trans (d1_.2.2.2.2.2.2.2.2.2.1)), ((pvu_n e9_ 9 2 (Or.inl (by decide))).trans (d1_.2.2.2.2.2.2.2.2.2.2.1)), ((pvu_n e9_ 9 3 (Or.inl (by decide))).trans (d1_.2.2.2.2.2.2.2.2.2.2.2.1)), (pvu_s e9_), ((pvu_n e9_ 103 0 (Or.inl (by decide))).trans (d1_.2.2.2.2.2.2.2.2.2.2.2.2.1)), ((pvu_n e9_ 105 0 (Or.inl (by decide))).trans (d1_.2.2.2.2.2.2.2.2.2.2.2.2.2.1)), ((pvu_n e9_ 101 0 (Or.inl (by decide))).trans (d1_.2.2.2.2.2.2.2.2.2.2.2.2.2.2.1))⟩
set_option maxHeartbeats 4000000 in
set_option maxRecDepth 10000 in
theorem se_X8_asItem_x_x (M : pvM) (hok : pvOk M) (q0 : Nat) (n1 : Int64) (hq0 : pvkl q0 = 7) (d : Nat) : PW 161 d (0, [some (pvR q0), some (pvJ n1), none], [], M) (fun r X => (∃ x : Int64, r = some (pvJ x) ∧ x = (if (M.1 q0 0) = 0 then (Int32.toInt64 (Int8.toInt32 (Int32.toInt8 (Int64.toInt32 n1)))) else (if (M.1 q0 0) = 1 then (Int32.toInt64 (Int16.toInt32 (Int32.toInt16 (Int64.toInt32 n1)))) else (if (M.1 q0 0) = 2 then (Int32.toInt64 (Int64.toInt32 n1)) else (if (M.1 q0 0) = 3 then n1 else (if (M.1 q0 0) = 4 then (if (lg_cmp n1 0) = 0 then 0 else 1) else n1)))))) ∧ X = M) := by
  have hT : pvdom 161 = pvD_161 := rfl
  have b1_ : (-1) ≤ Int32.toInt (M.1 q0 0) ∧ Int32.toInt (M.1 q0 0) ≤ 4 := pvok_r hok q0 0 ((pvrg_o 0 hq0 (by decide) (by decide)).trans rfl)
  refine pw_blk hT 2 (S' := (4, [some (pvR q0), some (pvJ n1), none], [pvI (M.1 q0 0)], M)) rfl ⟨trivial, hq0, trivial⟩ ?_
  refine pw_sw hT rfl rfl ?_
  refine And.intro (fun c2_ => ?_) (fun c2_ => ?_)
  · show PW 161 d (40, [some (pvR q0), some (pvJ n1), none], [], M) _
    have b3_ : 0 ≤ Int32.toInt (M.1 q0 0) ∧ Int32.toInt (M.1 q0 0) ≤ 0 := (by have u0 := b1_; have u1 := (zi_eq _ _).mp c2_; have u2 := (show 0 ≤ Int32.toInt 0 ∧ Int32.toInt 0 ≤ 0 from (by decide)); omega)
    refine pw_blk hT 4 (S' := (44, [some (pvR q0), some (pvJ n1), none], [pvJ (Int32.toInt64 (Int8.toInt32 (Int32.toInt8 (Int64.toInt32 n1))))], M)) rfl ⟨trivial, trivial, trivial, trivial, trivial⟩ ?_
    exact pw_ret hT rfl (r := some (pvJ (Int32.toInt64 (Int8.toInt32 (Int32.toInt8 (Int64.toInt32 n1)))))) (M' := M) ⟨rfl, rfl⟩ ⟨⟨_, rfl, (by rw [if_pos c2_]; first | done | (rw [if_pos c2_]; done))⟩, rfl⟩
  · refine And.intro (fun c4_ => ?_) (fun c4_ => ?_)
    · show PW 161 d (45, [some (pvR q0), some (pvJ n1), none], [], M) _
      have b5_ : 1 ≤ Int32.toInt (M.1 q0 0) ∧ Int32.toInt (M.1 q0 0) ≤ 1 := (by have u0 := b1_; have u1 := (zi_eq _ _).mp c4_; have u2 := (show 1 ≤ Int32.toInt 1 ∧ Int32.toInt 1 ≤ 1 from (by decide)); omega)
      refine pw_blk hT 4 (S' := (49, [some (pvR q0), some (pvJ n1), none], [pvJ (Int32.toInt64 (Int16.toInt32 (Int32.toInt16 (Int64.toInt32 n1))))], M)) rfl ⟨trivial, trivial, trivial, trivial, trivial⟩ ?_
      exact pw_ret hT rfl (r := some (pvJ (Int32.toInt64 (Int16.toInt32 (Int32.toInt16 (Int64.toInt32 n1)))))) (M' := M) ⟨rfl, rfl⟩ ⟨⟨_, rfl, (by rw [if_neg c2_, if_pos c4_]; first | done | (rw [if_pos c4_]; done))⟩, rfl⟩
    · refine And.intro (fun c6_ => ?_) (fun c6_ => ?_)
      · show PW 161 d (50, [some (pvR q0), some (pvJ n1), none], [], M) _
        have b7_ : 2 ≤ Int32.toInt (M.1 q0 0) ∧ Int32.toInt (M.1 q0 0) ≤ 2 := (by have u0 := b1_; have u1 := (zi_eq _ _).mp c6_; have u2 := (show 2 ≤ Int32.toInt 2 ∧ Int32.toInt 2 ≤ 2 from (by decide)); omega)
        refine pw_blk hT 3 (S' := (53, [some (pvR q0), some (pvJ n1), none], [pvJ (Int32.toInt64 (Int64.toInt32 n1))], M)) rfl ⟨trivial, trivial, trivial, trivial⟩ ?_
        exact pw_ret hT rfl (r := some (pvJ (Int32.toInt64 (Int64.toInt32 n1)))) (M' := M) ⟨rfl, rfl⟩ ⟨⟨_, rfl, (by rw [if_neg c2_, if_neg c4_, if_pos c6_]; first | done | (rw [if_pos c6_]; done))⟩, rfl⟩
      · refine And.intro (fun c8_ => ?_) (fun c8_ => ?_)
        · show PW 161 d (66, [some (pvR q0), some (pvJ n1), none], [], M) _
          have b9_ : 3 ≤ Int32.toInt (M.1 q0 0) ∧ Int32.toInt (M.1 q0 0) ≤ 3 := (by have u0 := b1_; have u1 := (zi_eq _ _).mp c8_; have u2 := (show 3 ≤ Int32.toInt 3 ∧ Int32.toInt 3 ≤ 3 from (by decide)); omega)
          refine pw_blk hT 1 (S' := (67, [some (pvR q0), some (pvJ n1), none], [pvJ n1], M)) rfl ⟨trivial, trivial⟩ ?_
          exact pw_ret hT rfl (r := some (pvJ n1)) (M' := M) ⟨rfl, rfl⟩ ⟨⟨_, rfl, (by rw [if_neg c2_, if_neg c4_, if_neg c6_, if_pos c8_]; first | done | (rw [if_pos c8_]; done))⟩, rfl⟩
        · refine And.intro (fun c10_ => ?_) (fun c10_ => ?_)
          · show PW 161 d (54, [some (pvR q0), some (pvJ n1), none], [], M) _
            have b11_ : 4 ≤ Int32.toInt (M.1 q0 0) ∧ Int32.toInt (M.1 q0 0) ≤ 4 := (by have u0 := b1_; have u1 := (zi_eq _ _).mp c10_; have u2 := (show 4 ≤ Int32.toInt 4 ∧ Int32.toInt 4 ≤ 4 from (by decide)); omega)
            refine pw_blk hT 3 (S' := (57, [some (pvR q0), some (pvJ n1), none], [pvI (lg_cmp n1 0)], M)) rfl ⟨trivial, trivial, trivial, trivial⟩ ?_
            refine pw_if hT (c := (lg_cmp n1 0) = 0) rfl rfl (fun c12_ => ?_) (fun c12_ => ?_)
            · have b13_ : 0 ≤ Int32.toInt (lg_cmp n1 0) ∧ Int32.toInt (lg_cmp n1 0) ≤ 0 := (by have u0 := (zbnd (lg_cmp n1 0)); have u1 := (zi_eq _ _).mp c12_; have u2 := (show 0 ≤ Int32.toInt 0 ∧ Int32.toInt 0 ≤ 0 from (by decide)); omega)
              refine pw_blk hT 1 (S' := (65, [some (pvR q0), some (pvJ n1), none], [pvJ 0], M)) rfl ⟨trivial, trivial⟩ ?_
              exact pw_ret hT rfl (r := some (pvJ 0)) (M' := M) ⟨rfl, rfl⟩ ⟨⟨_, rfl, (by rw [if_neg c2_, if_neg c4_, if_neg c6_, if_neg c8_, if_pos c10_, if_pos c12_]; first | done | (rw [if_pos c12_]; done))⟩, rfl⟩
            · refine pw_blk hT 2 (S' := (65, [some (pvR q0), some (pvJ n1), none], [pvJ 1], M)) rfl ⟨trivial, trivial, trivial⟩ ?_
              exact pw_ret hT rfl (r := some (pvJ 1)) (M' := M) ⟨rfl, rfl⟩ ⟨⟨_, rfl, (by rw [if_neg c2_, if_neg c4_, if_neg c6_, if_neg c8_, if_pos c10_, if_neg c12_]; first | done | (rw [if_neg c12_]; done))⟩, rfl⟩
          · have b14_ : (-1) ≤ Int32.toInt (M.1 q0 0) ∧ Int32.toInt (M.1 q0 0) ≤ (-1) := (by have u0 := b1_; have u9 := (show _ ∧ _ from ⟨(not_congr (zi_eq _ _)).mp c10_, (show 4 ≤ Int32.toInt 4 ∧ Int32.toInt 4 ≤ 4 from (by decide))⟩); have v1 := (not_congr (zi_eq _ _)).mp c8_; have w1 : (3 : Int32).toInt = 3 := (by decide); have v2 := (not_congr (zi_eq _ _)).mp c6_; have w2 : (2 : Int32).toInt = 2 := (by decide); have v3 := (not_congr (zi_eq _ _)).mp c4_; have w3 : (1 : Int32).toInt = 1 := (by decide); have v4 := (not_congr (zi_eq _ _)).mp c2_; have w4 : (0 : Int32).toInt = 0 := (by decide); omega)
            show PW 161 d (66, [some (pvR q0), some (pvJ n1), none], [], M) _
            refine pw_blk hT 1 (S' := (67, [some (pvR q0), some (pvJ n1), none], [pvJ n1], M)) rfl ⟨trivial, trivial⟩ ?_
            exact pw_ret hT rfl (r := some (pvJ n1)) (M' := M) ⟨rfl, rfl⟩ ⟨⟨_, rfl, (by rw [if_neg c2_, if_neg c4_, if_neg c6_, if_neg c8_, if_neg c10_]; first | done | (rw [if_neg c10_]; done))⟩, rfl⟩
def fpL_eX9_item_0_x_x_x : List (Nat × Nat × Nat) := []
def fp_eX9_item_0_x_x_x (q k : Nat) : Bool := pvfp fpL_eX9_item_0_x_x_x q k
set_option maxHeartbeats 4000000 in
set_option maxRecDepth 10000 in
theorem se_X9_item_0_x_x_x (M : pvM) (hok : pvOk M) (n1 : Int32) (n2 : Int32) (n3 : Int64) (d : Nat) : PW 181 d (0, [some (pvR 0), some (pvI n1), some (pvI n2), some (pvJ n3), none, none], [], M) (fun r X => (∃ x : Int32, r = some (pvI x) ∧ ((-13) ≤ Int32.toInt x ∧ Int32.toInt x ≤ 1) ∧ x = (if n1 < 0 then (-1) else (if 5 < n1 then (-1) else (if (M.1 (pvbs 2 + Int32.toNatClampNeg n1) 0) = (-1) then (-11) else (if n2 < 0 then (-13) else (if (M.1 (pvbs 2 + Int32.toNatClampNeg n1) 1) ≤ n2 then (-13) else 1)))))) ∧ pvOk X ∧ pvFr fp_eX9_item_0_x_x_x M X ∧ zIT zF9 n1 n2 (if (M.1 (pvbs 2 + Int32.toNatClampNeg n1) 0) = 0 then (Int32.toInt64 (Int8.toInt32 (Int32.toInt8 (Int64.toInt32 n3)))) else (if (M.1 (pvbs 2 + Int32.toNatClampNeg n1) 0) = 1 then (Int32.toInt64 (Int16.toInt32 (Int32.toInt16 (Int64.toInt32 n3)))) else (if (M.1 (pvbs 2 + Int32.toNatClampNeg n1) 0) = 2 then (Int32.toInt64 (Int64.toInt32 n3)) else (if (M.1 (pvbs 2 + Int32.toNatClampNeg n1) 0) = 3 then n3 else (if (M.1 (pvbs 2 + Int32.toNatClampNeg n1) 0) = 4 then (if (lg_cmp n3 0) = 0 then 0 else 1) else n3))))) r M X) := by
  have hT : pvdom 181 = pvD_181 := rfl
  refine pw_blk hT 1 (S' := (1, [some (pvR 0), some (pvI n1), some (pvI n2), some (pvJ n3), none, none], [pvI n1], M)) rfl ⟨trivial, trivial⟩ ?_
  refine pw_callT hT (as := [pvI n1]) (lo1 := [some (pvI n1)]) (d1 := d) (rest := []) rfl rfl rfl rfl rfl (fun h => absurd h (by decide)) (Nat.zero_le _) rfl rfl rfl (sf_X9_isTape_x M hok n1 d) ?_
  by_cases c6_ : n1 < 0
  · refine pw_eqI (if_pos c6_) ?_
    have b7_ : (-2147483648) ≤ Int32.toInt n1 ∧ Int32.toInt n1 ≤ (-1) := zr_lt_l (-1) c6_ (zbnd n1) (show 0 ≤ Int32.toInt 0 ∧ Int32.toInt 0 ≤ 0 from (by decide)) (by decide)
    show PW 181 d (4, [some (pvR 0), some (pvI n1), some (pvI n2), some (pvJ n3), none, none], [pvI 0], M) _
    refine pw_ifn hT (c := 0 = 0) rfl rfl (fun c8_ => absurd (by decide) c8_) (fun c8_ => ?_)
    refine pw_blk hT 1 (S' := (8, [some (pvR 0), some (pvI n1), some (pvI n2), some (pvJ n3), none, none], [pvI (-1)], M)) rfl ⟨trivial, trivial⟩ ?_
    exact pw_ret hT rfl (r := some (pvI (-1))) (M' := M) ⟨rfl, rfl⟩ ⟨⟨_, rfl, (zr_wide (show (-1) ≤ Int32.toInt (-1) ∧ Int32.toInt (-1) ≤ (-1) from (by decide)) (by decide) (by decide)), (by rw [if_pos c6_]; first | done | (rw [if_pos c6_]; done))⟩, hok, pvfr_0, ⟨_, rfl, Or.inl ⟨by decide, rfl⟩⟩⟩
  · refine pw_eqI (if_neg c6_) ?_
    have b9_ : 0 ≤ Int32.toInt n1 ∧ Int32.toInt n1 ≤ 2147483647 := zr_nlt_l 0 c6_ (zbnd n1) (show 0 ≤ Int32.toInt 0 ∧ Int32.toInt 0 ≤ 0 from (by decide)) (by decide)
    by_cases c10_ : 5 < n1
    · refine pw_eqI (if_pos c10_) ?_
      have b11_ : 6 ≤ Int32.toInt n1 ∧ Int32.toInt n1 ≤ 2147483647 := zr_lt_r 6 c10_ b9_ (show 5 ≤ Int32.toInt 5 ∧ Int32.toInt 5 ≤ 5 from (by decide)) (by decide)
      show PW 181 d (4, [some (pvR 0), some (pvI n1), some (pvI n2), some (pvJ n3), none, none], [pvI 0], M) _
      refine pw_ifn hT (c := 0 = 0) rfl rfl (fun c12_ => absurd (by decide) c12_) (fun c12_ => ?_)
      refine pw_blk hT 1 (S' := (8, [some (pvR 0), some (pvI n1), some (pvI n2), some (pvJ n3), none, none], [pvI (-1)], M)) rfl ⟨trivial, trivial⟩ ?_
      exact pw_ret hT rfl (r := some (pvI (-1))) (M' := M) ⟨rfl, rfl⟩ ⟨⟨_, rfl, (zr_wide (show (-1) ≤ Int32.toInt (-1) ∧ Int32.toInt (-1) ≤ (-1) from (by decide)) (by decide) (by decide)), (by rw [if_neg c6_, if_pos c10_]; first | done | (rw [if_pos c10_]; done))⟩, hok, pvfr_0, ⟨_, rfl, Or.inl ⟨by decide, rfl⟩⟩⟩
    · refine pw_eqI (if_neg c10_) ?_
      have b13_ : 0 ≤ Int32.toInt n1 ∧ Int32.toInt n1 ≤ 5 := zr_nlt_r 5 c10_ b9_ (show 5 ≤ Int32.toInt 5 ∧ Int32.toInt 5 ≤ 5 from (by decide)) (by decide)
      show PW 181 d (4, [some (pvR 0), some (pvI n1), some (pvI n2), some (pvJ n3), none, none], [pvI 1], M) _
      refine pw_ifn hT (c := 1 = 0) rfl rfl (fun c14_ => ?_) (fun c14_ => absurd c14_ (by decide))
      refine pw_blkr hT 4 (pc := 15) (lo := [some (pvR 0), some (pvI n1), some (pvI n2), some (pvJ n3), none, none]) (st := []) (M := M) (z := (pvbs 2 + Int32.toNatClampNeg n1)) rfl ⟨trivial, rfl, trivial, ⟨rfl, (zr_in (n := 6) b13_ (by decide) (by decide))⟩, trivial⟩ (fun q15_ e17_ => ?_)
      have k16_ : pvkl q15_ = 7 := pvel_2 (zr_in (n := 6) b13_ (by decide) (by decide)) e17_
      subst e17_
      refine pw_blk hT 2 (S' := (19, [some (pvR 0), some (pvI n1), some (pvI n2), some (pvJ n3), none, some (pvR (pvbs 2 + Int32.toNatClampNeg n1))], [pvR (pvbs 2 + Int32.toNatClampNeg n1)], M)) rfl ⟨trivial, trivial, trivial⟩ ?_
      refine pw_callT hT (as := [pvR (pvbs 2 + Int32.toNatClampNeg n1)]) (lo1 := [some (pvR (pvbs 2 + Int32.toNatClampNeg n1))]) (d1 := d) (rest := []) rfl rfl rfl rfl rfl (fun _ => k16_) (Nat.zero_le _) rfl rfl rfl (sf_X8_isNothing_x M hok (pvbs 2 + Int32.toNatClampNeg n1) k16_ d) ?_
      have b23_ : (-1) ≤ Int32.toInt (M.1 (pvbs 2 + Int32.toNatClampNeg n1) 0) ∧ Int32.toInt (M.1 (pvbs 2 + Int32.toNatClampNeg n1) 0) ≤ 4 := pvok_r hok (pvbs 2 + Int32.toNatClampNeg n1) 0 ((pvrg_o 0 k16_ (by decide) (by decide)).trans rfl)
      by_cases c24_ : (M.1 (pvbs 2 + Int32.toNatClampNeg n1) 0) = (-1)
      · refine pw_eqI (if_pos c24_) ?_
        have b25_ : (-1) ≤ Int32.toInt (M.1 (pvbs 2 + Int32.toNatClampNeg n1) 0) ∧ Int32.toInt (M.1 (pvbs 2 + Int32.toNatClampNeg n1) 0) ≤ (-1) := (by have u0 := b23_; have u1 := (zi_eq _ _).mp c24_; have u2 := (show (-1) ≤ Int32.toInt (-1) ∧ Int32.toInt (-1) ≤ (-1) from (by decide)); omega)
        show PW 181 d (22, [some (pvR 0), some (pvI n1), some (pvI n2), some (pvJ n3), none, some (pvR (pvbs 2 + Int32.toNatClampNeg n1))], [pvI 1], M) _
        refine pw_if hT (c := 1 = 0) rfl rfl (fun c26_ => absurd c26_ (by decide)) (fun c26_ => ?_)
        refine pw_blk hT 1 (S' := (27, [some (pvR 0), some (pvI n1), some (pvI n2), some (pvJ n3), none, some (pvR (pvbs 2 + Int32.toNatClampNeg n1))], [pvI (-11)], M)) rfl ⟨trivial, trivial⟩ ?_
        exact pw_ret hT rfl (r := some (pvI (-11))) (M' := M) ⟨rfl, rfl⟩ ⟨⟨_, rfl, (zr_wide (show (-11) ≤ Int32.toInt (-11) ∧ Int32.toInt (-11) ≤ (-11) from (by decide)) (by decide) (by decide)), (by rw [if_neg c6_, if_neg c10_, if_pos c24_]; first | done | (rw [if_pos c24_]; done))⟩, hok, pvfr_0, ⟨_, rfl, Or.inl ⟨by decide, rfl⟩⟩⟩
      · refine pw_eqI (if_neg c24_) ?_
        have b27_ : 0 ≤ Int32.toInt (M.1 (pvbs 2 + Int32.toNatClampNeg n1) 0) ∧ Int32.toInt (M.1 (pvbs 2 + Int32.toNatClampNeg n1) 0) ≤ 4 := (by have u0 := b23_; have u1 := (not_congr (zi_eq _ _)).mp c24_; have u2 := (show (-1) ≤ Int32.toInt (-1) ∧ Int32.toInt (-1) ≤ (-1) from (by decide)); omega)
        show PW 181 d (22, [some (pvR 0), some (pvI n1), some (pvI n2), some (pvJ n3), none, some (pvR (pvbs 2 + Int32.toNatClampNeg n1))], [pvI 0], M) _
        refine pw_if hT (c := 0 = 0) rfl rfl (fun c28_ => ?_) (fun c28_ => absurd (by decide) c28_)
        refine pw_blk hT 2 (S' := (31, [some (pvR 0), some (pvI n1), some (pvI n2), some (pvJ n3), none, some (pvR (pvbs 2 + Int32.toNatClampNeg n1))], [pvI n2, pvR (pvbs 2 + Int32.toNatClampNeg n1)], M)) rfl ⟨trivial, trivial, trivial⟩ ?_
        refine pw_callT hT (as := [pvR (pvbs 2 + Int32.toNatClampNeg n1), pvI n2]) (lo1 := [some (pvR (pvbs 2 + Int32.toNatClampNeg n1)), some (pvI n2)]) (d1 := d) (rest := []) rfl rfl rfl rfl rfl (fun _ => k16_) (Nat.zero_le _) rfl rfl rfl (sf_X8_hasPlace_x_x M hok (pvbs 2 + Int32.toNatClampNeg n1) n2 k16_ d) ?_
        by_cases c34_ : n2 < 0
        · refine pw_eqI (if_pos c34_) ?_
          have b35_ : (-2147483648) ≤ Int32.toInt n2 ∧ Int32.toInt n2 ≤ (-1) := zr_lt_l (-1) c34_ (zbnd n2) (show 0 ≤ Int32.toInt 0 ∧ Int32.toInt 0 ≤ 0 from (by decide)) (by decide)
          show PW 181 d (34, [some (pvR 0), some (pvI n1), some (pvI n2), some (pvJ n3), none, some (pvR (pvbs 2 + Int32.toNatClampNeg n1))], [pvI 0], M) _
          refine pw_ifn hT (c := 0 = 0) rfl rfl (fun c36_ => absurd (by decide) c36_) (fun c36_ => ?_)
          refine pw_blk hT 1 (S' := (39, [some (pvR 0), some (pvI n1), some (pvI n2), some (pvJ n3), none, some (pvR (pvbs 2 + Int32.toNatClampNeg n1))], [pvI (-13)], M)) rfl ⟨trivial, trivial⟩ ?_
          exact pw_ret hT rfl (r := some (pvI (-13))) (M' := M) ⟨rfl, rfl⟩ ⟨⟨_, rfl, (zr_wide (show (-13) ≤ Int32.toInt (-13) ∧ Int32.toInt (-13) ≤ (-13) from (by decide)) (by decide) (by decide)), (by rw [if_neg c6_, if_neg c10_, if_neg c24_, if_pos c34_]; first | done | (rw [if_pos c34_]; done))⟩, hok, pvfr_0, ⟨_, rfl, Or.inl ⟨by decide, rfl⟩⟩⟩
        · refine pw_eqI (if_neg c34_) ?_
          have b37_ : 0 ≤ Int32.toInt n2 ∧ Int32.toInt n2 ≤ 2147483647 := zr_nlt_l 0 c34_ (zbnd n2) (show 0 ≤ Int32.toInt 0 ∧ Int32.toInt 0 ≤ 0 from (by decide)) (by decide)
          have b38_ : 0 ≤ Int32.toInt (M.1 (pvbs 2 + Int32.toNatClampNeg n1) 1) ∧ Int32.toInt (M.1 (pvbs 2 + Int32.toNatClampNeg n1) 1) ≤ 60 := pvok_r hok (pvbs 2 + Int32.toNatClampNeg n1) 1 ((pvrg_o 1 k16_ (by decide) (by decide)).trans rfl)
          by_cases c39_ : (M.1 (pvbs 2 + Int32.toNatClampNeg n1) 1) ≤ n2
          · refine pw_eqI (if_pos c39_) ?_
            have d40_ : Int32.toInt (M.1 (pvbs 2 + Int32.toNatClampNeg n1) 1) ≤ Int32.toInt n2 := (zi_le _ _).mp c39_
            show PW 181 d (34, [some (pvR 0), some (pvI n1), some (pvI n2), some (pvJ n3), none, some (pvR (pvbs 2 + Int32.toNatClampNeg n1))], [pvI 0], M) _
            refine pw_ifn hT (c := 0 = 0) rfl rfl (fun c41_ => absurd (by decide) c41_) (fun c41_ => ?_)
            refine pw_blk hT 1 (S' := (39, [some (pvR 0), some (pvI n1), some (pvI n2), some (pvJ n3), none, some (pvR (pvbs 2 + Int32.toNatClampNeg n1))], [pvI (-13)], M)) rfl ⟨trivial, trivial⟩ ?_
            exact pw_ret hT rfl (r := some (pvI (-13))) (M' := M) ⟨rfl, rfl⟩ ⟨⟨_, rfl, (zr_wide (show (-13) ≤ Int32.toInt (-13) ∧ Int32.toInt (-13) ≤ (-13) from (by decide)) (by decide) (by decide)), (by rw [if_neg c6_, if_neg c10_, if_neg c24_, if_neg c34_, if_pos c39_]; first | done | (rw [if_pos c39_]; done))⟩, hok, pvfr_0, ⟨_, rfl, Or.inl ⟨by decide, rfl⟩⟩⟩
          · refine pw_eqI (if_neg c39_) ?_
            have b42_ : 1 ≤ Int32.toInt (M.1 (pvbs 2 + Int32.toNatClampNeg n1) 1) ∧ Int32.toInt (M.1 (pvbs 2 + Int32.toNatClampNeg n1) 1) ≤ 60 := zr_nle_l 1 c39_ b38_ b37_ (by decide)
            have b43_ : 0 ≤ Int32.toInt n2 ∧ Int32.toInt n2 ≤ 59 := zr_nle_r 59 c39_ b37_ b42_ (by decide)
            have d44_ : Int32.toInt (M.1 (pvbs 2 + Int32.toNatClampNeg n1) 1) > Int32.toInt n2 := Int.not_le.mp ((not_congr (zi_le _ _)).mp c39_)
            show PW 181 d (34, [some (pvR 0), some (pvI n1), some (pvI n2), some (pvJ n3), none, some (pvR (pvbs 2 + Int32.toNatClampNeg n1))], [pvI 1], M) _
            refine pw_ifn hT (c := 1 = 0) rfl rfl (fun c45_ => ?_) (fun c45_ => absurd c45_ (by decide))
            refine pw_blk hT 5 (S' := (49, [some (pvR 0), some (pvI n1), some (pvI n2), some (pvJ n3), none, some (pvR (pvbs 2 + Int32.toNatClampNeg n1))], [pvJ n3, pvR (pvbs 2 + Int32.toNatClampNeg n1), pvI n2, pvR ((pvbs 2 + Int32.toNatClampNeg n1) + 6)], M)) rfl ⟨trivial, k16_, trivial, trivial, trivial, trivial⟩ ?_
            refine pw_callJe hT (as := [pvR (pvbs 2 + Int32.toNatClampNeg n1), pvJ n3]) (lo1 := [some (pvR (pvbs 2 + Int32.toNatClampNeg n1)), some (pvJ n3), none]) (d1 := d) (rest := [pvI n2, pvR ((pvbs 2 + Int32.toNatClampNeg n1) + 6)]) rfl rfl rfl rfl rfl (fun _ => k16_) (Nat.zero_le _) rfl rfl rfl (se_X8_asItem_x_x M hok (pvbs 2 + Int32.toNatClampNeg n1) n3 k16_ d) ?_
            refine pw_blkw hT 1 (pc := 53) (lo := [some (pvR 0), some (pvI n1), some (pvI n2), some (pvJ n3), none, some (pvR (pvbs 2 + Int32.toNatClampNeg n1))]) (st := []) (M := pvw M ((pvbs 2 + Int32.toNatClampNeg n1) + 6) (Int32.toNatClampNeg n2) (if (M.1 (pvbs 2 + Int32.toNatClampNeg n1) 0) = 0 then (Int32.toInt64 (Int8.toInt32 (Int32.toInt8 (Int64.toInt32 n3)))) else (if (M.1 (pvbs 2 + Int32.toNatClampNeg n1) 0) = 1 then (Int32.toInt64 (Int16.toInt32 (Int32.toInt16 (Int64.toInt32 n3)))) else (if (M.1 (pvbs 2 + Int32.toNatClampNeg n1) 0) = 2 then (Int32.toInt64 (Int64.toInt32 n3)) else (if (M.1 (pvbs 2 + Int32.toNatClampNeg n1) 0) = 3 then n3 else (if (M.1 (pvbs 2 + Int32.toNatClampNeg n1) 0) = 4 then (if (lg_cmp n3 0) = 0 then 0 else 1) else n3)))))) rfl ⟨⟨(pvow_7_6 k16_).1, (by rw [(pvow_7_6 k16_).2.1]; exact (zr_in (n := 60) b43_ (by decide) (by decide)))⟩, trivial⟩ (fun M51_ e52_ => ?_)
            have o53_ : pvOk M51_ := pvok_w e52_ hok
            have f54_ : pvFr fp_eX9_item_0_x_x_x M M51_ := pvfr_w e52_ pvfr_0
            refine pw_blk hT 1 (S' := (54, [some (pvR 0), some (pvI n1), some (pvI n2), some (pvJ n3), none, some (pvR (pvbs 2 + Int32.toNatClampNeg n1))], [pvI 1], M51_)) rfl ⟨trivial, trivial⟩ ?_
            exact pw_ret hT rfl (r := some (pvI 1)) (M' := M51_) ⟨rfl, rfl⟩ ⟨⟨_, rfl, (zr_wide (show 1 ≤ Int32.toInt 1 ∧ Int32.toInt 1 ≤ 1 from (by decide)) (by decide) (by decide)), (by rw [if_neg c6_, if_neg c10_, if_neg c24_, if_neg c34_, if_neg c39_]; first | done | (rw [if_neg c39_]; done))⟩, o53_, f54_, ⟨_, rfl, Or.inr ⟨by decide, b13_, b43_, (zI9_p (show 94 + Int32.toNatClampNeg n1 = pvbs 2 + Int32.toNatClampNeg n1 + 6 from by have u : pvbs 2 = 88 := rfl; omega) (zI9_w e52_))⟩⟩⟩
set_option maxHeartbeats 4000000 in
set_option maxRecDepth 10000 in
theorem se_X9_judge_0_x_x (M : pvM) (hok : pvOk M) (n1 : Int32) (n2 : Int32) (d : Nat) : PW 182 d (0, [some (pvR 0), some (pvI n1), some (pvI n2), none, none, none], [], M) (fun r X => (∃ x : Int32, r = some (pvI x) ∧ (-12) ≤ Int32.toInt x ∧ Int32.toInt x ≤ 106) ∧ X = M ∧ yju9 n1 n2 r M) := by
  have hT : pvdom 182 = pvD_182 := rfl
  refine pw_blk hT 1 (S' := (1, [some (pvR 0), some (pvI n1), some (pvI n2), none, none, none], [pvI n1], M)) rfl ⟨trivial, trivial⟩ ?_
  refine pw_callT hT (as := [pvI n1]) (lo1 := [some (pvI n1)]) (d1 := d) (rest := []) rfl rfl rfl rfl rfl (fun h => absurd h (by decide)) (Nat.zero_le _) rfl rfl rfl (sf_X9_isTape_x M hok n1 d) ?_
  by_cases c6_ : n1 < 0
  · refine pw_eqI (if_pos c6_) ?_
    have b7_ : (-2147483648) ≤ Int32.toInt n1 ∧ Int32.toInt n1 ≤ (-1) := zr_lt_l (-1) c6_ (zbnd n1) (show 0 ≤ Int32.toInt 0 ∧ Int32.toInt 0 ≤ 0 from (by decide)) (by decide)
    show PW 182 d (4, [some (pvR 0), some (pvI n1), some (pvI n2), none, none, none], [pvI 0], M) _
    refine pw_ifn hT (c := 0 = 0) rfl rfl (fun c8_ => absurd (by decide) c8_) (fun c8_ => ?_)
    refine pw_blk hT 1 (S' := (8, [some (pvR 0), some (pvI n1), some (pvI n2), none, none, none], [pvI (-1)], M)) rfl ⟨trivial, trivial⟩ ?_
    exact pw_ret hT rfl (r := some (pvI (-1))) (M' := M) ⟨rfl, rfl⟩ ⟨⟨_, rfl, (zr_wide (show (-1) ≤ Int32.toInt (-1) ∧ Int32.toInt (-1) ≤ (-1) from (by decide)) (by decide) (by decide))⟩, rfl, (yju9_n (by have u := b7_; omega) (by decide))⟩
  · refine pw_eqI (if_neg c6_) ?_
    have b9_ : 0 ≤ Int32.toInt n1 ∧ Int32.toInt n1 ≤ 2147483647 := zr_nlt_l 0 c6_ (zbnd n1) (show 0 ≤ Int32.toInt 0 ∧ Int32.toInt 0 ≤ 0 from (by decide)) (by decide)
    by_cases c10_ : 5 < n1
    · refine pw_eqI (if_pos c10_) ?_
      have b11_ : 6 ≤ Int32.toInt n1 ∧ Int32.toInt n1 ≤ 2147483647 := zr_lt_r 6 c10_ b9_ (show 5 ≤ Int32.toInt 5 ∧ Int32.toInt 5 ≤ 5 from (by decide)) (by decide)
      show PW 182 d (4, [some (pvR 0), some (pvI n1), some (pvI n2), none, none, none], [pvI 0], M) _
      refine pw_ifn hT (c := 0 = 0) rfl rfl (fun c12_ => absurd (by decide) c12_) (fun c12_ => ?_)
      refine pw_blk hT 1 (S' := (8, [some (pvR 0), some (pvI n1), some (pvI n2), none, none, none], [pvI (-1)], M)) rfl ⟨trivial, trivial⟩ ?_
      exact pw_ret hT rfl (r := some (pvI (-1))) (M' := M) ⟨rfl, rfl⟩ ⟨⟨_, rfl, (zr_wide (show (-1) ≤ Int32.toInt (-1) ∧ Int32.toInt (-1) ≤ (-1) from (by decide)) (by decide) (by decide))⟩, rfl, (yju9_n (by have u := b11_; omega) (by decide))⟩
    · refine pw_eqI (if_neg c10_) ?_
      have b13_ : 0 ≤ Int32.toInt n1 ∧ Int32.toInt n1 ≤ 5 := zr_nlt_r 5 c10_ b9_ (show 5 ≤ Int32.toInt 5 ∧ Int32.toInt 5 ≤ 5 from (by decide)) (by decide)
      show PW 182 d (4, [some (pvR 0), some (pvI n1), some (pvI n2), none, none, none], [pvI 1], M) _
      refine pw_ifn hT (c := 1 = 0) rfl rfl (fun c14_ => ?_) (fun c14_ => absurd c14_ (by decide))
      refine pw_blkr hT 4 (pc := 15) (lo := [some (pvR 0), some (pvI n1), some (pvI n2), none, none, none]) (st := []) (M := M) (z := (pvbs 2 + Int32.toNatClampNeg n1)) rfl ⟨trivial, rfl, trivial, ⟨rfl, (zr_in (n := 6) b13_ (by decide) (by decide))⟩, trivial⟩ (fun q15_ e17_ => ?_)
      have k16_ : pvkl q15_ = 7 := pvel_2 (zr_in (n := 6) b13_ (by decide) (by decide)) e17_
      subst e17_
      refine pw_blk hT 2 (S' := (17, [some (pvR 0), some (pvI n1), some (pvI n2), some (pvR (pvbs 2 + Int32.toNatClampNeg n1)), none, none], [pvR (pvbs 2 + Int32.toNatClampNeg n1)], M)) rfl ⟨trivial, trivial, trivial⟩ ?_
      refine pw_callT hT (as := [pvR (pvbs 2 + Int32.toNatClampNeg n1)]) (lo1 := [some (pvR (pvbs 2 + Int32.toNatClampNeg n1))]) (d1 := d) (rest := []) rfl rfl rfl rfl rfl (fun _ => k16_) (Nat.zero_le _) rfl rfl rfl (sf_X8_isNothing_x M hok (pvbs 2 + Int32.toNatClampNeg n1) k16_ d) ?_
      have b23_ : (-1) ≤ Int32.toInt (M.1 (pvbs 2 + Int32.toNatClampNeg n1) 0) ∧ Int32.toInt (M.1 (pvbs 2 + Int32.toNatClampNeg n1) 0) ≤ 4 := pvok_r hok (pvbs 2 + Int32.toNatClampNeg n1) 0 ((pvrg_o 0 k16_ (by decide) (by decide)).trans rfl)
      by_cases c24_ : (M.1 (pvbs 2 + Int32.toNatClampNeg n1) 0) = (-1)
      · refine pw_eqI (if_pos c24_) ?_
        have b25_ : (-1) ≤ Int32.toInt (M.1 (pvbs 2 + Int32.toNatClampNeg n1) 0) ∧ Int32.toInt (M.1 (pvbs 2 + Int32.toNatClampNeg n1) 0) ≤ (-1) := (by have u0 := b23_; have u1 := (zi_eq _ _).mp c24_; have u2 := (show (-1) ≤ Int32.toInt (-1) ∧ Int32.toInt (-1) ≤ (-1) from (by decide)); omega)
        show PW 182 d (20, [some (pvR 0), some (pvI n1), some (pvI n2), some (pvR (pvbs 2 + Int32.toNatClampNeg n1)), none, none], [pvI 1], M) _
        refine pw_ifn hT (c := 1 = 0) rfl rfl (fun c26_ => ?_) (fun c26_ => absurd c26_ (by decide))
        refine pw_blk hT 2 (S' := (37, [some (pvR 0), some (pvI n1), some (pvI n2), some (pvR (pvbs 2 + Int32.toNatClampNeg n1)), some (pvI 0), none], [], M)) rfl ⟨trivial, trivial, trivial⟩ ?_
        have hlz159_ : ∀ (nz159_ : Nat) (i4z159_ : Int32) (v5z159_ : Option pvV), (0 ≤ Int32.toInt i4z159_ ∧ Int32.toInt i4z159_ ≤ 7) → (yjI false (Int32.toInt (M.1 (pvbs 2 + Int32.toNatClampNeg n1) 1)) (Int32.toInt n2) (yje M n1 n2) (Int32.toNatClampNeg (M.1 8 1)) i4z159_) → (zhide ((8 - Int32.toInt i4z159_).toNat < nz159_)) → PW 182 d (37, [some (pvR 0), some (pvI n1), some (pvI n2), some (pvR (pvbs 2 + Int32.toNatClampNeg n1)), some (pvI i4z159_), v5z159_], [], M) (fun r X => (∃ x : Int32, r = some (pvI x) ∧ (-12) ≤ Int32.toInt x ∧ Int32.toInt x ≤ 106) ∧ X = M ∧ yju9 n1 n2 r M) := by
          intro nz159_
          induction nz159_ with
          | zero => intro i4z159_ v5z159_ h4z159_ j0z159_ hmz159_; exact absurd (zshow hmz159_) (Nat.not_lt_zero _)
          | succ nz159_ ihz159_ =>
            intro i4z159_ v5z159_ h4z159_ j0z159_ hmz159_
            have b160_ : 0 ≤ Int32.toInt (M.1 8 1) ∧ Int32.toInt (M.1 8 1) ≤ 7 := pvok_r hok 8 1 rfl
            refine pw_blk hT 4 (S' := (46, [some (pvR 0), some (pvI n1), some (pvI n2), some (pvR (pvbs 2 + Int32.toNatClampNeg n1)), some (pvI i4z159_), v5z159_], [pvI (M.1 8 1), pvI i4z159_], M)) rfl ⟨trivial, trivial, rfl, rfl, trivial⟩ ?_
            refine pw_ic hT (c := (M.1 8 1) ≤ i4z159_) rfl rfl (fun c161_ => ?_) (fun c161_ => ?_)
            · have d162_ : Int32.toInt (M.1 8 1) ≤ Int32.toInt i4z159_ := (zi_le _ _).mp c161_
              refine pw_blk hT 1 (S' := (120, [some (pvR 0), some (pvI n1), some (pvI n2), some (pvR (pvbs 2 + Int32.toNatClampNeg n1)), some (pvI i4z159_), v5z159_], [pvI (-5)], M)) rfl ⟨trivial, trivial⟩ ?_
              exact pw_ret hT rfl (r := some (pvI (-5))) (M' := M) ⟨rfl, rfl⟩ ⟨⟨_, rfl, (zr_wide (show (-5) ≤ Int32.toInt (-5) ∧ Int32.toInt (-5) ≤ (-5) from (by decide)) (by decide) (by decide))⟩, rfl, (yju9_i (by have u := b13_; omega) (Or.inl c24_) (by have v := (zi_le _ _).mp c161_; have t := ycl_ (pvok_r hok 8 1 (lo := 0) (hi := 7) rfl).1; exact (by decide : Int32.toInt (-5) = -5).trans (yjI_e j0z159_ (by omega) (by have u := h4z159_; omega))))⟩
            · have b163_ : 1 ≤ Int32.toInt (M.1 8 1) ∧ Int32.toInt (M.1 8 1) ≤ 7 := zr_nle_l 1 c161_ b160_ h4z159_ (by decide)
              have b164_ : 0 ≤ Int32.toInt i4z159_ ∧ Int32.toInt i4z159_ ≤ 6 := zr_nle_r 6 c161_ h4z159_ b163_ (by decide)
              have d165_ : Int32.toInt (M.1 8 1) > Int32.toInt i4z159_ := Int.not_le.mp ((not_congr (zi_le _ _)).mp c161_)
              refine pw_blk hT 1 (S' := (50, [some (pvR 0), some (pvI n1), some (pvI n2), some (pvR (pvbs 2 + Int32.toNatClampNeg n1)), some (pvI i4z159_), v5z159_], [pvI n2], M)) rfl ⟨trivial, trivial⟩ ?_
              refine pw_if hT (c := n2 < 0) rfl rfl (fun c166_ => ?_) (fun c166_ => ?_)
              · have b167_ : (-2147483648) ≤ Int32.toInt n2 ∧ Int32.toInt n2 ≤ (-1) := zr_lt_l (-1) c166_ (zbnd n2) (show 0 ≤ Int32.toInt 0 ∧ Int32.toInt 0 ≤ 0 from (by decide)) (by decide)
                obtain ⟨q169_, b168_⟩ : (Int32.toInt (100 + i4z159_) = 100 + Int32.toInt i4z159_) ∧ (100 ≤ Int32.toInt (100 + i4z159_) ∧ Int32.toInt (100 + i4z159_) ≤ 106) := zadd_q 100 i4z159_ 100 100 106 b164_ (by decide) (by decide) (by decide) (by decide) (by decide)
                refine pw_blk hT 3 (S' := (69, [some (pvR 0), some (pvI n1), some (pvI n2), some (pvR (pvbs 2 + Int32.toNatClampNeg n1)), some (pvI i4z159_), v5z159_], [pvI (100 + i4z159_)], M)) rfl ⟨trivial, trivial, trivial, trivial⟩ ?_
                exact pw_ret hT rfl (r := some (pvI (100 + i4z159_))) (M' := M) ⟨rfl, rfl⟩ ⟨⟨_, rfl, (zr_wide b168_ (by decide) (by decide))⟩, rfl, (yju9_i (by have u := b13_; omega) (Or.inl c24_) (by have z := yjI_r j0z159_ (by have u := b164_; omega) (by have u := ycl_ (pvok_r hok 8 1 (lo := 0) (hi := 7) rfl).1; have v := (not_congr (zi_le _ _)).mp c161_; omega) (Or.inr (Or.inl (by have v := (zi_lt _ _).mp c166_; have u0 : (0 : Int32).toInt = 0 := (by decide); omega))); omega))⟩
              · have b170_ : 0 ≤ Int32.toInt n2 ∧ Int32.toInt n2 ≤ 2147483647 := zr_nlt_l 0 c166_ (zbnd n2) (show 0 ≤ Int32.toInt 0 ∧ Int32.toInt 0 ≤ 0 from (by decide)) (by decide)
                have b171_ : 0 ≤ Int32.toInt (M.1 (pvbs 2 + Int32.toNatClampNeg n1) 1) ∧ Int32.toInt (M.1 (pvbs 2 + Int32.toNatClampNeg n1) 1) ≤ 60 := pvok_r hok (pvbs 2 + Int32.toNatClampNeg n1) 1 ((pvrg_o 1 k16_ (by decide) (by decide)).trans rfl)
                obtain ⟨q173_, b172_⟩ : (Int32.toInt ((M.1 (pvbs 2 + Int32.toNatClampNeg n1) 1) - i4z159_) = Int32.toInt (M.1 (pvbs 2 + Int32.toNatClampNeg n1) 1) - Int32.toInt i4z159_) ∧ ((-6) ≤ Int32.toInt ((M.1 (pvbs 2 + Int32.toNatClampNeg n1) 1) - i4z159_) ∧ Int32.toInt ((M.1 (pvbs 2 + Int32.toNatClampNeg n1) 1) - i4z159_) ≤ 60) := zsub_r (M.1 (pvbs 2 + Int32.toNatClampNeg n1) 1) i4z159_ (-6) 60 b171_ b164_ (by decide) (by decide) (by decide) (by decide)
                refine pw_blk hT 5 (S' := (61, [some (pvR 0), some (pvI n1), some (pvI n2), some (pvR (pvbs 2 + Int32.toNatClampNeg n1)), some (pvI i4z159_), v5z159_], [pvI ((M.1 (pvbs 2 + Int32.toNatClampNeg n1) 1) - i4z159_), pvI n2], M)) rfl ⟨trivial, trivial, k16_, trivial, trivial, trivial⟩ ?_
                refine pw_ic hT (c := n2 < ((M.1 (pvbs 2 + Int32.toNatClampNeg n1) 1) - i4z159_)) rfl rfl (fun c174_ => ?_) (fun c174_ => ?_)
                · have b175_ : 0 ≤ Int32.toInt n2 ∧ Int32.toInt n2 ≤ 59 := zr_lt_l 59 c174_ b170_ b172_ (by decide)
                  have b176_ : 1 ≤ Int32.toInt ((M.1 (pvbs 2 + Int32.toNatClampNeg n1) 1) - i4z159_) ∧ Int32.toInt ((M.1 (pvbs 2 + Int32.toNatClampNeg n1) 1) - i4z159_) ≤ 60 := zr_lt_r 1 c174_ b172_ b175_ (by decide)
                  have d177_ : Int32.toInt n2 < Int32.toInt ((M.1 (pvbs 2 + Int32.toNatClampNeg n1) 1) - i4z159_) := (zi_lt _ _).mp c174_
                  obtain ⟨q179_, b178_⟩ : (Int32.toInt (n2 + i4z159_) = Int32.toInt n2 + Int32.toInt i4z159_) ∧ (0 ≤ Int32.toInt (n2 + i4z159_) ∧ Int32.toInt (n2 + i4z159_) ≤ 65) := zadd_r n2 i4z159_ 0 65 b175_ b164_ (by decide) (by decide) (by decide) (by decide)
                  refine pw_blk hT 8 (S' := (81, [some (pvR 0), some (pvI n1), some (pvI n2), some (pvR (pvbs 2 + Int32.toNatClampNeg n1)), some (pvI i4z159_), v5z159_], [pvI (lg_cmp (M.2 ((pvbs 2 + Int32.toNatClampNeg n1) + 6) (Int32.toNatClampNeg (n2 + i4z159_))) 0)], M)) rfl ⟨trivial, k16_, trivial, trivial, trivial, ⟨(pvow_7_6 k16_).1, (by rw [(pvow_7_6 k16_).2.1]; exact (vp_in_iff.mpr (show 0 ≤ Int32.toInt (n2 + i4z159_) ∧ Int32.toInt (n2 + i4z159_) < ((60 : Nat) : Int) from (by have u0 := b178_; omega))))⟩, trivial, trivial, trivial⟩ ?_
                  refine pw_if hT (c := (lg_cmp (M.2 ((pvbs 2 + Int32.toNatClampNeg n1) + 6) (Int32.toNatClampNeg (n2 + i4z159_))) 0) = 0) rfl rfl (fun c180_ => ?_) (fun c180_ => ?_)
                  · have b181_ : 0 ≤ Int32.toInt (lg_cmp (M.2 ((pvbs 2 + Int32.toNatClampNeg n1) + 6) (Int32.toNatClampNeg (n2 + i4z159_))) 0) ∧ Int32.toInt (lg_cmp (M.2 ((pvbs 2 + Int32.toNatClampNeg n1) + 6) (Int32.toNatClampNeg (n2 + i4z159_))) 0) ≤ 0 := (by have u0 := (zbnd (lg_cmp (M.2 ((pvbs 2 + Int32.toNatClampNeg n1) + 6) (Int32.toNatClampNeg (n2 + i4z159_))) 0)); have u1 := (zi_eq _ _).mp c180_; have u2 := (show 0 ≤ Int32.toInt 0 ∧ Int32.toInt 0 ≤ 0 from (by decide)); omega)
                    refine pw_blkr hT 8 (pc := 103) (lo := [some (pvR 0), some (pvI n1), some (pvI n2), some (pvR (pvbs 2 + Int32.toNatClampNeg n1)), some (pvI i4z159_), some (pvI 0)]) (st := [pvI 0]) (M := M) (z := (pvbs 10 + Int32.toNatClampNeg i4z159_)) rfl ⟨trivial, trivial, trivial, trivial, rfl, rfl, trivial, ⟨rfl, (zr_in (n := 7) b164_ (by decide) (by decide))⟩, trivial⟩ (fun q182_ e184_ => ?_)
                    have k183_ : pvkl q182_ = 3 := pvel_10 (zr_in (n := 7) b164_ (by decide) (by decide)) e184_
                    subst e184_
                    have b185_ : 0 ≤ Int32.toInt (M.1 (pvbs 10 + Int32.toNatClampNeg i4z159_) 5) ∧ Int32.toInt (M.1 (pvbs 10 + Int32.toNatClampNeg i4z159_) 5) ≤ 1 := pvok_r hok (pvbs 10 + Int32.toNatClampNeg i4z159_) 5 ((pvrg_o 5 k183_ (by decide) (by decide)).trans rfl)
                    refine pw_blk hT 1 (S' := (106, [some (pvR 0), some (pvI n1), some (pvI n2), some (pvR (pvbs 2 + Int32.toNatClampNeg n1)), some (pvI i4z159_), some (pvI 0)], [pvI (M.1 (pvbs 10 + Int32.toNatClampNeg i4z159_) 5), pvI 0], M)) rfl ⟨k183_, trivial⟩ ?_
                    refine pw_ic hT (c := 0 = (M.1 (pvbs 10 + Int32.toNatClampNeg i4z159_) 5)) rfl rfl (fun c186_ => ?_) (fun c186_ => ?_)
                    · have b187_ : 0 ≤ Int32.toInt (M.1 (pvbs 10 + Int32.toNatClampNeg i4z159_) 5) ∧ Int32.toInt (M.1 (pvbs 10 + Int32.toNatClampNeg i4z159_) 5) ≤ 0 := (by have u0 := b185_; have u1 := (zi_eq _ _).mp c186_; have u2 := (show 0 ≤ Int32.toInt 0 ∧ Int32.toInt 0 ≤ 0 from (by decide)); omega)
                      obtain ⟨q189_, b188_⟩ : (Int32.toInt (i4z159_ + 1) = Int32.toInt i4z159_ + 1) ∧ (1 ≤ Int32.toInt (i4z159_ + 1) ∧ Int32.toInt (i4z159_ + 1) ≤ 7) := zadd_k i4z159_ 1 1 1 7 b164_ (by decide) (by decide) (by decide) (by decide) (by decide)
                      refine pw_blk hT 2 (S' := (37, [some (pvR 0), some (pvI n1), some (pvI n2), some (pvR (pvbs 2 + Int32.toNatClampNeg n1)), some (pvI (i4z159_ + 1)), some (pvI 0)], [], M)) rfl ⟨trivial, trivial, trivial⟩ ?_
                      have u190_ : Int32.toInt 0 = 0 := by decide
                      have j191_ : yjI false (Int32.toInt (M.1 (pvbs 2 + Int32.toNatClampNeg n1) 1)) (Int32.toInt n2) (yje M n1 n2) (Int32.toNatClampNeg (M.1 8 1)) (i4z159_ + 1) := (yjI_s j0z159_ (by have u := b164_; omega) (by have u := ycl_ (pvok_r hok 8 1 (lo := 0) (hi := 7) rfl).1; have v := (not_congr (zi_le _ _)).mp c161_; omega) (yjf (yjc (by have v := (not_congr (zi_lt _ _)).mp c166_; have u0 : (0 : Int32).toInt = 0 := (by decide); omega) (by have v := (zi_lt _ _).mp c174_; omega))) (yje_y (by have u := b175_; omega) (by have u := b164_; omega) (Or.inl ⟨c180_, (by have u := b187_; omega)⟩)) (by omega))
                      exact ihz159_ (i4z159_ + 1) (some (pvI 0)) (zr_wide b188_ (by decide) (by decide)) j191_ (zhid (pvms_up (zshow hmz159_) h4z159_ q189_ (by decide) (by decide)))
                    · have b192_ : 1 ≤ Int32.toInt (M.1 (pvbs 10 + Int32.toNatClampNeg i4z159_) 5) ∧ Int32.toInt (M.1 (pvbs 10 + Int32.toNatClampNeg i4z159_) 5) ≤ 1 := (by have u0 := b185_; have u1 := (not_congr (zi_eq _ _)).mp c186_; have u2 := (show 0 ≤ Int32.toInt 0 ∧ Int32.toInt 0 ≤ 0 from (by decide)); omega)
                      refine pw_blk hT 1 (S' := (111, [some (pvR 0), some (pvI n1), some (pvI n2), some (pvR (pvbs 2 + Int32.toNatClampNeg n1)), some (pvI i4z159_), some (pvI 0)], [pvI i4z159_], M)) rfl ⟨trivial, trivial⟩ ?_
                      exact pw_ret hT rfl (r := some (pvI i4z159_)) (M' := M) ⟨rfl, rfl⟩ ⟨⟨_, rfl, (zr_wide b164_ (by decide) (by decide))⟩, rfl, (yju9_i (by have u := b13_; omega) (Or.inl c24_) (yjI_n j0z159_ (by have u := b164_; omega) (by have u := ycl_ (pvok_r hok 8 1 (lo := 0) (hi := 7) rfl).1; have v := (not_congr (zi_le _ _)).mp c161_; omega) (yjf (yjc (by have v := (not_congr (zi_lt _ _)).mp c166_; have u0 : (0 : Int32).toInt = 0 := (by decide); omega) (by have v := (zi_lt _ _).mp c174_; omega))) (yje_n (by have u := b175_; omega) (by have u := b164_; omega) (Or.inl ⟨c180_, (by have u := b192_; omega)⟩))))⟩
                  · refine pw_blkr hT 9 (pc := 103) (lo := [some (pvR 0), some (pvI n1), some (pvI n2), some (pvR (pvbs 2 + Int32.toNatClampNeg n1)), some (pvI i4z159_), some (pvI 1)]) (st := [pvI 1]) (M := M) (z := (pvbs 10 + Int32.toNatClampNeg i4z159_)) rfl ⟨trivial, trivial, trivial, trivial, trivial, rfl, rfl, trivial, ⟨rfl, (zr_in (n := 7) b164_ (by decide) (by decide))⟩, trivial⟩ (fun q193_ e195_ => ?_)
                    have k194_ : pvkl q193_ = 3 := pvel_10 (zr_in (n := 7) b164_ (by decide) (by decide)) e195_
                    subst e195_
                    have b196_ : 0 ≤ Int32.toInt (M.1 (pvbs 10 + Int32.toNatClampNeg i4z159_) 5) ∧ Int32.toInt (M.1 (pvbs 10 + Int32.toNatClampNeg i4z159_) 5) ≤ 1 := pvok_r hok (pvbs 10 + Int32.toNatClampNeg i4z159_) 5 ((pvrg_o 5 k194_ (by decide) (by decide)).trans rfl)
                    refine pw_blk hT 1 (S' := (106, [some (pvR 0), some (pvI n1), some (pvI n2), some (pvR (pvbs 2 + Int32.toNatClampNeg n1)), some (pvI i4z159_), some (pvI 1)], [pvI (M.1 (pvbs 10 + Int32.toNatClampNeg i4z159_) 5), pvI 1], M)) rfl ⟨k194_, trivial⟩ ?_
                    refine pw_ic hT (c := 1 = (M.1 (pvbs 10 + Int32.toNatClampNeg i4z159_) 5)) rfl rfl (fun c197_ => ?_) (fun c197_ => ?_)
                    · have b198_ : 1 ≤ Int32.toInt (M.1 (pvbs 10 + Int32.toNatClampNeg i4z159_) 5) ∧ Int32.toInt (M.1 (pvbs 10 + Int32.toNatClampNeg i4z159_) 5) ≤ 1 := (by have u0 := b196_; have u1 := (zi_eq _ _).mp c197_; have u2 := (show 1 ≤ Int32.toInt 1 ∧ Int32.toInt 1 ≤ 1 from (by decide)); omega)
                      obtain ⟨q200_, b199_⟩ : (Int32.toInt (i4z159_ + 1) = Int32.toInt i4z159_ + 1) ∧ (1 ≤ Int32.toInt (i4z159_ + 1) ∧ Int32.toInt (i4z159_ + 1) ≤ 7) := zadd_k i4z159_ 1 1 1 7 b164_ (by decide) (by decide) (by decide) (by decide) (by decide)
                      refine pw_blk hT 2 (S' := (37, [some (pvR 0), some (pvI n1), some (pvI n2), some (pvR (pvbs 2 + Int32.toNatClampNeg n1)), some (pvI (i4z159_ + 1)), some (pvI 1)], [], M)) rfl ⟨trivial, trivial, trivial⟩ ?_
                      have u201_ : Int32.toInt 1 = 1 := by decide
                      have j202_ : yjI false (Int32.toInt (M.1 (pvbs 2 + Int32.toNatClampNeg n1) 1)) (Int32.toInt n2) (yje M n1 n2) (Int32.toNatClampNeg (M.1 8 1)) (i4z159_ + 1) := (yjI_s j0z159_ (by have u := b164_; omega) (by have u := ycl_ (pvok_r hok 8 1 (lo := 0) (hi := 7) rfl).1; have v := (not_congr (zi_le _ _)).mp c161_; omega) (yjf (yjc (by have v := (not_congr (zi_lt _ _)).mp c166_; have u0 : (0 : Int32).toInt = 0 := (by decide); omega) (by have v := (zi_lt _ _).mp c174_; omega))) (yje_y (by have u := b175_; omega) (by have u := b164_; omega) (Or.inr ⟨c180_, (by have u := b198_; omega)⟩)) (by omega))
                      exact ihz159_ (i4z159_ + 1) (some (pvI 1)) (zr_wide b199_ (by decide) (by decide)) j202_ (zhid (pvms_up (zshow hmz159_) h4z159_ q200_ (by decide) (by decide)))
                    · have b203_ : 0 ≤ Int32.toInt (M.1 (pvbs 10 + Int32.toNatClampNeg i4z159_) 5) ∧ Int32.toInt (M.1 (pvbs 10 + Int32.toNatClampNeg i4z159_) 5) ≤ 0 := (by have u0 := b196_; have u1 := (not_congr (zi_eq _ _)).mp c197_; have u2 := (show 1 ≤ Int32.toInt 1 ∧ Int32.toInt 1 ≤ 1 from (by decide)); omega)
                      refine pw_blk hT 1 (S' := (111, [some (pvR 0), some (pvI n1), some (pvI n2), some (pvR (pvbs 2 + Int32.toNatClampNeg n1)), some (pvI i4z159_), some (pvI 1)], [pvI i4z159_], M)) rfl ⟨trivial, trivial⟩ ?_
                      exact pw_ret hT rfl (r := some (pvI i4z159_)) (M' := M) ⟨rfl, rfl⟩ ⟨⟨_, rfl, (zr_wide b164_ (by decide) (by decide))⟩, rfl, (yju9_i (by have u := b13_; omega) (Or.inl c24_) (yjI_n j0z159_ (by have u := b164_; omega) (by have u := ycl_ (pvok_r hok 8 1 (lo := 0) (hi := 7) rfl).1; have v := (not_congr (zi_le _ _)).mp c161_; omega) (yjf (yjc (by have v := (not_congr (zi_lt _ _)).mp c166_; have u0 : (0 : Int32).toInt = 0 := (by decide); omega) (by have v := (zi_lt _ _).mp c174_; omega))) (yje_n (by have u := b175_; omega) (by have u := b164_; omega) (Or.inr ⟨c180_, (by have u := b203_; omega)⟩))))⟩
                · have d204_ : Int32.toInt n2 ≥ Int32.toInt ((M.1 (pvbs 2 + Int32.toNatClampNeg n1) 1) - i4z159_) := Int.not_lt.mp ((not_congr (zi_lt _ _)).mp c174_)
                  obtain ⟨q206_, b205_⟩ : (Int32.toInt (100 + i4z159_) = 100 + Int32.toInt i4z159_) ∧ (100 ≤ Int32.toInt (100 + i4z159_) ∧ Int32.toInt (100 + i4z159_) ≤ 106) := zadd_q 100 i4z159_ 100 100 106 b164_ (by decide) (by decide) (by decide) (by decide) (by decide)
                  refine pw_blk hT 3 (S' := (69, [some (pvR 0), some (pvI n1), some (pvI n2), some (pvR (pvbs 2 + Int32.toNatClampNeg n1)), some (pvI i4z159_), v5z159_], [pvI (100 + i4z159_)], M)) rfl ⟨trivial, trivial, trivial, trivial⟩ ?_
                  exact pw_ret hT rfl (r := some (pvI (100 + i4z159_))) (M' := M) ⟨rfl, rfl⟩ ⟨⟨_, rfl, (zr_wide b205_ (by decide) (by decide))⟩, rfl, (yju9_i (by have u := b13_; omega) (Or.inl c24_) (by have z := yjI_r j0z159_ (by have u := b164_; omega) (by have u := ycl_ (pvok_r hok 8 1 (lo := 0) (hi := 7) rfl).1; have v := (not_congr (zi_le _ _)).mp c161_; omega) (Or.inr (Or.inr (by have v := (not_congr (zi_lt _ _)).mp c174_; omega))); omega))⟩
        have u207_ : Int32.toInt 0 = 0 := by decide
        have j208_ : yjI false (Int32.toInt (M.1 (pvbs 2 + Int32.toNatClampNeg n1) 1)) (Int32.toInt n2) (yje M n1 n2) (Int32.toNatClampNeg (M.1 8 1)) 0 := yjI_0
        exact hlz159_ _ 0 none (zr_wide (show 0 ≤ Int32.toInt 0 ∧ Int32.toInt 0 ≤ 0 from (by decide)) (by decide) (by decide)) j208_ (zhid (Nat.lt_succ_self _))
      · refine pw_eqI (if_neg c24_) ?_
        have b209_ : 0 ≤ Int32.toInt (M.1 (pvbs 2 + Int32.toNatClampNeg n1) 0) ∧ Int32.toInt (M.1 (pvbs 2 + Int32.toNatClampNeg n1) 0) ≤ 4 := (by have u0 := b23_; have u1 := (not_congr (zi_eq _ _)).mp c24_; have u2 := (show (-1) ≤ Int32.toInt (-1) ∧ Int32.toInt (-1) ≤ (-1) from (by decide)); omega)
        show PW 182 d (20, [some (pvR 0), some (pvI n1), some (pvI n2), some (pvR (pvbs 2 + Int32.toNatClampNeg n1)), none, none], [pvI 0], M) _
        refine pw_ifn hT (c := 0 = 0) rfl rfl (fun c210_ => absurd (by decide) c210_) (fun c210_ => ?_)
        refine pw_blk hT 3 (S' := (28, [some (pvR 0), some (pvI n1), some (pvI n2), some (pvR (pvbs 2 + Int32.toNatClampNeg n1)), none, none], [pvI 4, pvI (M.1 (pvbs 2 + Int32.toNatClampNeg n1) 0)], M)) rfl ⟨trivial, k16_, trivial, trivial⟩ ?_
        refine pw_ic hT (c := (M.1 (pvbs 2 + Int32.toNatClampNeg n1) 0) = 4) rfl rfl (fun c211_ => ?_) (fun c211_ => ?_)
        · have b212_ : 4 ≤ Int32.toInt (M.1 (pvbs 2 + Int32.toNatClampNeg n1) 0) ∧ Int32.toInt (M.1 (pvbs 2 + Int32.toNatClampNeg n1) 0) ≤ 4 := (by have u0 := b209_; have u1 := (zi_eq _ _).mp c211_; have u2 := (show 4 ≤ Int32.toInt 4 ∧ Int32.toInt 4 ≤ 4 from (by decide)); omega)
          refine pw_blk hT 2 (S' := (37, [some (pvR 0), some (pvI n1), some (pvI n2), some (pvR (pvbs 2 + Int32.toNatClampNeg n1)), some (pvI 0), none], [], M)) rfl ⟨trivial, trivial, trivial⟩ ?_
          have hlz345_ : ∀ (nz345_ : Nat) (i4z345_ : Int32) (v5z345_ : Option pvV), (0 ≤ Int32.toInt i4z345_ ∧ Int32.toInt i4z345_ ≤ 7) → (yjI false (Int32.toInt (M.1 (pvbs 2 + Int32.toNatClampNeg n1) 1)) (Int32.toInt n2) (yje M n1 n2) (Int32.toNatClampNeg (M.1 8 1)) i4z345_) → (zhide ((8 - Int32.toInt i4z345_).toNat < nz345_)) → PW 182 d (37, [some (pvR 0), some (pvI n1), some (pvI n2), some (pvR (pvbs 2 + Int32.toNatClampNeg n1)), some (pvI i4z345_), v5z345_], [], M) (fun r X => (∃ x : Int32, r = some (pvI x) ∧ (-12) ≤ Int32.toInt x ∧ Int32.toInt x ≤ 106) ∧ X = M ∧ yju9 n1 n2 r M) := by
            intro nz345_
            induction nz345_ with
            | zero => intro i4z345_ v5z345_ h4z345_ j0z345_ hmz345_; exact absurd (zshow hmz345_) (Nat.not_lt_zero _)
            | succ nz345_ ihz345_ =>
              intro i4z345_ v5z345_ h4z345_ j0z345_ hmz345_
              have b346_ : 0 ≤ Int32.toInt (M.1 8 1) ∧ Int32.toInt (M.1 8 1) ≤ 7 := pvok_r hok 8 1 rfl
              refine pw_blk hT 4 (S' := (46, [some (pvR 0), some (pvI n1), some (pvI n2), some (pvR (pvbs 2 + Int32.toNatClampNeg n1)), some (pvI i4z345_), v5z345_], [pvI (M.1 8 1), pvI i4z345_], M)) rfl ⟨trivial, trivial, rfl, rfl, trivial⟩ ?_
              refine pw_ic hT (c := (M.1 8 1) ≤ i4z345_) rfl rfl (fun c347_ => ?_) (fun c347_ => ?_)
              · have d348_ : Int32.toInt (M.1 8 1) ≤ Int32.toInt i4z345_ := (zi_le _ _).mp c347_
                refine pw_blk hT 1 (S' := (120, [some (pvR 0), some (pvI n1), some (pvI n2), some (pvR (pvbs 2 + Int32.toNatClampNeg n1)), some (pvI i4z345_), v5z345_], [pvI (-5)], M)) rfl ⟨trivial, trivial⟩ ?_
                exact pw_ret hT rfl (r := some (pvI (-5))) (M' := M) ⟨rfl, rfl⟩ ⟨⟨_, rfl, (zr_wide (show (-5) ≤ Int32.toInt (-5) ∧ Int32.toInt (-5) ≤ (-5) from (by decide)) (by decide) (by decide))⟩, rfl, (yju9_i (by have u := b13_; omega) (Or.inr c211_) (by have v := (zi_le _ _).mp c347_; have t := ycl_ (pvok_r hok 8 1 (lo := 0) (hi := 7) rfl).1; exact (by decide : Int32.toInt (-5) = -5).trans (yjI_e j0z345_ (by omega) (by have u := h4z345_; omega))))⟩
              · have b349_ : 1 ≤ Int32.toInt (M.1 8 1) ∧ Int32.toInt (M.1 8 1) ≤ 7 := zr_nle_l 1 c347_ b346_ h4z345_ (by decide)
                have b350_ : 0 ≤ Int32.toInt i4z345_ ∧ Int32.toInt i4z345_ ≤ 6 := zr_nle_r 6 c347_ h4z345_ b349_ (by decide)
                have d351_ : Int32.toInt (M.1 8 1) > Int32.toInt i4z345_ := Int.not_le.mp ((not_congr (zi_le _ _)).mp c347_)
                refine pw_blk hT 1 (S' := (50, [some (pvR 0), some (pvI n1), some (pvI n2), some (pvR (pvbs 2 + Int32.toNatClampNeg n1)), some (pvI i4z345_), v5z345_], [pvI n2], M)) rfl ⟨trivial, trivial⟩ ?_
                refine pw_if hT (c := n2 < 0) rfl rfl (fun c352_ => ?_) (fun c352_ => ?_)
                · have b353_ : (-2147483648) ≤ Int32.toInt n2 ∧ Int32.toInt n2 ≤ (-1) := zr_lt_l (-1) c352_ (zbnd n2) (show 0 ≤ Int32.toInt 0 ∧ Int32.toInt 0 ≤ 0 from (by decide)) (by decide)
                  obtain ⟨q355_, b354_⟩ : (Int32.toInt (100 + i4z345_) = 100 + Int32.toInt i4z345_) ∧ (100 ≤ Int32.toInt (100 + i4z345_) ∧ Int32.toInt (100 + i4z345_) ≤ 106) := zadd_q 100 i4z345_ 100 100 106 b350_ (by decide) (by decide) (by decide) (by decide) (by decide)
                  refine pw_blk hT 3 (S' := (69, [some (pvR 0), some (pvI n1), some (pvI n2), some (pvR (pvbs 2 + Int32.toNatClampNeg n1)), some (pvI i4z345_), v5z345_], [pvI (100 + i4z345_)], M)) rfl ⟨trivial, trivial, trivial, trivial⟩ ?_
                  exact pw_ret hT rfl (r := some (pvI (100 + i4z345_))) (M' := M) ⟨rfl, rfl⟩ ⟨⟨_, rfl, (zr_wide b354_ (by decide) (by decide))⟩, rfl, (yju9_i (by have u := b13_; omega) (Or.inr c211_) (by have z := yjI_r j0z345_ (by have u := b350_; omega) (by have u := ycl_ (pvok_r hok 8 1 (lo := 0) (hi := 7) rfl).1; have v := (not_congr (zi_le _ _)).mp c347_; omega) (Or.inr (Or.inl (by have v := (zi_lt _ _).mp c352_; have u0 : (0 : Int32).toInt = 0 := (by decide); omega))); omega))⟩
                · have b356_ : 0 ≤ Int32.toInt n2 ∧ Int32.toInt n2 ≤ 2147483647 := zr_nlt_l 0 c352_ (zbnd n2) (show 0 ≤ Int32.toInt 0 ∧ Int32.toInt 0 ≤ 0 from (by decide)) (by decide)
                  have b357_ : 0 ≤ Int32.toInt (M.1 (pvbs 2 + Int32.toNatClampNeg n1) 1) ∧ Int32.toInt (M.1 (pvbs 2 + Int32.toNatClampNeg n1) 1) ≤ 60 := pvok_r hok (pvbs 2 + Int32.toNatClampNeg n1) 1 ((pvrg_o 1 k16_ (by decide) (by decide)).trans rfl)
                  obtain ⟨q359_, b358_⟩ : (Int32.toInt ((M.1 (pvbs 2 + Int32.toNatClampNeg n1) 1) - i4z345_) = Int32.toInt (M.1 (pvbs 2 + Int32.toNatClampNeg n1) 1) - Int32.toInt i4z345_) ∧ ((-6) ≤ Int32.toInt ((M.1 (pvbs 2 + Int32.toNatClampNeg n1) 1) - i4z345_) ∧ Int32.toInt ((M.1 (pvbs 2 + Int32.toNatClampNeg n1) 1) - i4z345_) ≤ 60) := zsub_r (M.1 (pvbs 2 + Int32.toNatClampNeg n1) 1) i4z345_ (-6) 60 b357_ b350_ (by decide) (by decide) (by decide) (by decide)
                  refine pw_blk hT 5 (S' := (61, [some (pvR 0), some (pvI n1), some (pvI n2), some (pvR (pvbs 2 + Int32.toNatClampNeg n1)), some (pvI i4z345_), v5z345_], [pvI ((M.1 (pvbs 2 + Int32.toNatClampNeg n1) 1) - i4z345_), pvI n2], M)) rfl ⟨trivial, trivial, k16_, trivial, trivial, trivial⟩ ?_
                  refine pw_ic hT (c := n2 < ((M.1 (pvbs 2 + Int32.toNatClampNeg n1) 1) - i4z345_)) rfl rfl (fun c360_ => ?_) (fun c360_ => ?_)
                  · have b361_ : 0 ≤ Int32.toInt n2 ∧ Int32.toInt n2 ≤ 59 := zr_lt_l 59 c360_ b356_ b358_ (by decide)
                    have b362_ : 1 ≤ Int32.toInt ((M.1 (pvbs 2 + Int32.toNatClampNeg n1) 1) - i4z345_) ∧ Int32.toInt ((M.1 (pvbs 2 + Int32.toNatClampNeg n1) 1) - i4z345_) ≤ 60 := zr_lt_r 1 c360_ b358_ b361_ (by decide)
                    have d363_ : Int32.toInt n2 < Int32.toInt ((M.1 (pvbs 2 + Int32.toNatClampNeg n1) 1) - i4z345_) := (zi_lt _ _).mp c360_
                    obtain ⟨q365_, b364_⟩ : (Int32.toInt (n2 + i4z345_) = Int32.toInt n2 + Int32.toInt i4z345_) ∧ (0 ≤ Int32.toInt (n2 + i4z345_) ∧ Int32.toInt (n2 + i4z345_) ≤ 65) := zadd_r n2 i4z345_ 0 65 b361_ b350_ (by decide) (by decide) (by decide) (by decide)
                    refine pw_blk hT 8 (S' := (81, [some (pvR 0), some (pvI n1), some (pvI n2), some (pvR (pvbs 2 + Int32.toNatClampNeg n1)), some (pvI i4z345_), v5z345_], [pvI (lg_cmp (M.2 ((pvbs 2 + Int32.toNatClampNeg n1) + 6) (Int32.toNatClampNeg (n2 + i4z345_))) 0)], M)) rfl ⟨trivial, k16_, trivial, trivial, trivial, ⟨(pvow_7_6 k16_).1, (by rw [(pvow_7_6 k16_).2.1]; exact (vp_in_iff.mpr (show 0 ≤ Int32.toInt (n2 + i4z345_) ∧ Int32.toInt (n2 + i4z345_) < ((60 : Nat) : Int) from (by have u0 := b364_; omega))))⟩, trivial, trivial, trivial⟩ ?_
                    refine pw_if hT (c := (lg_cmp (M.2 ((pvbs 2 + Int32.toNatClampNeg n1) + 6) (Int32.toNatClampNeg (n2 + i4z345_))) 0) = 0) rfl rfl (fun c366_ => ?_) (fun c366_ => ?_)
                    · have b367_ : 0 ≤ Int32.toInt (lg_cmp (M.2 ((pvbs 2 + Int32.toNatClampNeg n1) + 6) (Int32.toNatClampNeg (n2 + i4z345_))) 0) ∧ Int32.toInt (lg_cmp (M.2 ((pvbs 2 + Int32.toNatClampNeg n1) + 6) (Int32.toNatClampNeg (n2 + i4z345_))) 0) ≤ 0 := (by have u0 := (zbnd (lg_cmp (M.2 ((pvbs 2 + Int32.toNatClampNeg n1) + 6) (Int32.toNatClampNeg (n2 + i4z345_))) 0)); have u1 := (zi_eq _ _).mp c366_; have u2 := (show 0 ≤ Int32.toInt 0 ∧ Int32.toInt 0 ≤ 0 from (by decide)); omega)
                      refine pw_blkr hT 8 (pc := 103) (lo := [some (pvR 0), some (pvI n1), some (pvI n2), some (pvR (pvbs 2 + Int32.toNatClampNeg n1)), some (pvI i4z345_), some (pvI 0)]) (st := [pvI 0]) (M := M) (z := (pvbs 10 + Int32.toNatClampNeg i4z345_)) rfl ⟨trivial, trivial, trivial, trivial, rfl, rfl, trivial, ⟨rfl, (zr_in (n := 7) b350_ (by decide) (by decide))⟩, trivial⟩ (fun q368_ e370_ => ?_)
                      have k369_ : pvkl q368_ = 3 := pvel_10 (zr_in (n := 7) b350_ (by decide) (by decide)) e370_
                      subst e370_
                      have b371_ : 0 ≤ Int32.toInt (M.1 (pvbs 10 + Int32.toNatClampNeg i4z345_) 5) ∧ Int32.toInt (M.1 (pvbs 10 + Int32.toNatClampNeg i4z345_) 5) ≤ 1 := pvok_r hok (pvbs 10 + Int32.toNatClampNeg i4z345_) 5 ((pvrg_o 5 k369_ (by decide) (by decide)).trans rfl)
                      refine pw_blk hT 1 (S' := (106, [some (pvR 0), some (pvI n1), some (pvI n2), some (pvR (pvbs 2 + Int32.toNatClampNeg n1)), some (pvI i4z345_), some (pvI 0)], [pvI (M.1 (pvbs 10 + Int32.toNatClampNeg i4z345_) 5), pvI 0], M)) rfl ⟨k369_, trivial⟩ ?_
                      refine pw_ic hT (c := 0 = (M.1 (pvbs 10 + Int32.toNatClampNeg i4z345_) 5)) rfl rfl (fun c372_ => ?_) (fun c372_ => ?_)
                      · have b373_ : 0 ≤ Int32.toInt (M.1 (pvbs 10 + Int32.toNatClampNeg i4z345_) 5) ∧ Int32.toInt (M.1 (pvbs 10 + Int32.toNatClampNeg i4z345_) 5) ≤ 0 := (by have u0 := b371_; have u1 := (zi_eq _ _).mp c372_; have u2 := (show 0 ≤ Int32.toInt 0 ∧ Int32.toInt 0 ≤ 0 from (by decide)); omega)
                        obtain ⟨q375_, b374_⟩ : (Int32.toInt (i4z345_ + 1) = Int32.toInt i4z345_ + 1) ∧ (1 ≤ Int32.toInt (i4z345_ + 1) ∧ Int32.toInt (i4z345_ + 1) ≤ 7) := zadd_k i4z345_ 1 1 1 7 b350_ (by decide) (by decide) (by decide) (by decide) (by decide)
                        refine pw_blk hT 2 (S' := (37, [some (pvR 0), some (pvI n1), some (pvI n2), some (pvR (pvbs 2 + Int32.toNatClampNeg n1)), some (pvI (i4z345_ + 1)), some (pvI 0)], [], M)) rfl ⟨trivial, trivial, trivial⟩ ?_
                        have u376_ : Int32.toInt 0 = 0 := by decide
                        have j377_ : yjI false (Int32.toInt (M.1 (pvbs 2 + Int32.toNatClampNeg n1) 1)) (Int32.toInt n2) (yje M n1 n2) (Int32.toNatClampNeg (M.1 8 1)) (i4z345_ + 1) := (yjI_s j0z345_ (by have u := b350_; omega) (by have u := ycl_ (pvok_r hok 8 1 (lo := 0) (hi := 7) rfl).1; have v := (not_congr (zi_le _ _)).mp c347_; omega) (yjf (yjc (by have v := (not_congr (zi_lt _ _)).mp c352_; have u0 : (0 : Int32).toInt = 0 := (by decide); omega) (by have v := (zi_lt _ _).mp c360_; omega))) (yje_y (by have u := b361_; omega) (by have u := b350_; omega) (Or.inl ⟨c366_, (by have u := b373_; omega)⟩)) (by omega))
                        exact ihz345_ (i4z345_ + 1) (some (pvI 0)) (zr_wide b374_ (by decide) (by decide)) j377_ (zhid (pvms_up (zshow hmz345_) h4z345_ q375_ (by decide) (by decide)))
                      · have b378_ : 1 ≤ Int32.toInt (M.1 (pvbs 10 + Int32.toNatClampNeg i4z345_) 5) ∧ Int32.toInt (M.1 (pvbs 10 + Int32.toNatClampNeg i4z345_) 5) ≤ 1 := (by have u0 := b371_; have u1 := (not_congr (zi_eq _ _)).mp c372_; have u2 := (show 0 ≤ Int32.toInt 0 ∧ Int32.toInt 0 ≤ 0 from (by decide)); omega)
                        refine pw_blk hT 1 (S' := (111, [some (pvR 0), some (pvI n1), some (pvI n2), some (pvR (pvbs 2 + Int32.toNatClampNeg n1)), some (pvI i4z345_), some (pvI 0)], [pvI i4z345_], M)) rfl ⟨trivial, trivial⟩ ?_
                        exact pw_ret hT rfl (r := some (pvI i4z345_)) (M' := M) ⟨rfl, rfl⟩ ⟨⟨_, rfl, (zr_wide b350_ (by decide) (by decide))⟩, rfl, (yju9_i (by have u := b13_; omega) (Or.inr c211_) (yjI_n j0z345_ (by have u := b350_; omega) (by have u := ycl_ (pvok_r hok 8 1 (lo := 0) (hi := 7) rfl).1; have v := (not_congr (zi_le _ _)).mp c347_; omega) (yjf (yjc (by have v := (not_congr (zi_lt _ _)).mp c352_; have u0 : (0 : Int32).toInt = 0 := (by decide); omega) (by have v := (zi_lt _ _).mp c360_; omega))) (yje_n (by have u := b361_; omega) (by have u := b350_; omega) (Or.inl ⟨c366_, (by have u := b378_; omega)⟩))))⟩
                    · refine pw_blkr hT 9 (pc := 103) (lo := [some (pvR 0), some (pvI n1), some (pvI n2), some (pvR (pvbs 2 + Int32.toNatClampNeg n1)), some (pvI i4z345_), some (pvI 1)]) (st := [pvI 1]) (M := M) (z := (pvbs 10 + Int32.toNatClampNeg i4z345_)) rfl ⟨trivial, trivial, trivial, trivial, trivial, rfl, rfl, trivial, ⟨rfl, (zr_in (n := 7) b350_ (by decide) (by decide))⟩, trivial⟩ (fun q379_ e381_ => ?_)
                      have k380_ : pvkl q379_ = 3 := pvel_10 (zr_in (n := 7) b350_ (by decide) (by decide)) e381_
                      subst e381_
                      have b382_ : 0 ≤ Int32.toInt (M.1 (pvbs 10 + Int32.toNatClampNeg i4z345_) 5) ∧ Int32.toInt (M.1 (pvbs 10 + Int32.toNatClampNeg i4z345_) 5) ≤ 1 := pvok_r hok (pvbs 10 + Int32.toNatClampNeg i4z345_) 5 ((pvrg_o 5 k380_ (by decide) (by decide)).trans rfl)
                      refine pw_blk hT 1 (S' := (106, [some (pvR 0), some (pvI n1), some (pvI n2), some (pvR (pvbs 2 + Int32.toNatClampNeg n1)), some (pvI i4z345_), some (pvI 1)], [pvI (M.1 (pvbs 10 + Int32.toNatClampNeg i4z345_) 5), pvI 1], M)) rfl ⟨k380_, trivial⟩ ?_
                      refine pw_ic hT (c := 1 = (M.1 (pvbs 10 + Int32.toNatClampNeg i4z345_) 5)) rfl rfl (fun c383_ => ?_) (fun c383_ => ?_)
                      · have b384_ : 1 ≤ Int32.toInt (M.1 (pvbs 10 + Int32.toNatClampNeg i4z345_) 5) ∧ Int32.toInt (M.1 (pvbs 10 + Int32.toNatClampNeg i4z345_) 5) ≤ 1 := (by have u0 := b382_; have u1 := (zi_eq _ _).mp c383_; have u2 := (show 1 ≤ Int32.toInt 1 ∧ Int32.toInt 1 ≤ 1 from (by decide)); omega)
                        obtain ⟨q386_, b385_⟩ : (Int32.toInt (i4z345_ + 1) = Int32.toInt i4z345_ + 1) ∧ (1 ≤ Int32.toInt (i4z345_ + 1) ∧ Int32.toInt (i4z345_ + 1) ≤ 7) := zadd_k i4z345_ 1 1 1 7 b350_ (by decide) (by decide) (by decide) (by decide) (by decide)
                        refine pw_blk hT 2 (S' := (37, [some (pvR 0), some (pvI n1), some (pvI n2), some (pvR (pvbs 2 + Int32.toNatClampNeg n1)), some (pvI (i4z345_ + 1)), some (pvI 1)], [], M)) rfl ⟨trivial, trivial, trivial⟩ ?_
                        have u387_ : Int32.toInt 1 = 1 := by decide
                        have j388_ : yjI false (Int32.toInt (M.1 (pvbs 2 + Int32.toNatClampNeg n1) 1)) (Int32.toInt n2) (yje M n1 n2) (Int32.toNatClampNeg (M.1 8 1)) (i4z345_ + 1) := (yjI_s j0z345_ (by have u := b350_; omega) (by have u := ycl_ (pvok_r hok 8 1 (lo := 0) (hi := 7) rfl).1; have v := (not_congr (zi_le _ _)).mp c347_; omega) (yjf (yjc (by have v := (not_congr (zi_lt _ _)).mp c352_; have u0 : (0 : Int32).toInt = 0 := (by decide); omega) (by have v := (zi_lt _ _).mp c360_; omega))) (yje_y (by have u := b361_; omega) (by have u := b350_; omega) (Or.inr ⟨c366_, (by have u := b384_; omega)⟩)) (by omega))
                        exact ihz345_ (i4z345_ + 1) (some (pvI 1)) (zr_wide b385_ (by decide) (by decide)) j388_ (zhid (pvms_up (zshow hmz345_) h4z345_ q386_ (by decide) (by decide)))
                      · have b389_ : 0 ≤ Int32.toInt (M.1 (pvbs 10 + Int32.toNatClampNeg i4z345_) 5) ∧ Int32.toInt (M.1 (pvbs 10 + Int32.toNatClampNeg i4z345_) 5) ≤ 0 := (by have u0 := b382_; have u1 := (not_congr (zi_eq _ _)).mp c383_; have u2 := (show 1 ≤ Int32.toInt 1 ∧ Int32.toInt 1 ≤ 1 from (by decide)); omega)
                        refine pw_blk hT 1 (S' := (111, [some (pvR 0), some (pvI n1), some (pvI n2), some (pvR (pvbs 2 + Int32.toNatClampNeg n1)), some (pvI i4z345_), some (pvI 1)], [pvI i4z345_], M)) rfl ⟨trivial, trivial⟩ ?_
                        exact pw_ret hT rfl (r := some (pvI i4z345_)) (M' := M) ⟨rfl, rfl⟩ ⟨⟨_, rfl, (zr_wide b350_ (by decide) (by decide))⟩, rfl, (yju9_i (by have u := b13_; omega) (Or.inr c211_) (yjI_n j0z345_ (by have u := b350_; omega) (by have u := ycl_ (pvok_r hok 8 1 (lo := 0) (hi := 7) rfl).1; have v := (not_congr (zi_le _ _)).mp c347_; omega) (yjf (yjc (by have v := (not_congr (zi_lt _ _)).mp c352_; have u0 : (0 : Int32).toInt = 0 := (by decide); omega) (by have v := (zi_lt _ _).mp c360_; omega))) (yje_n (by have u := b361_; omega) (by have u := b350_; omega) (Or.inr ⟨c366_, (by have u := b389_; omega)⟩))))⟩
                  · have d390_ : Int32.toInt n2 ≥ Int32.toInt ((M.1 (pvbs 2 + Int32.toNatClampNeg n1) 1) - i4z345_) := Int.not_lt.mp ((not_congr (zi_lt _ _)).mp c360_)
                    obtain ⟨q392_, b391_⟩ : (Int32.toInt (100 + i4z345_) = 100 + Int32.toInt i4z345_) ∧ (100 ≤ Int32.toInt (100 + i4z345_) ∧ Int32.toInt (100 + i4z345_) ≤ 106) := zadd_q 100 i4z345_ 100 100 106 b350_ (by decide) (by decide) (by decide) (by decide) (by decide)
                    refine pw_blk hT 3 (S' := (69, [some (pvR 0), some (pvI n1), some (pvI n2), some (pvR (pvbs 2 + Int32.toNatClampNeg n1)), some (pvI i4z345_), v5z345_], [pvI (100 + i4z345_)], M)) rfl ⟨trivial, trivial, trivial, trivial⟩ ?_
                    exact pw_ret hT rfl (r := some (pvI (100 + i4z345_))) (M' := M) ⟨rfl, rfl⟩ ⟨⟨_, rfl, (zr_wide b391_ (by decide) (by decide))⟩, rfl, (yju9_i (by have u := b13_; omega) (Or.inr c211_) (by have z := yjI_r j0z345_ (by have u := b350_; omega) (by have u := ycl_ (pvok_r hok 8 1 (lo := 0) (hi := 7) rfl).1; have v := (not_congr (zi_le _ _)).mp c347_; omega) (Or.inr (Or.inr (by have v := (not_congr (zi_lt _ _)).mp c360_; omega))); omega))⟩
          have u393_ : Int32.toInt 0 = 0 := by decide
          have j394_ : yjI false (Int32.toInt (M.1 (pvbs 2 + Int32.toNatClampNeg n1) 1)) (Int32.toInt n2) (yje M n1 n2) (Int32.toNatClampNeg (M.1 8 1)) 0 := yjI_0
          exact hlz345_ _ 0 none (zr_wide (show 0 ≤ Int32.toInt 0 ∧ Int32.toInt 0 ≤ 0 from (by decide)) (by decide) (by decide)) j394_ (zhid (Nat.lt_succ_self _))
        · have b395_ : 0 ≤ Int32.toInt (M.1 (pvbs 2 + Int32.toNatClampNeg n1) 0) ∧ Int32.toInt (M.1 (pvbs 2 + Int32.toNatClampNeg n1) 0) ≤ 3 := (by have u0 := b209_; have u1 := (not_congr (zi_eq _ _)).mp c211_; have u2 := (show 4 ≤ Int32.toInt 4 ∧ Int32.toInt 4 ≤ 4 from (by decide)); omega)
          refine pw_blk hT 1 (S' := (33, [some (pvR 0), some (pvI n1), some (pvI n2), some (pvR (pvbs 2 + Int32.toNatClampNeg n1)), none, none], [pvI (-12)], M)) rfl ⟨trivial, trivial⟩ ?_
          exact pw_ret hT rfl (r := some (pvI (-12))) (M' := M) ⟨rfl, rfl⟩ ⟨⟨_, rfl, (zr_wide (show (-12) ≤ Int32.toInt (-12) ∧ Int32.toInt (-12) ≤ (-12) from (by decide)) (by decide) (by decide))⟩, rfl, (yju9_c (by have u := b13_; omega) ⟨c24_, c211_⟩ (by decide))⟩
def fpL_eX9_go_0_x : List (Nat × Nat × Nat) := [(0, 8, 5), (0, 8, 6)]
def fp_eX9_go_0_x (q k : Nat) : Bool := pvfp fpL_eX9_go_0_x q k
set_option maxHeartbeats 4000000 in
set_option maxRecDepth 10000 in
theorem se_X9_go_0_x (M : pvM) (hok : pvOk M) (n1 : Int32) (hn1 : 0 ≤ Int32.toInt n1 ∧ Int32.toInt n1 ≤ 9999) (hx0 : Int32.toInt (M.1 8 4) + Int32.toInt n1 ≤ 9999) (d : Nat) : PW 175 d (0, [some (pvR 0), some (pvI n1), none], [], M) (fun r X => (∃ x : Int32, r = some (pvI x) ∧ True) ∧ pvOk X ∧ pvFr fp_eX9_go_0_x M X ∧ X.1 8 4 = ((M.1 8 4) + n1)) := by
  have hT : pvdom 175 = pvD_175 := rfl
  have b1_ : 0 ≤ Int32.toInt (M.1 8 4) ∧ Int32.toInt (M.1 8 4) ≤ 9999 := pvok_r hok 8 4 rfl
  refine pw_blk hT 2 (S' := (2, [some (pvR 0), some (pvI n1), none], [pvI n1, pvR 0], M)) rfl ⟨trivial, trivial, trivial⟩ ?_
  refine pw_callGp hT (as := [pvR 0, pvI n1]) (lo1 := [some (pvR 0), some (pvI n1), none]) (d1 := d) (rest := []) rfl rfl rfl rfl rfl (fun _ => rfl) (Nat.zero_le _) rfl rfl rfl (sf_X9_wetMore_0_x M hok n1 hn1 d) (fun x2_ b4_ => ?_)
  refine pw_blkw hT 8 (pc := 19) (lo := [some (pvR 0), some (pvI n1), some (pvI x2_)]) (st := []) (M := pvu M 8 5 ((M.1 8 5) + x2_)) rfl ⟨trivial, trivial, rfl, trivial, rfl, trivial, trivial, rfl, trivial⟩ (fun M7_ e8_ => ?_)
  have o9_ : pvOk M7_ := pvok_u2 e8_ hok rfl (zbnd ((M.1 8 5) + x2_))
  have f10_ : pvFr fp_eX9_go_0_x M M7_ := pvfr_u e8_ pvfr_0 rfl
  have e11_ : (M7_.1 8 4) = (M.1 8 4) := (pvu_n e8_ 8 4 (Or.inr (by decide)))
  have b12_ : 0 ≤ Int32.toInt (M7_.1 8 4) ∧ Int32.toInt (M7_.1 8 4) ≤ 9999 := pvok_r o9_ 8 4 rfl
  have d13_ : Int32.toInt (M7_.1 8 4) = Int32.toInt (M.1 8 4) := congrArg Int32.toInt e11_
  obtain ⟨q15_, b14_⟩ : (Int32.toInt ((M7_.1 8 4) + n1) = Int32.toInt (M7_.1 8 4) + Int32.toInt n1) ∧ (0 ≤ Int32.toInt ((M7_.1 8 4) + n1) ∧ Int32.toInt ((M7_.1 8 4) + n1) ≤ 19998) := zadd_r (M7_.1 8 4) n1 0 19998 b12_ hn1 (by decide) (by decide) (by decide) (by decide)
  refine pw_blkw hT 7 (pc := 32) (lo := [some (pvR 0), some (pvI n1), some (pvI x2_)]) (st := []) (M := pvu M7_ 8 4 ((M7_.1 8 4) + n1)) rfl ⟨trivial, rfl, trivial, rfl, trivial, trivial, rfl, trivial⟩ (fun M16_ e17_ => ?_)
  have o18_ : pvOk M16_ := pvok_u2 e17_ o9_ rfl (by have u0 := b14_; omega)
  have f19_ : pvFr fp_eX9_go_0_x M M16_ := pvfr_u e17_ f10_ rfl
  refine pw_blk hT 1 (S' := (33, [some (pvR 0), some (pvI n1), some (pvI x2_)], [pvI x2_], M16_)) rfl ⟨trivial, trivial⟩ ?_
  exact pw_ret hT rfl (r := some (pvI x2_)) (M' := M16_) ⟨rfl, rfl⟩ ⟨⟨_, rfl, trivial⟩, o18_, f19_, ((pvu_s e17_).trans (show ((M7_.1 8 4) + n1) = ((M.1 8 4) + n1) from by rw [(pvu_n e8_ 8 4 (Or.inr (by decide)))]))⟩
def fpL_eX9_pass_0_x : List (Nat × Nat × Nat) := [(0, 12, 0), (0, 13, 0), (0, 14, 0), (0, 5, 2), (0, 5, 3), (0, 8, 5), (0, 8, 6), (1, 112, 0)]
def fp_eX9_pass_0_x (q k : Nat) : Bool := pvfp fpL_eX9_pass_0_x q k
theorem fp_eX9_pass_0_x_fp_X1_beginFromNow_5 (a b : Nat) (h : fp_X1_beginFromNow_5 a b = true) : fp_eX9_pass_0_x a b = true := pvfp_sub (l1 := fpL_X1_beginFromNow_5) (l2 := fpL_eX9_pass_0_x) (by decide) a b h
theorem fp_eX9_pass_0_x_fp_eX9_go_0_x (a b : Nat) (h : fp_eX9_go_0_x a b = true) : fp_eX9_pass_0_x a b = true := pvfp_sub (l1 := fpL_eX9_go_0_x) (l2 := fpL_eX9_pass_0_x) (by decide) a b h
set_option maxHeartbeats 4000000 in
set_option maxRecDepth 10000 in
theorem se_X9_pass_0_x (M : pvM) (hok : pvOk M) (n1 : Int32) (d : Nat) : PW 192 d (0, [some (pvR 0), some (pvI n1)], [], M) (fun r X => (∃ x : Int32, r = some (pvI x) ∧ True) ∧ pvOk X ∧ pvFr fp_eX9_pass_0_x M X ∧ zwG n1 (zw9 8 60 M) (zw9 8 60 X)) := by
  have hT : pvdom 192 = pvD_192 := rfl
  have b1_ : 0 ≤ Int32.toInt (M.1 8 4) ∧ Int32.toInt (M.1 8 4) ≤ 9999 := pvok_r hok 8 4 rfl
  refine pw_blk hT 3 (S' := (4, [some (pvR 0), some (pvI n1)], [pvI 99, pvI 0, pvI n1], M)) rfl ⟨trivial, trivial, trivial, trivial⟩ ?_
  refine pw_callT hT (as := [pvI n1, pvI 0, pvI 99]) (lo1 := [some (pvI n1), some (pvI 0), some (pvI 99)]) (d1 := d) (rest := []) rfl rfl rfl rfl rfl (fun h => absurd h (by decide)) (Nat.zero_le _) rfl rfl rfl (sf_X9_within_x_x_x M hok n1 0 99 d) ?_
  by_cases c7_ : n1 < 0
  · refine pw_eqI (if_pos c7_) ?_
    have b8_ : (-2147483648) ≤ Int32.toInt n1 ∧ Int32.toInt n1 ≤ (-1) := zr_lt_l (-1) c7_ (zbnd n1) (show 0 ≤ Int32.toInt 0 ∧ Int32.toInt 0 ≤ 0 from (by decide)) (by decide)
    show PW 192 d (7, [some (pvR 0), some (pvI n1)], [pvI 0], M) _
    refine pw_ifn hT (c := 0 = 0) rfl rfl (fun c9_ => absurd (by decide) c9_) (fun c9_ => ?_)
    refine pw_blk hT 1 (S' := (12, [some (pvR 0), some (pvI n1)], [pvI (-2)], M)) rfl ⟨trivial, trivial⟩ ?_
    exact pw_ret hT rfl (r := some (pvI (-2))) (M' := M) ⟨rfl, rfl⟩ ⟨⟨_, rfl, trivial⟩, hok, pvfr_0, (zwG_n (fun z => by have v := (zi_lt _ _).mp c7_; have w := z.1; have u0 : (0 : Int32).toInt = 0 := (by decide); have u99 : (99 : Int32).toInt = 99 := (by decide); have u9 : (9999 : Int32).toInt = 9999 := (by decide); omega))⟩
  · refine pw_eqI (if_neg c7_) ?_
    have b10_ : 0 ≤ Int32.toInt n1 ∧ Int32.toInt n1 ≤ 2147483647 := zr_nlt_l 0 c7_ (zbnd n1) (show 0 ≤ Int32.toInt 0 ∧ Int32.toInt 0 ≤ 0 from (by decide)) (by decide)
    by_cases c11_ : 99 < n1
    · refine pw_eqI (if_pos c11_) ?_
      have b12_ : 100 ≤ Int32.toInt n1 ∧ Int32.toInt n1 ≤ 2147483647 := zr_lt_r 100 c11_ b10_ (show 99 ≤ Int32.toInt 99 ∧ Int32.toInt 99 ≤ 99 from (by decide)) (by decide)
      show PW 192 d (7, [some (pvR 0), some (pvI n1)], [pvI 0], M) _
      refine pw_ifn hT (c := 0 = 0) rfl rfl (fun c13_ => absurd (by decide) c13_) (fun c13_ => ?_)
      refine pw_blk hT 1 (S' := (12, [some (pvR 0), some (pvI n1)], [pvI (-2)], M)) rfl ⟨trivial, trivial⟩ ?_
      exact pw_ret hT rfl (r := some (pvI (-2))) (M' := M) ⟨rfl, rfl⟩ ⟨⟨_, rfl, trivial⟩, hok, pvfr_0, (zwG_n (fun z => by have v := (zi_lt _ _).mp c11_; have w := z.1; have u0 : (0 : Int32).toInt = 0 := (by decide); have u99 : (99 : Int32).toInt = 99 := (by decide); have u9 : (9999 : Int32).toInt = 9999 := (by decide); omega))⟩
    · refine pw_eqI (if_neg c11_) ?_
      have b14_ : 0 ≤ Int32.toInt n1 ∧ Int32.toInt n1 ≤ 99 := zr_nlt_r 99 c11_ b10_ (show 99 ≤ Int32.toInt 99 ∧ Int32.toInt 99 ≤ 99 from (by decide)) (by decide)
      show PW 192 d (7, [some (pvR 0), some (pvI n1)], [pvI 1], M) _
      refine pw_ifn hT (c := 1 = 0) rfl rfl (fun c15_ => ?_) (fun c15_ => absurd c15_ (by decide))
      obtain ⟨q17_, b16_⟩ : (Int32.toInt ((M.1 8 4) + n1) = Int32.toInt (M.1 8 4) + Int32.toInt n1) ∧ (0 ≤ Int32.toInt ((M.1 8 4) + n1) ∧ Int32.toInt ((M.1 8 4) + n1) ≤ 10098) := zadd_r (M.1 8 4) n1 0 10098 b1_ b14_ (by decide) (by decide) (by decide) (by decide)
      refine pw_blk hT 6 (S' := (25, [some (pvR 0), some (pvI n1)], [pvI 9999, pvI ((M.1 8 4) + n1)], M)) rfl ⟨trivial, rfl, rfl, trivial, trivial, trivial, trivial⟩ ?_
      refine pw_ic hT (c := ((M.1 8 4) + n1) ≤ 9999) rfl rfl (fun c18_ => ?_) (fun c18_ => ?_)
      · have b19_ : 0 ≤ Int32.toInt ((M.1 8 4) + n1) ∧ Int32.toInt ((M.1 8 4) + n1) ≤ 9999 := zr_le_l 9999 c18_ b16_ (show 9999 ≤ Int32.toInt 9999 ∧ Int32.toInt 9999 ≤ 9999 from (by decide)) (by decide)
        refine pw_blk hT 2 (S' := (35, [some (pvR 0), some (pvI n1)], [pvR 5], M)) rfl ⟨trivial, rfl, trivial⟩ ?_
        refine pw_callV hT (as := [pvR 5]) (lo1 := [some (pvR 5)]) (d1 := d) (rest := []) rfl rfl rfl rfl rfl (fun _ => rfl) (Nat.zero_le _) rfl rfl rfl (sf_X1_beginFromNow_5 M hok d) (fun M21_ o23_ g24_ => ?_)
        have f25_ : pvFr fp_eX9_pass_0_x M M21_ := pvfr_t g24_ pvfr_0 fp_eX9_pass_0_x_fp_X1_beginFromNow_5
        refine pw_blk hT 2 (S' := (40, [some (pvR 0), some (pvI n1)], [pvI n1, pvR 0], M21_)) rfl ⟨trivial, trivial, trivial⟩ ?_
        have e26_ : (M21_.1 8 4) = (M.1 8 4) := (g24_ 8 4 rfl)
        have b27_ : 0 ≤ Int32.toInt (M21_.1 8 4) ∧ Int32.toInt (M21_.1 8 4) ≤ 9999 := pvok_r o23_ 8 4 rfl
        have d28_ : Int32.toInt (M21_.1 8 4) = Int32.toInt (M.1 8 4) := congrArg Int32.toInt e26_
        refine pw_callGd hT (as := [pvR 0, pvI n1]) (lo1 := [some (pvR 0), some (pvI n1), none]) (d1 := d) (rest := []) rfl rfl rfl rfl rfl (fun _ => rfl) (Nat.zero_le _) rfl rfl rfl (se_X9_go_0_x M21_ o23_ n1 (zr_wide b14_ (by decide) (by decide)) (show Int32.toInt (M21_.1 8 4) + Int32.toInt n1 ≤ 9999 from (by omega)) d) (fun x30_ M31_ b32_ o33_ g34_ d29_ => ?_)
        have f35_ : pvFr fp_eX9_pass_0_x M M31_ := pvfr_t g34_ f25_ fp_eX9_pass_0_x_fp_eX9_go_0_x
        exact pw_ret hT rfl (r := some (pvI x30_)) (M' := M31_) ⟨rfl, rfl⟩ ⟨⟨_, rfl, trivial⟩, o33_, f35_, (zwG_i ⟨b14_, (show Int32.toInt (M.1 8 4) + Int32.toInt n1 ≤ 9999 from by have b := b19_; omega)⟩ (d29_.trans (show ((M21_.1 8 4) + n1) = ((M.1 8 4) + n1) from by rw [(g24_ 8 4 rfl)])) ((g34_ 8 6 rfl).trans (g24_ 8 6 rfl)) ((g34_ 8 7 rfl).trans (g24_ 8 7 rfl)) (fun i hi => ((zfr5 (L := fpL_eX9_go_0_x) g34_ (by decide +kernel) i hi).trans (zfr5 (L := fpL_X1_beginFromNow_5) g24_ (by decide +kernel) i hi))))⟩
      · have b36_ : 10000 ≤ Int32.toInt ((M.1 8 4) + n1) ∧ Int32.toInt ((M.1 8 4) + n1) ≤ 10098 := zr_nle_l 10000 c18_ b16_ (show 9999 ≤ Int32.toInt 9999 ∧ Int32.toInt 9999 ≤ 9999 from (by decide)) (by decide)
        refine pw_blk hT 1 (S' := (30, [some (pvR 0), some (pvI n1)], [pvI (-3)], M)) rfl ⟨trivial, trivial⟩ ?_
        exact pw_ret hT rfl (r := some (pvI (-3))) (M' := M) ⟨rfl, rfl⟩ ⟨⟨_, rfl, trivial⟩, hok, pvfr_0, (zwG_n (fun z => by have w : Int32.toInt (M.1 8 4) + Int32.toInt n1 ≤ 9999 := z.2; have b := b36_; omega))⟩
def fpL_eX9_put_0_x_x : List (Nat × Nat × Nat) := [(1, 3, 6)]
def fp_eX9_put_0_x_x (q k : Nat) : Bool := pvfp fpL_eX9_put_0_x_x q k
set_option maxHeartbeats 4000000 in
set_option maxRecDepth 10000 in
theorem se_X9_put_0_x_x (M : pvM) (hok : pvOk M) (n1 : Int32) (n2 : Int32) (hn2 : 0 ≤ Int32.toInt n2 ∧ Int32.toInt n2 ≤ 1) (d : Nat) : PW 193 d (0, [some (pvR 0), some (pvI n1), some (pvI n2), none, none], [], M) (fun r X => (∃ x : Int32, r = some (pvI x) ∧ (-1) ≤ Int32.toInt x ∧ Int32.toInt x ≤ 1) ∧ pvOk X ∧ pvFr fp_eX9_put_0_x_x M X ∧ zPT9 n1 n2 r M X ∧ zKy9 9 74 M X) := by
  have hT : pvdom 193 = pvD_193 := rfl
  refine pw_blk hT 3 (S' := (5, [some (pvR 0), some (pvI n1), some (pvI n2), none, none], [pvI n1, pvR 8], M)) rfl ⟨trivial, rfl, trivial, trivial⟩ ?_
  refine pw_callT hT (as := [pvR 8, pvI n1]) (lo1 := [some (pvR 8), some (pvI n1)]) (d1 := d) (rest := []) rfl rfl rfl rfl rfl (fun _ => rfl) (Nat.zero_le _) rfl rfl rfl (sf_X7_has_8_x M hok n1 d) ?_
  by_cases c6_ : n1 < 0
  · refine pw_eqI (if_pos c6_) ?_
    have b7_ : (-2147483648) ≤ Int32.toInt n1 ∧ Int32.toInt n1 ≤ (-1) := zr_lt_l (-1) c6_ (zbnd n1) (show 0 ≤ Int32.toInt 0 ∧ Int32.toInt 0 ≤ 0 from (by decide)) (by decide)
    show PW 193 d (8, [some (pvR 0), some (pvI n1), some (pvI n2), none, none], [pvI 0], M) _
    refine pw_ifn hT (c := 0 = 0) rfl rfl (fun c8_ => absurd (by decide) c8_) (fun c8_ => ?_)
    refine pw_blk hT 1 (S' := (12, [some (pvR 0), some (pvI n1), some (pvI n2), none, none], [pvI (-1)], M)) rfl ⟨trivial, trivial⟩ ?_
    exact pw_ret hT rfl (r := some (pvI (-1))) (M' := M) ⟨rfl, rfl⟩ ⟨⟨_, rfl, (zr_wide (show (-1) ≤ Int32.toInt (-1) ∧ Int32.toInt (-1) ≤ (-1) from (by decide)) (by decide) (by decide))⟩, hok, pvfr_0, ⟨zwP_n (zvl_l c6_), zpA_0 (zvl_l c6_)⟩, (zKy9_r 9 74 M)⟩
  · refine pw_eqI (if_neg c6_) ?_
    have b9_ : 0 ≤ Int32.toInt n1 ∧ Int32.toInt n1 ≤ 2147483647 := zr_nlt_l 0 c6_ (zbnd n1) (show 0 ≤ Int32.toInt 0 ∧ Int32.toInt 0 ≤ 0 from (by decide)) (by decide)
    have b10_ : 0 ≤ Int32.toInt (M.1 8 1) ∧ Int32.toInt (M.1 8 1) ≤ 7 := pvok_r hok 8 1 rfl
    by_cases c11_ : (M.1 8 1) ≤ n1
    · refine pw_eqI (if_pos c11_) ?_
      have d12_ : Int32.toInt (M.1 8 1) ≤ Int32.toInt n1 := (zi_le _ _).mp c11_
      show PW 193 d (8, [some (pvR 0), some (pvI n1), some (pvI n2), none, none], [pvI 0], M) _
      refine pw_ifn hT (c := 0 = 0) rfl rfl (fun c13_ => absurd (by decide) c13_) (fun c13_ => ?_)
      refine pw_blk hT 1 (S' := (12, [some (pvR 0), some (pvI n1), some (pvI n2), none, none], [pvI (-1)], M)) rfl ⟨trivial, trivial⟩ ?_
      exact pw_ret hT rfl (r := some (pvI (-1))) (M' := M) ⟨rfl, rfl⟩ ⟨⟨_, rfl, (zr_wide (show (-1) ≤ Int32.toInt (-1) ∧ Int32.toInt (-1) ≤ (-1) from (by decide)) (by decide) (by decide))⟩, hok, pvfr_0, ⟨zwP_n (zvl_u c11_), zpA_0 (zvl_u c11_)⟩, (zKy9_r 9 74 M)⟩
    · refine pw_eqI (if_neg c11_) ?_
      have b14_ : 1 ≤ Int32.toInt (M.1 8 1) ∧ Int32.toInt (M.1 8 1) ≤ 7 := zr_nle_l 1 c11_ b10_ b9_ (by decide)
      have b15_ : 0 ≤ Int32.toInt n1 ∧ Int32.toInt n1 ≤ 6 := zr_nle_r 6 c11_ b9_ b14_ (by decide)
      have d16_ : Int32.toInt (M.1 8 1) > Int32.toInt n1 := Int.not_le.mp ((not_congr (zi_le _ _)).mp c11_)
      show PW 193 d (8, [some (pvR 0), some (pvI n1), some (pvI n2), none, none], [pvI 1], M) _
      refine pw_ifn hT (c := 1 = 0) rfl rfl (fun c17_ => ?_) (fun c17_ => absurd c17_ (by decide))
      refine pw_blkr hT 5 (pc := 22) (lo := [some (pvR 0), some (pvI n1), some (pvI n2), none, none]) (st := []) (M := M) (z := (pvbs 10 + Int32.toNatClampNeg n1)) rfl ⟨trivial, rfl, rfl, trivial, ⟨rfl, (zr_in (n := 7) b15_ (by decide) (by decide))⟩, trivial⟩ (fun q18_ e20_ => ?_)
      have k19_ : pvkl q18_ = 3 := pvel_10 (zr_in (n := 7) b15_ (by decide) (by decide)) e20_
      subst e20_
      have b21_ : 0 ≤ Int32.toInt (M.1 (pvbs 10 + Int32.toNatClampNeg n1) 5) ∧ Int32.toInt (M.1 (pvbs 10 + Int32.toNatClampNeg n1) 5) ≤ 1 := pvok_r hok (pvbs 10 + Int32.toNatClampNeg n1) 5 ((pvrg_o 5 k19_ (by decide) (by decide)).trans rfl)
      refine pw_blk hT 3 (S' := (27, [some (pvR 0), some (pvI n1), some (pvI n2), some (pvR (pvbs 10 + Int32.toNatClampNeg n1)), none], [pvI (M.1 (pvbs 10 + Int32.toNatClampNeg n1) 5)], M)) rfl ⟨trivial, trivial, k19_, trivial⟩ ?_
      refine pw_if hT (c := (M.1 (pvbs 10 + Int32.toNatClampNeg n1) 5) = 0) rfl rfl (fun c22_ => ?_) (fun c22_ => ?_)
      · have b23_ : 0 ≤ Int32.toInt (M.1 (pvbs 10 + Int32.toNatClampNeg n1) 5) ∧ Int32.toInt (M.1 (pvbs 10 + Int32.toNatClampNeg n1) 5) ≤ 0 := (by have u0 := b21_; have u1 := (zi_eq _ _).mp c22_; have u2 := (show 0 ≤ Int32.toInt 0 ∧ Int32.toInt 0 ≤ 0 from (by decide)); omega)
        refine pw_blkw hT 5 (pc := 42) (lo := [some (pvR 0), some (pvI n1), some (pvI n2), some (pvR (pvbs 10 + Int32.toNatClampNeg n1)), some (pvI 0)]) (st := []) (M := pvu M (pvbs 10 + Int32.toNatClampNeg n1) 5 n2) rfl ⟨trivial, trivial, trivial, trivial, ⟨k19_, pv01 hn2⟩, trivial⟩ (fun M24_ e25_ => ?_)
        have o26_ : pvOk M24_ := pvok_u2 e25_ hok ((pvrg_o 5 k19_ (by decide) (by decide)).trans rfl) hn2
        have f27_ : pvFr fp_eX9_put_0_x_x M M24_ := pvfr_u e25_ pvfr_0 (pvfp_r (l := fpL_eX9_put_0_x_x) (pvowr_3 k19_) (kk := 6) (by decide) (Or.inr rfl))
        refine pw_blk hT 1 (S' := (44, [some (pvR 0), some (pvI n1), some (pvI n2), some (pvR (pvbs 10 + Int32.toNatClampNeg n1)), some (pvI 0)], [pvI 0], M24_)) rfl ⟨trivial, trivial⟩ ?_
        exact pw_ret hT rfl (r := some (pvI 0)) (M' := M24_) ⟨rfl, rfl⟩ ⟨⟨_, rfl, (zr_wide (show 0 ≤ Int32.toInt 0 ∧ Int32.toInt 0 ≤ 0 from (by decide)) (by decide) (by decide))⟩, o26_, f27_, ⟨zwP_i (zvl_y c6_ c11_) (pvu_n e25_ 8 4 (Or.inl (fun z => absurd (z ▸ k19_) (by decide)))) (pvu_n e25_ 8 6 (Or.inl (fun z => absurd (z ▸ k19_) (by decide)))) (pvu_n e25_ 8 7 (Or.inl (fun z => absurd (z ▸ k19_) (by decide)))) (zVu5 e25_ (fun _ _ => rfl) (fun _ _ => rfl)), (zpA_1 (zvl_y c6_ c11_) c22_.symm)⟩, (zKy9_u e25_ (by have v : pvbs 10 = 60 := rfl; omega) (fun i hi => by have v : pvbs 10 = 60 := rfl; have w : Int32.toNatClampNeg n1 < 7 := (by have u := b15_; show n1.toInt.toNat < 7; omega); omega))⟩
      · have b28_ : 1 ≤ Int32.toInt (M.1 (pvbs 10 + Int32.toNatClampNeg n1) 5) ∧ Int32.toInt (M.1 (pvbs 10 + Int32.toNatClampNeg n1) 5) ≤ 1 := (by have u0 := b21_; have u1 := (not_congr (zi_eq _ _)).mp c22_; have u2 := (show 0 ≤ Int32.toInt 0 ∧ Int32.toInt 0 ≤ 0 from (by decide)); omega)
        refine pw_blkw hT 6 (pc := 42) (lo := [some (pvR 0), some (pvI n1), some (pvI n2), some (pvR (pvbs 10 + Int32.toNatClampNeg n1)), some (pvI 1)]) (st := []) (M := pvu M (pvbs 10 + Int32.toNatClampNeg n1) 5 n2) rfl ⟨trivial, trivial, trivial, trivial, trivial, ⟨k19_, pv01 hn2⟩, trivial⟩ (fun M29_ e30_ => ?_)
        have o31_ : pvOk M29_ := pvok_u2 e30_ hok ((pvrg_o 5 k19_ (by decide) (by decide)).trans rfl) hn2
        have f32_ : pvFr fp_eX9_put_0_x_x M M29_ := pvfr_u e30_ pvfr_0 (pvfp_r (l := fpL_eX9_put_0_x_x) (pvowr_3 k19_) (kk := 6) (by decide) (Or.inr rfl))
        refine pw_blk hT 1 (S' := (44, [some (pvR 0), some (pvI n1), some (pvI n2), some (pvR (pvbs 10 + Int32.toNatClampNeg n1)), some (pvI 1)], [pvI 1], M29_)) rfl ⟨trivial, trivial⟩ ?_
        exact pw_ret hT rfl (r := some (pvI 1)) (M' := M29_) ⟨rfl, rfl⟩ ⟨⟨_, rfl, (zr_wide (show 1 ≤ Int32.toInt 1 ∧ Int32.toInt 1 ≤ 1 from (by decide)) (by decide) (by decide))⟩, o31_, f32_, ⟨zwP_i (zvl_y c6_ c11_) (pvu_n e30_ 8 4 (Or.inl (fun z => absurd (z ▸ k19_) (by decide)))) (pvu_n e30_ 8 6 (Or.inl (fun z => absurd (z ▸ k19_) (by decide)))) (pvu_n e30_ 8 7 (Or.inl (fun z => absurd (z ▸ k19_) (by decide)))) (zVu5 e30_ (fun _ _ => rfl) (fun _ _ => rfl)), (zpA_1 (zvl_y c6_ c11_) (zone1 b28_))⟩, (zKy9_u e30_ (by have v : pvbs 10 = 60 := rfl; omega) (fun i hi => by have v : pvbs 10 = 60 := rfl; have w : Int32.toNatClampNeg n1 < 7 := (by have u := b15_; show n1.toInt.toNat < 7; omega); omega))⟩
set_option maxHeartbeats 4000000 in
set_option maxRecDepth 10000 in
theorem se_X9_read_0_x_x (M : pvM) (hok : pvOk M) (n1 : Int32) (n2 : Int32) (d : Nat) : PW 194 d (0, [some (pvR 0), some (pvI n1), some (pvI n2)], [], M) (fun r X => (∃ x : Int64, r = some (pvJ x) ∧ x = (if n1 < 0 then (-9223372036854775808) else (if 5 < n1 then (-9223372036854775808) else (if n2 < 0 then (-9223372036854775808) else (if (M.1 (pvbs 2 + Int32.toNatClampNeg n1) 1) ≤ n2 then (-9223372036854775808) else (M.2 ((pvbs 2 + Int32.toNatClampNeg n1) + 6) (Int32.toNatClampNeg n2))))))) ∧ X = M) := by
  have hT : pvdom 194 = pvD_194 := rfl
  refine pw_blk hT 1 (S' := (1, [some (pvR 0), some (pvI n1), some (pvI n2)], [pvI n1], M)) rfl ⟨trivial, trivial⟩ ?_
  refine pw_callT hT (as := [pvI n1]) (lo1 := [some (pvI n1)]) (d1 := d) (rest := []) rfl rfl rfl rfl rfl (fun h => absurd h (by decide)) (Nat.zero_le _) rfl rfl rfl (sf_X9_isTape_x M hok n1 d) ?_
  by_cases c6_ : n1 < 0
  · refine pw_eqI (if_pos c6_) ?_
    have b7_ : (-2147483648) ≤ Int32.toInt n1 ∧ Int32.toInt n1 ≤ (-1) := zr_lt_l (-1) c6_ (zbnd n1) (show 0 ≤ Int32.toInt 0 ∧ Int32.toInt 0 ≤ 0 from (by decide)) (by decide)
    show PW 194 d (4, [some (pvR 0), some (pvI n1), some (pvI n2)], [pvI 0], M) _
    refine pw_if hT (c := 0 = 0) rfl rfl (fun c8_ => ?_) (fun c8_ => absurd (by decide) c8_)
    refine pw_blk hT 1 (S' := (23, [some (pvR 0), some (pvI n1), some (pvI n2)], [pvJ (-9223372036854775808)], M)) rfl ⟨trivial, trivial⟩ ?_
    exact pw_ret hT rfl (r := some (pvJ (-9223372036854775808))) (M' := M) ⟨rfl, rfl⟩ ⟨⟨_, rfl, (by rw [if_pos c6_]; first | done | (rw [if_pos c6_]; done))⟩, rfl⟩
  · refine pw_eqI (if_neg c6_) ?_
    have b9_ : 0 ≤ Int32.toInt n1 ∧ Int32.toInt n1 ≤ 2147483647 := zr_nlt_l 0 c6_ (zbnd n1) (show 0 ≤ Int32.toInt 0 ∧ Int32.toInt 0 ≤ 0 from (by decide)) (by decide)
    by_cases c10_ : 5 < n1
    · refine pw_eqI (if_pos c10_) ?_
      have b11_ : 6 ≤ Int32.toInt n1 ∧ Int32.toInt n1 ≤ 2147483647 := zr_lt_r 6 c10_ b9_ (show 5 ≤ Int32.toInt 5 ∧ Int32.toInt 5 ≤ 5 from (by decide)) (by decide)
      show PW 194 d (4, [some (pvR 0), some (pvI n1), some (pvI n2)], [pvI 0], M) _
      refine pw_if hT (c := 0 = 0) rfl rfl (fun c12_ => ?_) (fun c12_ => absurd (by decide) c12_)
      refine pw_blk hT 1 (S' := (23, [some (pvR 0), some (pvI n1), some (pvI n2)], [pvJ (-9223372036854775808)], M)) rfl ⟨trivial, trivial⟩ ?_
      exact pw_ret hT rfl (r := some (pvJ (-9223372036854775808))) (M' := M) ⟨rfl, rfl⟩ ⟨⟨_, rfl, (by rw [if_neg c6_, if_pos c10_]; first | done | (rw [if_pos c10_]; done))⟩, rfl⟩
    · refine pw_eqI (if_neg c10_) ?_
      have b13_ : 0 ≤ Int32.toInt n1 ∧ Int32.toInt n1 ≤ 5 := zr_nlt_r 5 c10_ b9_ (show 5 ≤ Int32.toInt 5 ∧ Int32.toInt 5 ≤ 5 from (by decide)) (by decide)
      show PW 194 d (4, [some (pvR 0), some (pvI n1), some (pvI n2)], [pvI 1], M) _
      refine pw_if hT (c := 1 = 0) rfl rfl (fun c14_ => absurd c14_ (by decide)) (fun c14_ => ?_)
      refine pw_blkr hT 4 (pc := 13) (lo := [some (pvR 0), some (pvI n1), some (pvI n2)]) (st := []) (M := M) (z := (pvbs 2 + Int32.toNatClampNeg n1)) rfl ⟨trivial, rfl, trivial, ⟨rfl, (zr_in (n := 6) b13_ (by decide) (by decide))⟩, trivial⟩ (fun q15_ e17_ => ?_)
      have k16_ : pvkl q15_ = 7 := pvel_2 (zr_in (n := 6) b13_ (by decide) (by decide)) e17_
      subst e17_
      refine pw_blk hT 1 (S' := (14, [some (pvR 0), some (pvI n1), some (pvI n2)], [pvI n2, pvR (pvbs 2 + Int32.toNatClampNeg n1)], M)) rfl ⟨trivial, trivial⟩ ?_
      refine pw_callT hT (as := [pvR (pvbs 2 + Int32.toNatClampNeg n1), pvI n2]) (lo1 := [some (pvR (pvbs 2 + Int32.toNatClampNeg n1)), some (pvI n2)]) (d1 := d) (rest := []) rfl rfl rfl rfl rfl (fun _ => k16_) (Nat.zero_le _) rfl rfl rfl (sf_X8_hasPlace_x_x M hok (pvbs 2 + Int32.toNatClampNeg n1) n2 k16_ d) ?_
      by_cases c23_ : n2 < 0
      · refine pw_eqI (if_pos c23_) ?_
        have b24_ : (-2147483648) ≤ Int32.toInt n2 ∧ Int32.toInt n2 ≤ (-1) := zr_lt_l (-1) c23_ (zbnd n2) (show 0 ≤ Int32.toInt 0 ∧ Int32.toInt 0 ≤ 0 from (by decide)) (by decide)
        show PW 194 d (17, [some (pvR 0), some (pvI n1), some (pvI n2)], [pvI 0], M) _
        refine pw_ifn hT (c := 0 = 0) rfl rfl (fun c25_ => absurd (by decide) c25_) (fun c25_ => ?_)
        refine pw_blk hT 1 (S' := (23, [some (pvR 0), some (pvI n1), some (pvI n2)], [pvJ (-9223372036854775808)], M)) rfl ⟨trivial, trivial⟩ ?_
        exact pw_ret hT rfl (r := some (pvJ (-9223372036854775808))) (M' := M) ⟨rfl, rfl⟩ ⟨⟨_, rfl, (by rw [if_neg c6_, if_neg c10_, if_pos c23_]; first | done | (rw [if_pos c23_]; done))⟩, rfl⟩
      · refine pw_eqI (if_neg c23_) ?_
        have b26_ : 0 ≤ Int32.toInt n2 ∧ Int32.toInt n2 ≤ 2147483647 := zr_nlt_l 0 c23_ (zbnd n2) (show 0 ≤ Int32.toInt 0 ∧ Int32.toInt 0 ≤ 0 from (by decide)) (by decide)
        have b27_ : 0 ≤ Int32.toInt (M.1 (pvbs 2 + Int32.toNatClampNeg n1) 1) ∧ Int32.toInt (M.1 (pvbs 2 + Int32.toNatClampNeg n1) 1) ≤ 60 := pvok_r hok (pvbs 2 + Int32.toNatClampNeg n1) 1 ((pvrg_o 1 k16_ (by decide) (by decide)).trans rfl)
        by_cases c28_ : (M.1 (pvbs 2 + Int32.toNatClampNeg n1) 1) ≤ n2
        · refine pw_eqI (if_pos c28_) ?_
          have d29_ : Int32.toInt (M.1 (pvbs 2 + Int32.toNatClampNeg n1) 1) ≤ Int32.toInt n2 := (zi_le _ _).mp c28_
          show PW 194 d (17, [some (pvR 0), some (pvI n1), some (pvI n2)], [pvI 0], M) _
          refine pw_ifn hT (c := 0 = 0) rfl rfl (fun c30_ => absurd (by decide) c30_) (fun c30_ => ?_)
          refine pw_blk hT 1 (S' := (23, [some (pvR 0), some (pvI n1), some (pvI n2)], [pvJ (-9223372036854775808)], M)) rfl ⟨trivial, trivial⟩ ?_
          exact pw_ret hT rfl (r := some (pvJ (-9223372036854775808))) (M' := M) ⟨rfl, rfl⟩ ⟨⟨_, rfl, (by rw [if_neg c6_, if_neg c10_, if_neg c23_, if_pos c28_]; first | done | (rw [if_pos c28_]; done))⟩, rfl⟩
        · refine pw_eqI (if_neg c28_) ?_
          have b31_ : 1 ≤ Int32.toInt (M.1 (pvbs 2 + Int32.toNatClampNeg n1) 1) ∧ Int32.toInt (M.1 (pvbs 2 + Int32.toNatClampNeg n1) 1) ≤ 60 := zr_nle_l 1 c28_ b27_ b26_ (by decide)
          have b32_ : 0 ≤ Int32.toInt n2 ∧ Int32.toInt n2 ≤ 59 := zr_nle_r 59 c28_ b26_ b31_ (by decide)
          have d33_ : Int32.toInt (M.1 (pvbs 2 + Int32.toNatClampNeg n1) 1) > Int32.toInt n2 := Int.not_le.mp ((not_congr (zi_le _ _)).mp c28_)
          show PW 194 d (17, [some (pvR 0), some (pvI n1), some (pvI n2)], [pvI 1], M) _
          refine pw_ifn hT (c := 1 = 0) rfl rfl (fun c34_ => ?_) (fun c34_ => absurd c34_ (by decide))
          refine pw_blkr hT 4 (pc := 30) (lo := [some (pvR 0), some (pvI n1), some (pvI n2)]) (st := []) (M := M) (z := (pvbs 2 + Int32.toNatClampNeg n1)) rfl ⟨trivial, rfl, trivial, ⟨rfl, (zr_in (n := 6) b13_ (by decide) (by decide))⟩, trivial⟩ (fun q35_ e37_ => ?_)
          have k36_ : pvkl q35_ = 7 := pvel_2 (zr_in (n := 6) b13_ (by decide) (by decide)) e37_
          subst e37_
          refine pw_blk hT 3 (S' := (35, [some (pvR 0), some (pvI n1), some (pvI n2)], [pvJ (M.2 ((pvbs 2 + Int32.toNatClampNeg n1) + 6) (Int32.toNatClampNeg n2))], M)) rfl ⟨k36_, trivial, ⟨(pvow_7_6 k36_).1, (by rw [(pvow_7_6 k36_).2.1]; exact (zr_in (n := 60) b32_ (by decide) (by decide)))⟩, trivial⟩ ?_
          exact pw_ret hT rfl (r := some (pvJ (M.2 ((pvbs 2 + Int32.toNatClampNeg n1) + 6) (Int32.toNatClampNeg n2)))) (M' := M) ⟨rfl, rfl⟩ ⟨⟨_, rfl, (by rw [if_neg c6_, if_neg c10_, if_neg c23_, if_neg c28_]; first | done | (rw [if_neg c28_]; done))⟩, rfl⟩
