def fpL_eX9_image_0 : List (Nat × Nat × Nat) := [(0, 0, 6), (0, 101, 1), (0, 103, 1), (0, 105, 1), (0, 109, 0), (0, 111, 0), (0, 113, 0), (0, 117, 0), (0, 119, 0), (0, 121, 0), (0, 74, 1), (0, 74, 2), (0, 74, 3), (0, 74, 4), (0, 74, 5), (0, 74, 6), (0, 75, 1), (0, 75, 2), (0, 75, 3), (0, 75, 4), (0, 75, 5), (0, 75, 6), (0, 76, 1), (0, 76, 2), (0, 76, 3), (0, 76, 4), (0, 76, 5), (0, 76, 6), (0, 77, 1), (0, 77, 2), (0, 77, 3), (0, 77, 4), (0, 77, 5), (0, 77, 6), (0, 78, 1), (0, 78, 2), (0, 78, 3), (0, 78, 4), (0, 78, 5), (0, 78, 6), (0, 79, 1), (0, 79, 2), (0, 79, 3), (0, 79, 4), (0, 79, 5), (0, 79, 6), (0, 80, 1), (0, 80, 2), (0, 80, 3), (0, 80, 4), (0, 80, 5), (0, 80, 6), (0, 81, 0), (0, 82, 0), (0, 83, 0), (0, 84, 0), (0, 85, 0), (0, 86, 0), (0, 87, 0), (0, 9, 2), (0, 9, 3), (0, 9, 4), (0, 9, 5), (0, 9, 6), (0, 9, 7), (0, 9, 8), (0, 9, 9)]
def fp_eX9_image_0 (q k : Nat) : Bool := pvfp fpL_eX9_image_0 q k
theorem fp_eX9_image_0_fp_eX7_becomeAs_9_8 (a b : Nat) (h : fp_eX7_becomeAs_9_8 a b = true) : fp_eX9_image_0 a b = true := pvfp_sub (l1 := fpL_eX7_becomeAs_9_8) (l2 := fpL_eX9_image_0) (by decide) a b h
set_option maxHeartbeats 4000000 in
set_option maxRecDepth 10000 in
theorem se_X9_image_0 (M : pvM) (hok : pvOk M) (d : Nat) : PW 178 d (0, [some (pvR 0)], [], M) (fun r X => (∃ x : Int32, r = some (pvI x) ∧ (0 ≤ Int32.toInt x ∧ Int32.toInt x ≤ 7) ∧ x = (M.1 8 1)) ∧ pvOk X ∧ pvFr fp_eX9_image_0 M X ∧ zC 74 60 (M.1 8 1) M X ∧ zC1 109 108 (Int32.toNatClampNeg (M.1 100 0)) M X ∧ zC1 117 116 (Int32.toNatClampNeg (M.1 100 0)) M X ∧ zC1 111 110 (Int32.toNatClampNeg (M.1 102 0)) M X ∧ zC1 119 118 (Int32.toNatClampNeg (M.1 102 0)) M X ∧ zC1 113 112 (Int32.toNatClampNeg (M.1 104 0)) M X ∧ zC1 121 120 (Int32.toNatClampNeg (M.1 104 0)) M X ∧ zwC (M.1 8 1) (zw9 8 60 M) (zw9 9 74 X) ∧ zKi9 M X ∧ yIw9 M X ∧ X.1 9 1 = (M.1 8 1) ∧ X.1 9 2 = (M.1 8 2) ∧ X.1 9 3 = (M.1 8 3) ∧ X.1 0 5 = 1 ∧ X.1 103 0 = (M.1 102 0) ∧ X.1 105 0 = (M.1 104 0) ∧ X.1 101 0 = (M.1 100 0)) := by
  have hT : pvdom 178 = pvD_178 := rfl
  refine pw_blk hT 4 (S' := (8, [some (pvR 0)], [pvR 8, pvR 9], M)) rfl ⟨trivial, rfl, trivial, rfl, trivial⟩ ?_
  refine pw_callVd hT (as := [pvR 9, pvR 8]) (lo1 := [some (pvR 9), some (pvR 8), none]) (d1 := d) (rest := []) rfl rfl rfl rfl rfl (fun _ => rfl) (Nat.zero_le _) rfl rfl rfl (se_X7_becomeAs_9_8 M hok d) (fun M3_ o5_ g6_ d1_ => ?_)
  have f7_ : pvFr fp_eX9_image_0 M M3_ := pvfr_t g6_ pvfr_0 fp_eX9_image_0_fp_eX7_becomeAs_9_8
  refine pw_blkw hT 3 (pc := 16) (lo := [some (pvR 0)]) (st := []) (M := pvu M3_ 0 5 1) rfl ⟨trivial, trivial, ⟨rfl, Or.inr rfl⟩, trivial⟩ (fun M8_ e9_ => ?_)
  have o10_ : pvOk M8_ := pvok_u2 e9_ o5_ rfl (zr_wide (show 1 ≤ Int32.toInt 1 ∧ Int32.toInt 1 ≤ 1 from (by decide)) (by decide) (by decide))
  have f11_ : pvFr fp_eX9_image_0 M M8_ := pvfr_u e9_ f7_ rfl
  have b12_ : 0 ≤ Int32.toInt (M8_.1 8 1) ∧ Int32.toInt (M8_.1 8 1) ≤ 7 := pvok_r o10_ 8 1 rfl
  refine pw_blk hT 3 (S' := (23, [some (pvR 0)], [pvI (M8_.1 8 1)], M8_)) rfl ⟨trivial, rfl, rfl, trivial⟩ ?_
  exact pw_ret hT rfl (r := some (pvI (M8_.1 8 1))) (M' := M8_) ⟨rfl, rfl⟩ ⟨⟨_, rfl, b12_, (show (M8_.1 8 1) = (M.1 8 1) from by rw [((pvu_n e9_ 8 1 (Or.inl (by decide))).trans (g6_ 8 1 rfl))])⟩, o10_, f11_, (zC_k d1_.1 (fun i hi => ⟨fun f hf => pvu_n e9_ (74 + i) f (Or.inl (by omega)), fun j hj => pvu_n e9_ (74 + 7 + i) j (Or.inl (by omega))⟩)), (zC1_g d1_.2.1 (fun i => pvu_n e9_ 109 i (Or.inl (by decide)))), (zC1_g d1_.2.2.1 (fun i => pvu_n e9_ 117 i (Or.inl (by decide)))), (zC1_g d1_.2.2.2.1 (fun i => pvu_n e9_ 111 i (Or.inl (by decide)))), (zC1_g d1_.2.2.2.2.1 (fun i => pvu_n e9_ 119 i (Or.inl (by decide)))), (zC1_g d1_.2.2.2.2.2.1 (fun i => pvu_n e9_ 113 i (Or.inl (by decide)))), (zC1_g d1_.2.2.2.2.2.2.1 (fun i => pvu_n e9_ 121 i (Or.inl (by decide)))), (zwC_i ((pvu_n e9_ 9 4 (Or.inl (by decide))).trans (d1_.2.2.2.2.2.2.2.2.2.2.2.2.2.2.2.1)) ((pvu_n e9_ 9 6 (Or.inl (by decide))).trans (d1_.2.2.2.2.2.2.2.2.2.2.2.2.2.2.2.2.1)) ((pvu_n e9_ 9 7 (Or.inl (by decide))).trans (d1_.2.2.2.2.2.2.2.2.2.2.2.2.2.2.2.2.2.1)) (fun i hi => match i, hi with | 0, _ => fun hl => ((pvu_n e9_ 74 5 (Or.inl (by decide)))).trans (d1_.2.2.2.2.2.2.2.1 0 (by decide) hl) | 1, _ => fun hl => ((pvu_n e9_ 75 5 (Or.inl (by decide)))).trans (d1_.2.2.2.2.2.2.2.1 1 (by decide) hl) | 2, _ => fun hl => ((pvu_n e9_ 76 5 (Or.inl (by decide)))).trans (d1_.2.2.2.2.2.2.2.1 2 (by decide) hl) | 3, _ => fun hl => ((pvu_n e9_ 77 5 (Or.inl (by decide)))).trans (d1_.2.2.2.2.2.2.2.1 3 (by decide) hl) | 4, _ => fun hl => ((pvu_n e9_ 78 5 (Or.inl (by decide)))).trans (d1_.2.2.2.2.2.2.2.1 4 (by decide) hl) | 5, _ => fun hl => ((pvu_n e9_ 79 5 (Or.inl (by decide)))).trans (d1_.2.2.2.2.2.2.2.1 5 (by decide) hl) | 6, _ => fun hl => ((pvu_n e9_ 80 5 (Or.inl (by decide)))).trans (d1_.2.2.2.2.2.2.2.1 6 (by decide) hl) | i + 7, z => absurd z (by omega))), ⟨((pvu_n e9_ 0 1 (Or.inr (by decide))).trans (g6_ 0 1 rfl)), ((pvu_n e9_ 8 8 (Or.inl (by decide))).trans (g6_ 8 8 rfl)), ((pvu_n e9_ 9 8 (Or.inl (by decide))).trans (d1_.2.2.2.2.2.2.2.2.1)), (fun a c h1 h2 => ((pvu_n e9_ a c (Or.inl (by omega))).trans (zfr36 (L := fpL_eX7_becomeAs_9_8) g6_ (by decide +kernel) a c h1 h2)))⟩, ⟨((pvu_n e9_ 8 5 (Or.inl (by decide))).trans (g6_ 8 5 rfl)), ((pvu_n e9_ 9 5 (Or.inl (by decide))).trans (d1_.2.2.2.2.2.2.2.2.2.2.2.2.2.2.2.2.2.2))⟩, ((pvu_n e9_ 9 1 (Or.inl (by decide))).trans (d1_.2.2.2.2.2.2.2.2.2.1)), ((pvu_n e9_ 9 2 (Or.inl (by decide))).trans (d1_.2.2.2.2.2.2.2.2.2.2.1)), ((pvu_n e9_ 9 3 (Or.inl (by decide))).trans (d1_.2.2.2.2.2.2.2.2.2.2.2.1)), (pvu_s e9_), ((pvu_n e9_ 103 0 (Or.inl (by decide))).trans (d1_.2.2.2.2.2.2.2.2.2.2.2.2.1)), ((pvu_n e9_ 105 0 (Or.inl (by decide))).trans (d1_.2.2.2.2.2.2.2.2.2.2.2.2.2.1)), ((pvu_n e9_ 101 0 (Or.inl (by decide))).trans (d1_.2.2.2.2.2.2.2.2.2.2.2.2.2.2.1))⟩
def fpL_eX1_costOfRound_5_x : List (Nat × Nat × Nat) := [(0, 12, 0)]
def fp_eX1_costOfRound_5_x (q k : Nat) : Bool := pvfp fpL_eX1_costOfRound_5_x q k
theorem fp_eX1_costOfRound_5_x_fp_eX1_goRound_5_x (a b : Nat) (h : fp_eX1_goRound_5_x a b = true) : fp_eX1_costOfRound_5_x a b = true := pvfp_sub (l1 := fpL_eX1_goRound_5_x) (l2 := fpL_eX1_costOfRound_5_x) (by decide) a b h
theorem fp_eX1_costOfRound_5_x_fp_eX1_nobodyShuts_5 (a b : Nat) (h : fp_eX1_nobodyShuts_5 a b = true) : fp_eX1_costOfRound_5_x a b = true := pvfp_sub (l1 := fpL_eX1_nobodyShuts_5) (l2 := fpL_eX1_costOfRound_5_x) (by decide) a b h
set_option maxHeartbeats 4000000 in
set_option maxRecDepth 10000 in
theorem se_X1_costOfRound_5_x (M : pvM) (hok : pvOk M) (n1 : Int32) (hn1 : 0 ≤ Int32.toInt n1 ∧ Int32.toInt n1 ≤ 60) (d : Nat) : PW 105 d (0, [some (pvR 5), some (pvI n1)], [], M) (fun r X => (∃ x : Int32, r = some (pvI x) ∧ True) ∧ pvOk X ∧ pvFr fp_eX1_costOfRound_5_x M X ∧ yRw M X (yCr_p M) (Int32.toInt (M.1 8 4) + Int32.toInt n1) (yCr_n M) r) := by
  have hT : pvdom 105 = pvD_105 := rfl
  refine pw_blk hT 1 (S' := (1, [some (pvR 5), some (pvI n1)], [pvR 5], M)) rfl ⟨trivial, trivial⟩ ?_
  refine pw_callVd hT (as := [pvR 5]) (lo1 := [some (pvR 5), none]) (d1 := d) (rest := []) rfl rfl rfl rfl rfl (fun _ => rfl) (Nat.zero_le _) rfl rfl rfl (se_X1_nobodyShuts_5 M hok d) (fun M3_ o5_ g6_ d1_ => ?_)
  have f7_ : pvFr fp_eX1_costOfRound_5_x M M3_ := pvfr_t g6_ pvfr_0 fp_eX1_costOfRound_5_x_fp_eX1_nobodyShuts_5
  refine pw_blk hT 2 (S' := (6, [some (pvR 5), some (pvI n1)], [pvI n1, pvR 5], M3_)) rfl ⟨trivial, trivial, trivial⟩ ?_
  refine pw_callGd hT (as := [pvR 5, pvI n1]) (lo1 := [some (pvR 5), some (pvI n1)]) (d1 := d) (rest := []) rfl rfl rfl rfl rfl (fun _ => rfl) (Nat.zero_le _) rfl rfl rfl (se_X1_goRound_5_x M3_ o5_ n1 hn1 d) (fun x9_ M10_ b11_ o12_ g13_ d8_ => ?_)
  have f14_ : pvFr fp_eX1_costOfRound_5_x M M10_ := pvfr_t g13_ f7_ fp_eX1_costOfRound_5_x_fp_eX1_goRound_5_x
  refine pw_blk hT 2 (S' := (11, [some (pvR 5), some (pvI n1)], [pvR 5], M10_)) rfl ⟨trivial, trivial, trivial⟩ ?_
  refine pw_callGp hT (as := [pvR 5]) (lo1 := [some (pvR 5)]) (d1 := d) (rest := []) rfl rfl rfl rfl rfl (fun _ => rfl) (Nat.zero_le _) rfl rfl rfl (se_X1_cost_5 M10_ o12_ d) (fun x15_ b17_ => ?_)
  obtain ⟨b20_, d21_⟩ := b17_
  exact pw_ret hT rfl (r := some (pvI x15_)) (M' := M10_) ⟨rfl, rfl⟩ ⟨⟨_, rfl, trivial⟩, o12_, f14_, (yRw_R hok hn1 d1_ d8_ d21_)⟩
def fpL_eX9_late_0_x : List (Nat × Nat × Nat) := [(0, 12, 0), (0, 13, 0), (0, 14, 0), (0, 5, 2), (0, 5, 3), (1, 112, 0)]
def fp_eX9_late_0_x (q k : Nat) : Bool := pvfp fpL_eX9_late_0_x q k
theorem fp_eX9_late_0_x_fp_eX1_beginFromNow_5 (a b : Nat) (h : fp_eX1_beginFromNow_5 a b = true) : fp_eX9_late_0_x a b = true := pvfp_sub (l1 := fpL_eX1_beginFromNow_5) (l2 := fpL_eX9_late_0_x) (by decide) a b h
theorem fp_eX9_late_0_x_fp_eX1_costOfRound_5_x (a b : Nat) (h : fp_eX1_costOfRound_5_x a b = true) : fp_eX9_late_0_x a b = true := pvfp_sub (l1 := fpL_eX1_costOfRound_5_x) (l2 := fpL_eX9_late_0_x) (by decide) a b h
set_option maxHeartbeats 4000000 in
set_option maxRecDepth 10000 in
theorem se_X9_late_0_x (M : pvM) (hok : pvOk M) (n1 : Int32) (d : Nat) : PW 183 d (0, [some (pvR 0), some (pvI n1), none], [], M) (fun r X => (∃ x : Int32, r = some (pvI x) ∧ (-5) ≤ Int32.toInt x ∧ Int32.toInt x ≤ 60) ∧ pvOk X ∧ pvFr fp_eX9_late_0_x M X ∧ yAn (yGlt n1) r M X) := by
  have hT : pvdom 183 = pvD_183 := rfl
  refine pw_blk hT 3 (S' := (4, [some (pvR 0), some (pvI n1), none], [pvI 99999, pvI 0, pvI n1], M)) rfl ⟨trivial, trivial, trivial, trivial⟩ ?_
  refine pw_callT hT (as := [pvI n1, pvI 0, pvI 99999]) (lo1 := [some (pvI n1), some (pvI 0), some (pvI 99999)]) (d1 := d) (rest := []) rfl rfl rfl rfl rfl (fun h => absurd h (by decide)) (Nat.zero_le _) rfl rfl rfl (sf_X9_within_x_x_x M hok n1 0 99999 d) ?_
  by_cases c6_ : n1 < 0
  · refine pw_eqI (if_pos c6_) ?_
    have b7_ : (-2147483648) ≤ Int32.toInt n1 ∧ Int32.toInt n1 ≤ (-1) := zr_lt_l (-1) c6_ (zbnd n1) (show 0 ≤ Int32.toInt 0 ∧ Int32.toInt 0 ≤ 0 from (by decide)) (by decide)
    show PW 183 d (7, [some (pvR 0), some (pvI n1), none], [pvI 0], M) _
    refine pw_ifn hT (c := 0 = 0) rfl rfl (fun c8_ => absurd (by decide) c8_) (fun c8_ => ?_)
    refine pw_blk hT 1 (S' := (12, [some (pvR 0), some (pvI n1), none], [pvI (-2)], M)) rfl ⟨trivial, trivial⟩ ?_
    exact pw_ret hT rfl (r := some (pvI (-2))) (M' := M) ⟨rfl, rfl⟩ ⟨⟨_, rfl, (zr_wide (show (-2) ≤ Int32.toInt (-2) ∧ Int32.toInt (-2) ≤ (-2) from (by decide)) (by decide) (by decide))⟩, hok, pvfr_0, (yGlt_n (by have u := b7_; omega) (by decide))⟩
  · refine pw_eqI (if_neg c6_) ?_
    have b9_ : 0 ≤ Int32.toInt n1 ∧ Int32.toInt n1 ≤ 2147483647 := zr_nlt_l 0 c6_ (zbnd n1) (show 0 ≤ Int32.toInt 0 ∧ Int32.toInt 0 ≤ 0 from (by decide)) (by decide)
    by_cases c10_ : 99999 < n1
    · refine pw_eqI (if_pos c10_) ?_
      have b11_ : 100000 ≤ Int32.toInt n1 ∧ Int32.toInt n1 ≤ 2147483647 := zr_lt_r 100000 c10_ b9_ (show 99999 ≤ Int32.toInt 99999 ∧ Int32.toInt 99999 ≤ 99999 from (by decide)) (by decide)
      show PW 183 d (7, [some (pvR 0), some (pvI n1), none], [pvI 0], M) _
      refine pw_ifn hT (c := 0 = 0) rfl rfl (fun c12_ => absurd (by decide) c12_) (fun c12_ => ?_)
      refine pw_blk hT 1 (S' := (12, [some (pvR 0), some (pvI n1), none], [pvI (-2)], M)) rfl ⟨trivial, trivial⟩ ?_
      exact pw_ret hT rfl (r := some (pvI (-2))) (M' := M) ⟨rfl, rfl⟩ ⟨⟨_, rfl, (zr_wide (show (-2) ≤ Int32.toInt (-2) ∧ Int32.toInt (-2) ≤ (-2) from (by decide)) (by decide) (by decide))⟩, hok, pvfr_0, (yGlt_n (by have u := b11_; omega) (by decide))⟩
    · refine pw_eqI (if_neg c10_) ?_
      have b13_ : 0 ≤ Int32.toInt n1 ∧ Int32.toInt n1 ≤ 99999 := zr_nlt_r 99999 c10_ b9_ (show 99999 ≤ Int32.toInt 99999 ∧ Int32.toInt 99999 ≤ 99999 from (by decide)) (by decide)
      show PW 183 d (7, [some (pvR 0), some (pvI n1), none], [pvI 1], M) _
      refine pw_ifn hT (c := 1 = 0) rfl rfl (fun c14_ => ?_) (fun c14_ => absurd c14_ (by decide))
      refine pw_blk hT 2 (S' := (17, [some (pvR 0), some (pvI n1), none], [pvR 5], M)) rfl ⟨trivial, rfl, trivial⟩ ?_
      refine pw_callVd hT (as := [pvR 5]) (lo1 := [some (pvR 5)]) (d1 := d) (rest := []) rfl rfl rfl rfl rfl (fun _ => rfl) (Nat.zero_le _) rfl rfl rfl (se_X1_beginFromNow_5 M hok d) (fun M17_ o19_ g20_ d15_ => ?_)
      have f21_ : pvFr fp_eX9_late_0_x M M17_ := pvfr_t g20_ pvfr_0 fp_eX9_late_0_x_fp_eX1_beginFromNow_5
      refine pw_blk hT 2 (S' := (23, [some (pvR 0), some (pvI n1), some (pvI 60)], [], M17_)) rfl ⟨trivial, trivial, trivial⟩ ?_
      have hlz92_ : ∀ (nz92_ : Nat) (i2z92_ : Int32) (Mz92_ : pvM), (pvOk Mz92_) → (pvFr fp_eX9_late_0_x M Mz92_) → ((-1) ≤ Int32.toInt i2z92_ ∧ Int32.toInt i2z92_ ≤ 60) → (yLtI M Mz92_ n1 i2z92_) → (zhide ((Int32.toInt i2z92_ + 2).toNat < nz92_)) → PW 183 d (23, [some (pvR 0), some (pvI n1), some (pvI i2z92_)], [], Mz92_) (fun r X => (∃ x : Int32, r = some (pvI x) ∧ (-5) ≤ Int32.toInt x ∧ Int32.toInt x ≤ 60) ∧ pvOk X ∧ pvFr fp_eX9_late_0_x M X ∧ yAn (yGlt n1) r M X) := by
        intro nz92_
        induction nz92_ with
        | zero => intro i2z92_ Mz92_ oz92_ fz92_ h2z92_ j0z92_ hmz92_; exact absurd (zshow hmz92_) (Nat.not_lt_zero _)
        | succ nz92_ ihz92_ =>
          intro i2z92_ Mz92_ oz92_ fz92_ h2z92_ j0z92_ hmz92_
          refine pw_blk hT 1 (S' := (24, [some (pvR 0), some (pvI n1), some (pvI i2z92_)], [pvI i2z92_], Mz92_)) rfl ⟨trivial, trivial⟩ ?_
          refine pw_if hT (c := i2z92_ < 0) rfl rfl (fun c93_ => ?_) (fun c93_ => ?_)
          · have b94_ : (-1) ≤ Int32.toInt i2z92_ ∧ Int32.toInt i2z92_ ≤ (-1) := zr_lt_l (-1) c93_ h2z92_ (show 0 ≤ Int32.toInt 0 ∧ Int32.toInt 0 ≤ 0 from (by decide)) (by decide)
            refine pw_blk hT 1 (S' := (49, [some (pvR 0), some (pvI n1), some (pvI i2z92_)], [pvI (-5)], Mz92_)) rfl ⟨trivial, trivial⟩ ?_
            exact pw_ret hT rfl (r := some (pvI (-5))) (M' := Mz92_) ⟨rfl, rfl⟩ ⟨⟨_, rfl, (zr_wide (show (-5) ≤ Int32.toInt (-5) ∧ Int32.toInt (-5) ≤ (-5) from (by decide)) (by decide) (by decide))⟩, oz92_, fz92_, (yGlt_e j0z92_ (by have u := b13_; omega) (by have u := b94_; omega) (by decide))⟩
          · have b95_ : 0 ≤ Int32.toInt i2z92_ ∧ Int32.toInt i2z92_ ≤ 60 := zr_nlt_l 0 c93_ h2z92_ (show 0 ≤ Int32.toInt 0 ∧ Int32.toInt 0 ≤ 0 from (by decide)) (by decide)
            refine pw_blk hT 3 (S' := (32, [some (pvR 0), some (pvI n1), some (pvI i2z92_)], [pvI i2z92_, pvR 5], Mz92_)) rfl ⟨trivial, rfl, trivial, trivial⟩ ?_
            refine pw_callGd hT (as := [pvR 5, pvI i2z92_]) (lo1 := [some (pvR 5), some (pvI i2z92_)]) (d1 := d) (rest := []) rfl rfl rfl rfl rfl (fun _ => rfl) (Nat.zero_le _) rfl rfl rfl (se_X1_costOfRound_5_x Mz92_ oz92_ i2z92_ b95_ d) (fun x97_ M98_ b99_ o100_ g101_ d96_ => ?_)
            have f102_ : pvFr fp_eX9_late_0_x M M98_ := pvfr_t g101_ fz92_ fp_eX9_late_0_x_fp_eX1_costOfRound_5_x
            refine pw_blk hT 1 (S' := (36, [some (pvR 0), some (pvI n1), some (pvI i2z92_)], [pvI n1, pvI x97_], M98_)) rfl ⟨trivial, trivial⟩ ?_
            refine pw_ic hT (c := n1 < x97_) rfl rfl (fun c103_ => ?_) (fun c103_ => ?_)
            · have b104_ : 1 ≤ Int32.toInt x97_ ∧ Int32.toInt x97_ ≤ 2147483647 := zr_lt_r 1 c103_ (zbnd x97_) b13_ (by decide)
              have d105_ : Int32.toInt n1 < Int32.toInt x97_ := (zi_lt _ _).mp c103_
              obtain ⟨q107_, b106_⟩ : (Int32.toInt (i2z92_ + (-1)) = Int32.toInt i2z92_ + (-1)) ∧ ((-1) ≤ Int32.toInt (i2z92_ + (-1)) ∧ Int32.toInt (i2z92_ + (-1)) ≤ 59) := zadd_k i2z92_ (-1) (-1) (-1) 59 b95_ (by decide) (by decide) (by decide) (by decide) (by decide)
              refine pw_blk hT 2 (S' := (23, [some (pvR 0), some (pvI n1), some (pvI (i2z92_ + (-1)))], [], M98_)) rfl ⟨trivial, trivial, trivial⟩ ?_
              have j108_ : yLtI M M98_ n1 (i2z92_ + (-1)) := (yLtI_s hok oz92_ j0z92_ (by have u := b95_; omega) d96_ (Int32.not_le.mpr c103_) (by omega))
              exact ihz92_ (i2z92_ + (-1)) M98_ o100_ f102_ (zr_wide b106_ (by decide) (by decide)) j108_ (zhid (pvms_dn (zshow hmz92_) h2z92_ q107_ (by decide) (by decide)))
            · have b109_ : (-2147483648) ≤ Int32.toInt x97_ ∧ Int32.toInt x97_ ≤ 99999 := zr_nlt_r 99999 c103_ (zbnd x97_) b13_ (by decide)
              have d110_ : Int32.toInt n1 ≥ Int32.toInt x97_ := Int.not_lt.mp ((not_congr (zi_lt _ _)).mp c103_)
              refine pw_blk hT 1 (S' := (40, [some (pvR 0), some (pvI n1), some (pvI i2z92_)], [pvI i2z92_], M98_)) rfl ⟨trivial, trivial⟩ ?_
              exact pw_ret hT rfl (r := some (pvI i2z92_)) (M' := M98_) ⟨rfl, rfl⟩ ⟨⟨_, rfl, (zr_wide b95_ (by decide) (by decide))⟩, o100_, f102_, (yGlt_y hok oz92_ j0z92_ (by have u := b13_; omega) (by have u := b95_; omega) d96_ (Int32.not_lt.mp c103_))⟩
      have u111_ : Int32.toInt 60 = 60 := by decide
      have j112_ : yLtI M M17_ n1 60 := (yLtI_0 d15_ (by decide))
      exact hlz92_ _ 60 M17_ o19_ f21_ (zr_wide (show 60 ≤ Int32.toInt 60 ∧ Int32.toInt 60 ≤ 60 from (by decide)) (by decide) (by decide)) j112_ (zhid (Nat.lt_succ_self _))
def fpL_eX1_costWithout_5_x : List (Nat × Nat × Nat) := [(0, 106, 1), (0, 114, 0), (0, 12, 0), (0, 122, 0)]
def fp_eX1_costWithout_5_x (q k : Nat) : Bool := pvfp fpL_eX1_costWithout_5_x q k
theorem fp_eX1_costWithout_5_x_fp_eX1_costOfTried_5 (a b : Nat) (h : fp_eX1_costOfTried_5 a b = true) : fp_eX1_costWithout_5_x a b = true := pvfp_sub (l1 := fpL_eX1_costOfTried_5) (l2 := fpL_eX1_costWithout_5_x) (by decide) a b h
theorem fp_eX1_costWithout_5_x_fp_eX6_append_106_x_x (a b : Nat) (h : fp_eX6_append_106_x_x a b = true) : fp_eX1_costWithout_5_x a b = true := pvfp_sub (l1 := fpL_eX6_append_106_x_x) (l2 := fpL_eX1_costWithout_5_x) (by decide) a b h
theorem fp_eX1_costWithout_5_x_fp_eX6_clear_106 (a b : Nat) (h : fp_eX6_clear_106 a b = true) : fp_eX1_costWithout_5_x a b = true := pvfp_sub (l1 := fpL_eX6_clear_106) (l2 := fpL_eX1_costWithout_5_x) (by decide) a b h
set_option maxHeartbeats 4000000 in
set_option maxRecDepth 10000 in
theorem se_X1_costWithout_5_x (M : pvM) (hok : pvOk M) (n1 : Int32) (hn1 : 0 ≤ Int32.toInt n1 ∧ Int32.toInt n1 ≤ 6) (d : Nat) : PW 107 d (0, [some (pvR 5), some (pvI n1), none], [], M) (fun r X => (∃ x : Int32, r = some (pvI x) ∧ True) ∧ pvOk X ∧ pvFr fp_eX1_costWithout_5_x M X ∧ yRt M X (ysk (yCr_p M) (Int32.toNatClampNeg n1)) (Int32.toInt (M.1 8 4)) (ysn (Int32.toNatClampNeg n1) (yCr_n M)) r) := by
  have hT : pvdom 107 = pvD_107 := rfl
  refine pw_blk hT 2 (S' := (4, [some (pvR 5), some (pvI n1), none], [pvR 106], M)) rfl ⟨trivial, rfl, trivial⟩ ?_
  refine pw_callGd hT (as := [pvR 106]) (lo1 := [some (pvR 106)]) (d1 := d) (rest := []) rfl rfl rfl rfl rfl (fun _ => rfl) (Nat.zero_le _) rfl rfl rfl (se_X6_clear_106 M hok d) (fun x2_ M3_ b4_ o5_ g6_ d1_ => ?_)
  have f7_ : pvFr fp_eX1_costWithout_5_x M M3_ := pvfr_t g6_ pvfr_0 fp_eX1_costWithout_5_x_fp_eX6_clear_106
  obtain ⟨b8_, d9_⟩ := b4_
  subst d9_
  refine pw_blk hT 3 (S' := (10, [some (pvR 5), some (pvI n1), some (pvI 0)], [], M3_)) rfl ⟨trivial, trivial, trivial, trivial⟩ ?_
  have hlz138_ : ∀ (nz138_ : Nat) (i2z138_ : Int32) (Mz138_ : pvM), (pvOk Mz138_) → (pvFr fp_eX1_costWithout_5_x M Mz138_) → (0 ≤ Int32.toInt i2z138_ ∧ Int32.toInt i2z138_ ≤ 7) → (yWI M Mz138_ n1 i2z138_) → (Int32.toInt i2z138_ ≤ Int32.toInt (M.1 100 0)) → (zhide ((8 - Int32.toInt i2z138_).toNat < nz138_)) → PW 107 d (10, [some (pvR 5), some (pvI n1), some (pvI i2z138_)], [], Mz138_) (fun r X => (∃ x : Int32, r = some (pvI x) ∧ True) ∧ pvOk X ∧ pvFr fp_eX1_costWithout_5_x M X ∧ yRt M X (ysk (yCr_p M) (Int32.toNatClampNeg n1)) (Int32.toInt (M.1 8 4)) (ysn (Int32.toNatClampNeg n1) (yCr_n M)) r) := by
    intro nz138_
    induction nz138_ with
    | zero => intro i2z138_ Mz138_ oz138_ fz138_ h2z138_ j0z138_ j1z138_ hmz138_; exact absurd (zshow hmz138_) (Nat.not_lt_zero _)
    | succ nz138_ ihz138_ =>
      intro i2z138_ Mz138_ oz138_ fz138_ h2z138_ j0z138_ j1z138_ hmz138_
      have b139_ : 0 ≤ Int32.toInt (Mz138_.1 100 0) ∧ Int32.toInt (Mz138_.1 100 0) ≤ 7 := pvok_r oz138_ 100 0 rfl
      refine pw_blk hT 5 (S' := (21, [some (pvR 5), some (pvI n1), some (pvI i2z138_)], [pvI (Mz138_.1 100 0), pvI i2z138_], Mz138_)) rfl ⟨trivial, trivial, rfl, rfl, rfl, trivial⟩ ?_
      refine pw_ic hT (c := (Mz138_.1 100 0) ≤ i2z138_) rfl rfl (fun c140_ => ?_) (fun c140_ => ?_)
      · have d141_ : Int32.toInt (Mz138_.1 100 0) ≤ Int32.toInt i2z138_ := (zi_le _ _).mp c140_
        refine pw_blk hT 1 (S' := (57, [some (pvR 5), some (pvI n1), some (pvI i2z138_)], [pvR 5], Mz138_)) rfl ⟨trivial, trivial⟩ ?_
        refine pw_callGd hT (as := [pvR 5]) (lo1 := [some (pvR 5)]) (d1 := d) (rest := []) rfl rfl rfl rfl rfl (fun _ => rfl) (Nat.zero_le _) rfl rfl rfl (se_X1_costOfTried_5 Mz138_ oz138_ d) (fun x143_ M144_ b145_ o146_ g147_ d142_ => ?_)
        have f148_ : pvFr fp_eX1_costWithout_5_x M M144_ := pvfr_t g147_ fz138_ fp_eX1_costWithout_5_x_fp_eX1_costOfTried_5
        exact pw_ret hT rfl (r := some (pvI x143_)) (M' := M144_) ⟨rfl, rfl⟩ ⟨⟨_, rfl, trivial⟩, o146_, f148_, (yRt_w hok j0z138_ ⟨by have u := h2z138_; omega, j1z138_⟩ (by have v := (zi_le _ _).mp c140_; omega) d142_)⟩
      · have b149_ : 1 ≤ Int32.toInt (Mz138_.1 100 0) ∧ Int32.toInt (Mz138_.1 100 0) ≤ 7 := zr_nle_l 1 c140_ b139_ h2z138_ (by decide)
        have b150_ : 0 ≤ Int32.toInt i2z138_ ∧ Int32.toInt i2z138_ ≤ 6 := zr_nle_r 6 c140_ h2z138_ b149_ (by decide)
        have d151_ : Int32.toInt (Mz138_.1 100 0) > Int32.toInt i2z138_ := Int.not_le.mp ((not_congr (zi_le _ _)).mp c140_)
        refine pw_blk hT 2 (S' := (26, [some (pvR 5), some (pvI n1), some (pvI i2z138_)], [pvI n1, pvI i2z138_], Mz138_)) rfl ⟨trivial, trivial, trivial⟩ ?_
        refine pw_ic hT (c := i2z138_ = n1) rfl rfl (fun c152_ => ?_) (fun c152_ => ?_)
        · have d153_ : Int32.toInt i2z138_ = Int32.toInt n1 := (zi_eq _ _).mp c152_
          obtain ⟨q155_, b154_⟩ : (Int32.toInt (i2z138_ + 1) = Int32.toInt i2z138_ + 1) ∧ (1 ≤ Int32.toInt (i2z138_ + 1) ∧ Int32.toInt (i2z138_ + 1) ≤ 7) := zadd_k i2z138_ 1 1 1 7 b150_ (by decide) (by decide) (by decide) (by decide) (by decide)
          refine pw_blk hT 2 (S' := (10, [some (pvR 5), some (pvI n1), some (pvI (i2z138_ + 1))], [], Mz138_)) rfl ⟨trivial, trivial, trivial⟩ ?_
          have j156_ : yWI M Mz138_ n1 (i2z138_ + 1) := (yWI_n j0z138_ (by have u := b150_; omega) (by omega) c152_)
          have j157_ : Int32.toInt (i2z138_ + 1) ≤ Int32.toInt (M.1 100 0) := (by have v := (ylt_k j0z138_.1 c140_); omega)
          exact ihz138_ (i2z138_ + 1) Mz138_ oz138_ fz138_ (zr_wide b154_ (by decide) (by decide)) j156_ j157_ (zhid (pvms_up (zshow hmz138_) h2z138_ q155_ (by decide) (by decide)))
        · have b158_ : 0 ≤ Int32.toInt (Mz138_.1 108 (Int32.toNatClampNeg i2z138_)) ∧ Int32.toInt (Mz138_.1 108 (Int32.toNatClampNeg i2z138_)) ≤ 6 := pvok_r oz138_ 108 (Int32.toNatClampNeg i2z138_) rfl
          refine pw_blk hT 9 (S' := (46, [some (pvR 5), some (pvI n1), some (pvI i2z138_)], [pvI 0, pvI (Mz138_.1 108 (Int32.toNatClampNeg i2z138_)), pvR 106], Mz138_)) rfl ⟨trivial, rfl, trivial, rfl, rfl, rfl, trivial, ⟨rfl, (zr_in (n := 7) b150_ (by decide) (by decide))⟩, trivial, trivial⟩ ?_
          refine pw_callGd hT (as := [pvR 106, pvI (Mz138_.1 108 (Int32.toNatClampNeg i2z138_)), pvI 0]) (lo1 := [some (pvR 106), some (pvI (Mz138_.1 108 (Int32.toNatClampNeg i2z138_))), some (pvI 0)]) (d1 := d) (rest := []) rfl rfl rfl rfl rfl (fun _ => rfl) (Nat.zero_le _) rfl rfl rfl (se_X6_append_106_x_x Mz138_ oz138_ (Mz138_.1 108 (Int32.toNatClampNeg i2z138_)) 0 b158_ (zr_wide (show 0 ≤ Int32.toInt 0 ∧ Int32.toInt 0 ≤ 0 from (by decide)) (by decide) (by decide)) d) (fun x160_ M161_ b162_ o163_ g164_ d159_ => ?_)
          have f165_ : pvFr fp_eX1_costWithout_5_x M M161_ := pvfr_t g164_ fz138_ fp_eX1_costWithout_5_x_fp_eX6_append_106_x_x
          have u166_ : Int32.toInt 0 = 0 := by decide
          obtain ⟨b167_, d168_⟩ := b162_
          subst d168_
          obtain ⟨q170_, b169_⟩ : (Int32.toInt (i2z138_ + 1) = Int32.toInt i2z138_ + 1) ∧ (1 ≤ Int32.toInt (i2z138_ + 1) ∧ Int32.toInt (i2z138_ + 1) ≤ 7) := zadd_k i2z138_ 1 1 1 7 b150_ (by decide) (by decide) (by decide) (by decide) (by decide)
          refine pw_blk hT 3 (S' := (10, [some (pvR 5), some (pvI n1), some (pvI (i2z138_ + 1))], [], M161_)) rfl ⟨trivial, trivial, trivial, trivial⟩ ?_
          have j171_ : yWI M M161_ n1 (i2z138_ + 1) := (yWI_y oz138_ j0z138_ ⟨(by have u := b150_; omega), (ylt_k j0z138_.1 c140_)⟩ (pvok_r hok 100 0 (lo := 0) (hi := 7) rfl).2 hn1.1 (by omega) c152_ (yKt_fr (L := fpL_eX6_append_106_x_x) g164_ (by decide +kernel)) d159_.1 rfl d159_.2)
          have j172_ : Int32.toInt (i2z138_ + 1) ≤ Int32.toInt (M.1 100 0) := (by have v := (ylt_k j0z138_.1 c140_); omega)
          exact ihz138_ (i2z138_ + 1) M161_ o163_ f165_ (zr_wide b169_ (by decide) (by decide)) j171_ j172_ (zhid (pvms_up (zshow hmz138_) h2z138_ q170_ (by decide) (by decide)))
  have u173_ : Int32.toInt 0 = 0 := by decide
  have j174_ : yWI M M3_ n1 0 := (yWI_0 (yKt_fr (L := fpL_eX6_clear_106) g6_ (by decide +kernel)) d1_)
  have j175_ : Int32.toInt 0 ≤ Int32.toInt (M.1 100 0) := (by have u := pvok_r hok 100 0 (lo := 0) (hi := 7) rfl; have z : Int32.toInt 0 = 0 := (by decide); omega)
  exact hlz138_ _ 0 M3_ o5_ f7_ (zr_wide (show 0 ≤ Int32.toInt 0 ∧ Int32.toInt 0 ≤ 0 from (by decide)) (by decide) (by decide)) j174_ j175_ (zhid (Nat.lt_succ_self _))
def fpL_eX9_leave_0 : List (Nat × Nat × Nat) := [(0, 106, 1), (0, 114, 0), (0, 12, 0), (0, 122, 0), (0, 13, 0), (0, 14, 0), (0, 5, 2), (0, 5, 3), (1, 112, 0)]
def fp_eX9_leave_0 (q k : Nat) : Bool := pvfp fpL_eX9_leave_0 q k
theorem fp_eX9_leave_0_fp_eX1_beginFromNow_5 (a b : Nat) (h : fp_eX1_beginFromNow_5 a b = true) : fp_eX9_leave_0 a b = true := pvfp_sub (l1 := fpL_eX1_beginFromNow_5) (l2 := fpL_eX9_leave_0) (by decide) a b h
theorem fp_eX9_leave_0_fp_eX1_costOfRound_5_x (a b : Nat) (h : fp_eX1_costOfRound_5_x a b = true) : fp_eX9_leave_0 a b = true := pvfp_sub (l1 := fpL_eX1_costOfRound_5_x) (l2 := fpL_eX9_leave_0) (by decide) a b h
theorem fp_eX9_leave_0_fp_eX1_costWithout_5_x (a b : Nat) (h : fp_eX1_costWithout_5_x a b = true) : fp_eX9_leave_0 a b = true := pvfp_sub (l1 := fpL_eX1_costWithout_5_x) (l2 := fpL_eX9_leave_0) (by decide) a b h
set_option maxHeartbeats 4000000 in
set_option maxRecDepth 10000 in
theorem se_X9_leave_0 (M : pvM) (hok : pvOk M) (d : Nat) : PW 184 d (0, [some (pvR 0), none, none, none], [], M) (fun r X => (∃ x : Int32, r = some (pvI x) ∧ True) ∧ pvOk X ∧ pvFr fp_eX9_leave_0 M X ∧ yAn yGlv r M X) := by
  have hT : pvdom 184 = pvD_184 := rfl
  refine pw_blk hT 2 (S' := (4, [some (pvR 0), none, none, none], [pvR 5], M)) rfl ⟨trivial, rfl, trivial⟩ ?_
  refine pw_callVd hT (as := [pvR 5]) (lo1 := [some (pvR 5)]) (d1 := d) (rest := []) rfl rfl rfl rfl rfl (fun _ => rfl) (Nat.zero_le _) rfl rfl rfl (se_X1_beginFromNow_5 M hok d) (fun M3_ o5_ g6_ d1_ => ?_)
  have f7_ : pvFr fp_eX9_leave_0 M M3_ := pvfr_t g6_ pvfr_0 fp_eX9_leave_0_fp_eX1_beginFromNow_5
  refine pw_blk hT 3 (S' := (12, [some (pvR 0), none, none, none], [pvI 0, pvR 5], M3_)) rfl ⟨trivial, rfl, trivial, trivial⟩ ?_
  refine pw_callGd hT (as := [pvR 5, pvI 0]) (lo1 := [some (pvR 5), some (pvI 0)]) (d1 := d) (rest := []) rfl rfl rfl rfl rfl (fun _ => rfl) (Nat.zero_le _) rfl rfl rfl (se_X1_costOfRound_5_x M3_ o5_ 0 (zr_wide (show 0 ≤ Int32.toInt 0 ∧ Int32.toInt 0 ≤ 0 from (by decide)) (by decide) (by decide)) d) (fun x9_ M10_ b11_ o12_ g13_ d8_ => ?_)
  have f14_ : pvFr fp_eX9_leave_0 M M10_ := pvfr_t g13_ f7_ fp_eX9_leave_0_fp_eX1_costOfRound_5_x
  refine pw_blk hT 5 (S' := (20, [some (pvR 0), some (pvI x9_), some (pvI 0), some (pvI 0)], [], M10_)) rfl ⟨trivial, trivial, trivial, trivial, trivial, trivial⟩ ?_
  have hlz111_ : ∀ (nz111_ : Nat) (i2z111_ : Int32) (i3z111_ : Int32) (Mz111_ : pvM), (pvOk Mz111_) → (pvFr fp_eX9_leave_0 M Mz111_) → (0 ≤ Int32.toInt i3z111_ ∧ Int32.toInt i3z111_ ≤ 7) → (yLvI M Mz111_ x9_ i2z111_ i3z111_) → (zhide ((8 - Int32.toInt i3z111_).toNat < nz111_)) → PW 184 d (20, [some (pvR 0), some (pvI x9_), some (pvI i2z111_), some (pvI i3z111_)], [], Mz111_) (fun r X => (∃ x : Int32, r = some (pvI x) ∧ True) ∧ pvOk X ∧ pvFr fp_eX9_leave_0 M X ∧ yAn yGlv r M X) := by
    intro nz111_
    induction nz111_ with
    | zero => intro i2z111_ i3z111_ Mz111_ oz111_ fz111_ h3z111_ j0z111_ hmz111_; exact absurd (zshow hmz111_) (Nat.not_lt_zero _)
    | succ nz111_ ihz111_ =>
      intro i2z111_ i3z111_ Mz111_ oz111_ fz111_ h3z111_ j0z111_ hmz111_
      have b112_ : 0 ≤ Int32.toInt (Mz111_.1 100 0) ∧ Int32.toInt (Mz111_.1 100 0) ≤ 7 := pvok_r oz111_ 100 0 rfl
      refine pw_blk hT 5 (S' := (31, [some (pvR 0), some (pvI x9_), some (pvI i2z111_), some (pvI i3z111_)], [pvI (Mz111_.1 100 0), pvI i3z111_], Mz111_)) rfl ⟨trivial, trivial, rfl, rfl, rfl, trivial⟩ ?_
      refine pw_ic hT (c := (Mz111_.1 100 0) ≤ i3z111_) rfl rfl (fun c113_ => ?_) (fun c113_ => ?_)
      · have d114_ : Int32.toInt (Mz111_.1 100 0) ≤ Int32.toInt i3z111_ := (zi_le _ _).mp c113_
        refine pw_blk hT 1 (S' := (70, [some (pvR 0), some (pvI x9_), some (pvI i2z111_), some (pvI i3z111_)], [pvI i2z111_], Mz111_)) rfl ⟨trivial, trivial⟩ ?_
        exact pw_ret hT rfl (r := some (pvI i2z111_)) (M' := Mz111_) ⟨rfl, rfl⟩ ⟨⟨_, rfl, trivial⟩, oz111_, fz111_, (yGlv_e j0z111_ (by have u := h3z111_; omega) c113_)⟩
      · have b115_ : 1 ≤ Int32.toInt (Mz111_.1 100 0) ∧ Int32.toInt (Mz111_.1 100 0) ≤ 7 := zr_nle_l 1 c113_ b112_ h3z111_ (by decide)
        have b116_ : 0 ≤ Int32.toInt i3z111_ ∧ Int32.toInt i3z111_ ≤ 6 := zr_nle_r 6 c113_ h3z111_ b115_ (by decide)
        have d117_ : Int32.toInt (Mz111_.1 100 0) > Int32.toInt i3z111_ := Int.not_le.mp ((not_congr (zi_le _ _)).mp c113_)
        refine pw_blk hT 3 (S' := (39, [some (pvR 0), some (pvI x9_), some (pvI i2z111_), some (pvI i3z111_)], [pvI i3z111_, pvR 5], Mz111_)) rfl ⟨trivial, rfl, trivial, trivial⟩ ?_
        refine pw_callGd hT (as := [pvR 5, pvI i3z111_]) (lo1 := [some (pvR 5), some (pvI i3z111_), none]) (d1 := d) (rest := []) rfl rfl rfl rfl rfl (fun _ => rfl) (Nat.zero_le _) rfl rfl rfl (se_X1_costWithout_5_x Mz111_ oz111_ i3z111_ b116_ d) (fun x119_ M120_ b121_ o122_ g123_ d118_ => ?_)
        have f124_ : pvFr fp_eX9_leave_0 M M120_ := pvfr_t g123_ fz111_ fp_eX9_leave_0_fp_eX1_costWithout_5_x
        refine pw_blk hT 1 (S' := (43, [some (pvR 0), some (pvI x9_), some (pvI i2z111_), some (pvI i3z111_)], [pvI x9_, pvI x119_], M120_)) rfl ⟨trivial, trivial⟩ ?_
        refine pw_ic hT (c := x9_ < x119_) rfl rfl (fun c125_ => ?_) (fun c125_ => ?_)
        · have b126_ : (-2147483648) ≤ Int32.toInt x9_ ∧ Int32.toInt x9_ ≤ 2147483646 := zr_lt_l 2147483646 c125_ (zbnd x9_) (zbnd x119_) (by decide)
          have b127_ : (-2147483647) ≤ Int32.toInt x119_ ∧ Int32.toInt x119_ ≤ 2147483647 := zr_lt_r (-2147483647) c125_ (zbnd x119_) b126_ (by decide)
          have d128_ : Int32.toInt x9_ < Int32.toInt x119_ := (zi_lt _ _).mp c125_
          obtain ⟨q130_, b129_⟩ : (Int32.toInt (i3z111_ + 1) = Int32.toInt i3z111_ + 1) ∧ (1 ≤ Int32.toInt (i3z111_ + 1) ∧ Int32.toInt (i3z111_ + 1) ≤ 7) := zadd_k i3z111_ 1 1 1 7 b116_ (by decide) (by decide) (by decide) (by decide) (by decide)
          refine pw_blk hT 2 (S' := (20, [some (pvR 0), some (pvI x9_), some (pvI i2z111_), some (pvI (i3z111_ + 1))], [], M120_)) rfl ⟨trivial, trivial, trivial⟩ ?_
          have j131_ : yLvI M M120_ x9_ i2z111_ (i3z111_ + 1) := (yLvI_n hok oz111_ j0z111_ (by have u := b116_; omega) c113_ d118_ (Int32.not_le.mpr c125_) (by omega))
          exact ihz111_ i2z111_ (i3z111_ + 1) M120_ o122_ f124_ (zr_wide b129_ (by decide) (by decide)) j131_ (zhid (pvms_up (zshow hmz111_) h3z111_ q130_ (by decide) (by decide)))
        · have d132_ : Int32.toInt x9_ ≥ Int32.toInt x119_ := Int.not_lt.mp ((not_congr (zi_lt _ _)).mp c125_)
          have b133_ : 0 ≤ Int32.toInt (M120_.1 108 (Int32.toNatClampNeg i3z111_)) ∧ Int32.toInt (M120_.1 108 (Int32.toNatClampNeg i3z111_)) ≤ 6 := pvok_r o122_ 108 (Int32.toNatClampNeg i3z111_) rfl
          obtain ⟨q135_, b134_⟩ : (Int32.toInt (i3z111_ + 1) = Int32.toInt i3z111_ + 1) ∧ (1 ≤ Int32.toInt (i3z111_ + 1) ∧ Int32.toInt (i3z111_ + 1) ≤ 7) := zadd_k i3z111_ 1 1 1 7 b116_ (by decide) (by decide) (by decide) (by decide) (by decide)
          refine pw_blk hT 13 (S' := (20, [some (pvR 0), some (pvI x9_), some (pvI (i2z111_ ||| (1 <<< ((M120_.1 108 (Int32.toNatClampNeg i3z111_)) &&& 31)))), some (pvI (i3z111_ + 1))], [], M120_)) rfl ⟨trivial, trivial, trivial, rfl, rfl, rfl, trivial, ⟨rfl, (zr_in (n := 7) b116_ (by decide) (by decide))⟩, trivial, trivial, trivial, trivial, trivial, trivial⟩ ?_
          have j136_ : yLvI M M120_ x9_ (i2z111_ ||| (1 <<< ((M120_.1 108 (Int32.toNatClampNeg i3z111_)) &&& 31))) (i3z111_ + 1) := (yLvI_y hok oz111_ j0z111_ (by have u := b116_; omega) c113_ d118_ (Int32.not_lt.mp c125_) rfl (by omega))
          exact ihz111_ (i2z111_ ||| (1 <<< ((M120_.1 108 (Int32.toNatClampNeg i3z111_)) &&& 31))) (i3z111_ + 1) M120_ o122_ f124_ (zr_wide b134_ (by decide) (by decide)) j136_ (zhid (pvms_up (zshow hmz111_) h3z111_ q135_ (by decide) (by decide)))
  have u137_ : Int32.toInt 0 = 0 := by decide
  have j138_ : yLvI M M10_ x9_ 0 0 := (yLvI_0 hok o5_ d1_ d8_)
  exact hlz111_ _ 0 0 M10_ o12_ f14_ (zr_wide (show 0 ≤ Int32.toInt 0 ∧ Int32.toInt 0 ≤ 0 from (by decide)) (by decide) (by decide)) j138_ (zhid (Nat.lt_succ_self _))
def fpL_eX9_looked_0 : List (Nat × Nat × Nat) := [(0, 12, 0), (0, 13, 0), (0, 14, 0), (0, 5, 2), (0, 5, 3), (1, 112, 0)]
def fp_eX9_looked_0 (q k : Nat) : Bool := pvfp fpL_eX9_looked_0 q k
theorem fp_eX9_looked_0_fp_eX1_beginFromNow_5 (a b : Nat) (h : fp_eX1_beginFromNow_5 a b = true) : fp_eX9_looked_0 a b = true := pvfp_sub (l1 := fpL_eX1_beginFromNow_5) (l2 := fpL_eX9_looked_0) (by decide) a b h
theorem fp_eX9_looked_0_fp_eX1_goRound_5_x (a b : Nat) (h : fp_eX1_goRound_5_x a b = true) : fp_eX9_looked_0 a b = true := pvfp_sub (l1 := fpL_eX1_goRound_5_x) (l2 := fpL_eX9_looked_0) (by decide) a b h
set_option maxHeartbeats 4000000 in
set_option maxRecDepth 10000 in
theorem se_X9_looked_0 (M : pvM) (hok : pvOk M) (d : Nat) : PW 185 d (0, [some (pvR 0), none], [], M) (fun r X => (∃ x : Int32, r = some (pvI x) ∧ (-5) ≤ Int32.toInt x ∧ Int32.toInt x ≤ 7) ∧ pvOk X ∧ pvFr fp_eX9_looked_0 M X ∧ yk9 r M X ∧ yWK M X) := by
  have hT : pvdom 185 = pvD_185 := rfl
  refine pw_blk hT 2 (S' := (4, [some (pvR 0), none], [pvR 5], M)) rfl ⟨trivial, rfl, trivial⟩ ?_
  refine pw_callVd hT (as := [pvR 5]) (lo1 := [some (pvR 5)]) (d1 := d) (rest := []) rfl rfl rfl rfl rfl (fun _ => rfl) (Nat.zero_le _) rfl rfl rfl (se_X1_beginFromNow_5 M hok d) (fun M3_ o5_ g6_ d1_ => ?_)
  have f7_ : pvFr fp_eX9_looked_0 M M3_ := pvfr_t g6_ pvfr_0 fp_eX9_looked_0_fp_eX1_beginFromNow_5
  refine pw_blk hT 3 (S' := (12, [some (pvR 0), none], [pvI 0, pvR 5], M3_)) rfl ⟨trivial, rfl, trivial, trivial⟩ ?_
  refine pw_callGd hT (as := [pvR 5, pvI 0]) (lo1 := [some (pvR 5), some (pvI 0)]) (d1 := d) (rest := []) rfl rfl rfl rfl rfl (fun _ => rfl) (Nat.zero_le _) rfl rfl rfl (se_X1_goRound_5_x M3_ o5_ 0 (zr_wide (show 0 ≤ Int32.toInt 0 ∧ Int32.toInt 0 ≤ 0 from (by decide)) (by decide) (by decide)) d) (fun x9_ M10_ b11_ o12_ g13_ d8_ => ?_)
  have f14_ : pvFr fp_eX9_looked_0 M M10_ := pvfr_t g13_ f7_ fp_eX9_looked_0_fp_eX1_goRound_5_x
  refine pw_blk hT 3 (S' := (18, [some (pvR 0), some (pvI 0)], [], M10_)) rfl ⟨trivial, trivial, trivial, trivial⟩ ?_
  have hlz66_ : ∀ (nz66_ : Nat) (i1z66_ : Int32), (0 ≤ Int32.toInt i1z66_ ∧ Int32.toInt i1z66_ ≤ 8) → (yki M10_ 12 112 120 (M10_.1 104 0) i1z66_) → (zhide ((9 - Int32.toInt i1z66_).toNat < nz66_)) → PW 185 d (18, [some (pvR 0), some (pvI i1z66_)], [], M10_) (fun r X => (∃ x : Int32, r = some (pvI x) ∧ (-5) ≤ Int32.toInt x ∧ Int32.toInt x ≤ 7) ∧ pvOk X ∧ pvFr fp_eX9_looked_0 M X ∧ yk9 r M X ∧ yWK M X) := by
    intro nz66_
    induction nz66_ with
    | zero => intro i1z66_ h1z66_ j0z66_ hmz66_; exact absurd (zshow hmz66_) (Nat.not_lt_zero _)
    | succ nz66_ ihz66_ =>
      intro i1z66_ h1z66_ j0z66_ hmz66_
      have b67_ : 0 ≤ Int32.toInt (M10_.1 104 0) ∧ Int32.toInt (M10_.1 104 0) ≤ 8 := pvok_r o12_ 104 0 rfl
      refine pw_blk hT 5 (S' := (29, [some (pvR 0), some (pvI i1z66_)], [pvI (M10_.1 104 0), pvI i1z66_], M10_)) rfl ⟨trivial, trivial, rfl, rfl, rfl, trivial⟩ ?_
      refine pw_ic hT (c := (M10_.1 104 0) ≤ i1z66_) rfl rfl (fun c68_ => ?_) (fun c68_ => ?_)
      · have d69_ : Int32.toInt (M10_.1 104 0) ≤ Int32.toInt i1z66_ := (zi_le _ _).mp c68_
        refine pw_blk hT 1 (S' := (77, [some (pvR 0), some (pvI i1z66_)], [pvI (-5)], M10_)) rfl ⟨trivial, trivial⟩ ?_
        exact pw_ret hT rfl (r := some (pvI (-5))) (M' := M10_) ⟨rfl, rfl⟩ ⟨⟨_, rfl, (zr_wide (show (-5) ≤ Int32.toInt (-5) ∧ Int32.toInt (-5) ≤ (-5) from (by decide)) (by decide) (by decide))⟩, o12_, f14_, ⟨(congrArg (fun z => some (pvI z)) (yki_e j0z66_ (by omega))), _, _, d1_, d8_⟩, (yWK_t o5_ (yWK_B d1_) (yWK_fr (L := fpL_eX1_goRound_5_x) g13_ (by decide +kernel)))⟩
      · have b70_ : 1 ≤ Int32.toInt (M10_.1 104 0) ∧ Int32.toInt (M10_.1 104 0) ≤ 8 := zr_nle_l 1 c68_ b67_ h1z66_ (by decide)
        have b71_ : 0 ≤ Int32.toInt i1z66_ ∧ Int32.toInt i1z66_ ≤ 7 := zr_nle_r 7 c68_ h1z66_ b70_ (by decide)
        have d72_ : Int32.toInt (M10_.1 104 0) > Int32.toInt i1z66_ := Int.not_le.mp ((not_congr (zi_le _ _)).mp c68_)
        have b73_ : 0 ≤ Int32.toInt (M10_.1 112 (Int32.toNatClampNeg i1z66_)) ∧ Int32.toInt (M10_.1 112 (Int32.toNatClampNeg i1z66_)) ≤ 6 := pvok_r o12_ 112 (Int32.toNatClampNeg i1z66_) rfl
        have b74_ : 0 ≤ Int32.toInt (M10_.1 12 (Int32.toNatClampNeg (M10_.1 112 (Int32.toNatClampNeg i1z66_)))) ∧ Int32.toInt (M10_.1 12 (Int32.toNatClampNeg (M10_.1 112 (Int32.toNatClampNeg i1z66_)))) ≤ 1000000 := pvok_r o12_ 12 (Int32.toNatClampNeg (M10_.1 112 (Int32.toNatClampNeg i1z66_))) rfl
        have b75_ : 0 ≤ Int32.toInt (M10_.1 120 (Int32.toNatClampNeg i1z66_)) ∧ Int32.toInt (M10_.1 120 (Int32.toNatClampNeg i1z66_)) ≤ 9999 := pvok_r o12_ 120 (Int32.toNatClampNeg i1z66_) rfl
        refine pw_blk hT 16 (S' := (64, [some (pvR 0), some (pvI i1z66_)], [pvI (M10_.1 120 (Int32.toNatClampNeg i1z66_)), pvI (M10_.1 12 (Int32.toNatClampNeg (M10_.1 112 (Int32.toNatClampNeg i1z66_))))], M10_)) rfl ⟨trivial, rfl, rfl, trivial, rfl, rfl, rfl, trivial, ⟨rfl, (zr_in (n := 8) b71_ (by decide) (by decide))⟩, ⟨rfl, (zr_in (n := 7) b73_ (by decide) (by decide))⟩, trivial, rfl, rfl, rfl, trivial, ⟨rfl, (zr_in (n := 8) b71_ (by decide) (by decide))⟩, trivial⟩ ?_
        refine pw_ic hT (c := (M10_.1 12 (Int32.toNatClampNeg (M10_.1 112 (Int32.toNatClampNeg i1z66_)))) ≤ (M10_.1 120 (Int32.toNatClampNeg i1z66_))) rfl rfl (fun c76_ => ?_) (fun c76_ => ?_)
        · have b77_ : 0 ≤ Int32.toInt (M10_.1 12 (Int32.toNatClampNeg (M10_.1 112 (Int32.toNatClampNeg i1z66_)))) ∧ Int32.toInt (M10_.1 12 (Int32.toNatClampNeg (M10_.1 112 (Int32.toNatClampNeg i1z66_)))) ≤ 9999 := zr_le_l 9999 c76_ b74_ b75_ (by decide)
          have d78_ : Int32.toInt (M10_.1 12 (Int32.toNatClampNeg (M10_.1 112 (Int32.toNatClampNeg i1z66_)))) ≤ Int32.toInt (M10_.1 120 (Int32.toNatClampNeg i1z66_)) := (zi_le _ _).mp c76_
          obtain ⟨q80_, b79_⟩ : (Int32.toInt (i1z66_ + 1) = Int32.toInt i1z66_ + 1) ∧ (1 ≤ Int32.toInt (i1z66_ + 1) ∧ Int32.toInt (i1z66_ + 1) ≤ 8) := zadd_k i1z66_ 1 1 1 8 b71_ (by decide) (by decide) (by decide) (by decide) (by decide)
          refine pw_blk hT 2 (S' := (18, [some (pvR 0), some (pvI (i1z66_ + 1))], [], M10_)) rfl ⟨trivial, trivial, trivial⟩ ?_
          have j81_ : yki M10_ 12 112 120 (M10_.1 104 0) (i1z66_ + 1) := (yki_s j0z66_ (by have u := b71_; omega) (by omega) (by omega) c76_)
          exact ihz66_ (i1z66_ + 1) (zr_wide b79_ (by decide) (by decide)) j81_ (zhid (pvms_up (zshow hmz66_) h1z66_ q80_ (by decide) (by decide)))
        · have b82_ : 1 ≤ Int32.toInt (M10_.1 12 (Int32.toNatClampNeg (M10_.1 112 (Int32.toNatClampNeg i1z66_)))) ∧ Int32.toInt (M10_.1 12 (Int32.toNatClampNeg (M10_.1 112 (Int32.toNatClampNeg i1z66_)))) ≤ 1000000 := zr_nle_l 1 c76_ b74_ b75_ (by decide)
          have d83_ : Int32.toInt (M10_.1 12 (Int32.toNatClampNeg (M10_.1 112 (Int32.toNatClampNeg i1z66_)))) > Int32.toInt (M10_.1 120 (Int32.toNatClampNeg i1z66_)) := Int.not_le.mp ((not_congr (zi_le _ _)).mp c76_)
          refine pw_blk hT 1 (S' := (68, [some (pvR 0), some (pvI i1z66_)], [pvI i1z66_], M10_)) rfl ⟨trivial, trivial⟩ ?_
          exact pw_ret hT rfl (r := some (pvI i1z66_)) (M' := M10_) ⟨rfl, rfl⟩ ⟨⟨_, rfl, (zr_wide b71_ (by decide) (by decide))⟩, o12_, f14_, ⟨(congrArg (fun z => some (pvI z)) (yki_y j0z66_ (by have u := b71_; omega) (by omega) c76_)), _, _, d1_, d8_⟩, (yWK_t o5_ (yWK_B d1_) (yWK_fr (L := fpL_eX1_goRound_5_x) g13_ (by decide +kernel)))⟩
  have u84_ : Int32.toInt 0 = 0 := by decide
  have j85_ : yki M10_ 12 112 120 (M10_.1 104 0) 0 := (yki_0 M10_ 12 112 120 _)
  exact hlz66_ _ 0 (zr_wide (show 0 ≤ Int32.toInt 0 ∧ Int32.toInt 0 ≤ 0 from (by decide)) (by decide) (by decide)) j85_ (zhid (Nat.lt_succ_self _))
set_option maxHeartbeats 4000000 in
set_option maxRecDepth 10000 in
theorem se_X9_greatestShared_x_x (M : pvM) (hok : pvOk M) (n0 : Int32) (n1 : Int32) (hn1 : 1 ≤ Int32.toInt n1 ∧ Int32.toInt n1 ≤ 10) (d : Nat) : PW 176 d (0, [some (pvI n0), some (pvI n1), none], [], M) (fun r X => (∃ x : Int32, r = some (pvI x) ∧ (1 ≤ Int32.toInt x ∧ Int32.toInt x ≤ 10) ∧ yGc n0 n1 x) ∧ X = M) := by
  have hT : pvdom 176 = pvD_176 := rfl
  have q1_ : Int32.toInt (if n0 < 0 then 0 else n0) = max (Int32.toInt n0) (Int32.toInt 0) := pvmax n0 0
  have b2_ : 0 ≤ Int32.toInt (if n0 < 0 then 0 else n0) ∧ Int32.toInt (if n0 < 0 then 0 else n0) ≤ 2147483647 := (by have u0 := (zbnd n0); have u1 := (show 0 ≤ Int32.toInt 0 ∧ Int32.toInt 0 ≤ 0 from (by decide)); omega)
  have q3_ : Int32.toInt (if n1 < (if n0 < 0 then 0 else n0) then n1 else (if n0 < 0 then 0 else n0)) = min (Int32.toInt (if n0 < 0 then 0 else n0)) (Int32.toInt n1) := pvmin (if n0 < 0 then 0 else n0) n1
  have b4_ : 0 ≤ Int32.toInt (if n1 < (if n0 < 0 then 0 else n0) then n1 else (if n0 < 0 then 0 else n0)) ∧ Int32.toInt (if n1 < (if n0 < 0 then 0 else n0) then n1 else (if n0 < 0 then 0 else n0)) ≤ 10 := (by have u0 := b2_; have u1 := hn1; omega)
  refine pw_blk hT 6 (S' := (10, [some (pvI n0), some (pvI n1), some (pvI (if n1 < (if n0 < 0 then 0 else n0) then n1 else (if n0 < 0 then 0 else n0)))], [], M)) rfl ⟨trivial, trivial, (Nat.le_of_ble_eq_true rfl), trivial, (Nat.le_of_ble_eq_true rfl), trivial, trivial⟩ ?_
  have hlz24_ : ∀ (nz24_ : Nat) (i2z24_ : Int32), (0 ≤ Int32.toInt i2z24_ ∧ Int32.toInt i2z24_ ≤ 10) → (yGs n0 n1 i2z24_) → (zhide ((Int32.toInt i2z24_).toNat < nz24_)) → PW 176 d (10, [some (pvI n0), some (pvI n1), some (pvI i2z24_)], [], M) (fun r X => (∃ x : Int32, r = some (pvI x) ∧ (1 ≤ Int32.toInt x ∧ Int32.toInt x ≤ 10) ∧ yGc n0 n1 x) ∧ X = M) := by
    intro nz24_
    induction nz24_ with
    | zero => intro i2z24_ h2z24_ j0z24_ hmz24_; exact absurd (zshow hmz24_) (Nat.not_lt_zero _)
    | succ nz24_ ihz24_ =>
      intro i2z24_ h2z24_ j0z24_ hmz24_
      refine pw_blk hT 2 (S' := (12, [some (pvI n0), some (pvI n1), some (pvI i2z24_)], [pvI 1, pvI i2z24_], M)) rfl ⟨trivial, trivial, trivial⟩ ?_
      refine pw_ic hT (c := i2z24_ ≤ 1) rfl rfl (fun c25_ => ?_) (fun c25_ => ?_)
      · have b26_ : 0 ≤ Int32.toInt i2z24_ ∧ Int32.toInt i2z24_ ≤ 1 := zr_le_l 1 c25_ h2z24_ (show 1 ≤ Int32.toInt 1 ∧ Int32.toInt 1 ≤ 1 from (by decide)) (by decide)
        refine pw_blk hT 1 (S' := (36, [some (pvI n0), some (pvI n1), some (pvI i2z24_)], [pvI n0], M)) rfl ⟨trivial, trivial⟩ ?_
        refine pw_ifn hT (c := n0 = 0) rfl rfl (fun c27_ => ?_) (fun c27_ => ?_)
        · refine pw_blk hT 1 (S' := (48, [some (pvI n0), some (pvI n1), some (pvI i2z24_)], [pvI 1], M)) rfl ⟨trivial, trivial⟩ ?_
          exact pw_ret hT rfl (r := some (pvI 1)) (M' := M) ⟨rfl, rfl⟩ ⟨⟨_, rfl, (zr_wide (show 1 ≤ Int32.toInt 1 ∧ Int32.toInt 1 ≤ 1 from (by decide)) (by decide) (by decide)), (yGc_1 j0z24_ hn1.1 (by have u := b26_; omega) c27_ (by decide))⟩, rfl⟩
        · have b28_ : 0 ≤ Int32.toInt n0 ∧ Int32.toInt n0 ≤ 0 := (by have u0 := (zbnd n0); have u1 := (zi_eq _ _).mp c27_; have u2 := (show 0 ≤ Int32.toInt 0 ∧ Int32.toInt 0 ≤ 0 from (by decide)); omega)
          have q29_ : Int32.toInt (if n1 < 1 then 1 else n1) = max (Int32.toInt n1) (Int32.toInt 1) := pvmax n1 1
          have b30_ : 1 ≤ Int32.toInt (if n1 < 1 then 1 else n1) ∧ Int32.toInt (if n1 < 1 then 1 else n1) ≤ 10 := (by have u0 := hn1; have u1 := (show 1 ≤ Int32.toInt 1 ∧ Int32.toInt 1 ≤ 1 from (by decide)); omega)
          refine pw_blk hT 4 (S' := (48, [some (pvI n0), some (pvI n1), some (pvI i2z24_)], [pvI (if n1 < 1 then 1 else n1)], M)) rfl ⟨trivial, trivial, (Nat.le_of_ble_eq_true rfl), trivial, trivial⟩ ?_
          exact pw_ret hT rfl (r := some (pvI (if n1 < 1 then 1 else n1))) (M' := M) ⟨rfl, rfl⟩ ⟨⟨_, rfl, b30_, (yGc_0 c27_ (if_neg (by rw [zi_lt]; have z : Int32.toInt 1 = 1 := (by decide); omega)))⟩, rfl⟩
      · have b31_ : 2 ≤ Int32.toInt i2z24_ ∧ Int32.toInt i2z24_ ≤ 10 := zr_nle_l 2 c25_ h2z24_ (show 1 ≤ Int32.toInt 1 ∧ Int32.toInt 1 ≤ 1 from (by decide)) (by decide)
        refine pw_blk hT 3 (S' := (18, [some (pvI n0), some (pvI n1), some (pvI i2z24_)], [pvI (n0 - n0 / i2z24_ * i2z24_)], M)) rfl ⟨trivial, trivial, (fun z0 => by have u0 := b31_; have u1 := (zi_eq i2z24_ 0).mp z0; have u2 : (0 : Int32).toInt = 0 := (by decide); omega), trivial⟩ ?_
        refine pw_ifn hT (c := (n0 - n0 / i2z24_ * i2z24_) = 0) rfl rfl (fun c32_ => ?_) (fun c32_ => ?_)
        · obtain ⟨q34_, b33_⟩ : (Int32.toInt (i2z24_ + (-1)) = Int32.toInt i2z24_ + (-1)) ∧ (1 ≤ Int32.toInt (i2z24_ + (-1)) ∧ Int32.toInt (i2z24_ + (-1)) ≤ 9) := zadd_k i2z24_ (-1) (-1) 1 9 b31_ (by decide) (by decide) (by decide) (by decide) (by decide)
          refine pw_blk hT 2 (S' := (10, [some (pvI n0), some (pvI n1), some (pvI (i2z24_ + (-1)))], [], M)) rfl ⟨trivial, trivial, trivial⟩ ?_
          have j35_ : yGs n0 n1 (i2z24_ + (-1)) := (yGs_s j0z24_ hn1.1 (by have u := b31_; omega) (by omega) (Or.inl c32_))
          exact ihz24_ (i2z24_ + (-1)) (zr_wide b33_ (by decide) (by decide)) j35_ (zhid (by have hm0 := zshow hmz24_; omega))
        · have b36_ : 0 ≤ Int32.toInt (n0 - n0 / i2z24_ * i2z24_) ∧ Int32.toInt (n0 - n0 / i2z24_ * i2z24_) ≤ 0 := (by have u0 := (zbnd (n0 - n0 / i2z24_ * i2z24_)); have u1 := (zi_eq _ _).mp c32_; have u2 := (show 0 ≤ Int32.toInt 0 ∧ Int32.toInt 0 ≤ 0 from (by decide)); omega)
          have q37_ : 0 ≤ Int32.toInt (n1 - n1 / i2z24_ * i2z24_) ∧ Int32.toInt (n1 - n1 / i2z24_ * i2z24_) < Int32.toInt i2z24_ := pvrem n1 i2z24_ (by have u0 := hn1; omega) (by have u0 := b31_; omega)
          have b38_ : 0 ≤ Int32.toInt (n1 - n1 / i2z24_ * i2z24_) ∧ Int32.toInt (n1 - n1 / i2z24_ * i2z24_) ≤ 9 := (by have u0 := q37_; have u1 := b31_; omega)
          refine pw_blk hT 3 (S' := (24, [some (pvI n0), some (pvI n1), some (pvI i2z24_)], [pvI (n1 - n1 / i2z24_ * i2z24_)], M)) rfl ⟨trivial, trivial, (fun z0 => by have u0 := b31_; have u1 := (zi_eq i2z24_ 0).mp z0; have u2 : (0 : Int32).toInt = 0 := (by decide); omega), trivial⟩ ?_
          refine pw_ifn hT (c := (n1 - n1 / i2z24_ * i2z24_) = 0) rfl rfl (fun c39_ => ?_) (fun c39_ => ?_)
          · have b40_ : 1 ≤ Int32.toInt (n1 - n1 / i2z24_ * i2z24_) ∧ Int32.toInt (n1 - n1 / i2z24_ * i2z24_) ≤ 9 := (by have u0 := b38_; have u1 := (not_congr (zi_eq _ _)).mp c39_; have u2 := (show 0 ≤ Int32.toInt 0 ∧ Int32.toInt 0 ≤ 0 from (by decide)); omega)
            obtain ⟨q42_, b41_⟩ : (Int32.toInt (i2z24_ + (-1)) = Int32.toInt i2z24_ + (-1)) ∧ (1 ≤ Int32.toInt (i2z24_ + (-1)) ∧ Int32.toInt (i2z24_ + (-1)) ≤ 9) := zadd_k i2z24_ (-1) (-1) 1 9 b31_ (by decide) (by decide) (by decide) (by decide) (by decide)
            refine pw_blk hT 2 (S' := (10, [some (pvI n0), some (pvI n1), some (pvI (i2z24_ + (-1)))], [], M)) rfl ⟨trivial, trivial, trivial⟩ ?_
            have j43_ : yGs n0 n1 (i2z24_ + (-1)) := (yGs_s j0z24_ hn1.1 (by have u := b31_; omega) (by omega) (Or.inr c39_))
            exact ihz24_ (i2z24_ + (-1)) (zr_wide b41_ (by decide) (by decide)) j43_ (zhid (by have hm0 := zshow hmz24_; omega))
          · have b44_ : 0 ≤ Int32.toInt (n1 - n1 / i2z24_ * i2z24_) ∧ Int32.toInt (n1 - n1 / i2z24_ * i2z24_) ≤ 0 := (by have u0 := b38_; have u1 := (zi_eq _ _).mp c39_; have u2 := (show 0 ≤ Int32.toInt 0 ∧ Int32.toInt 0 ≤ 0 from (by decide)); omega)
            refine pw_blk hT 1 (S' := (28, [some (pvI n0), some (pvI n1), some (pvI i2z24_)], [pvI i2z24_], M)) rfl ⟨trivial, trivial⟩ ?_
            exact pw_ret hT rfl (r := some (pvI i2z24_)) (M' := M) ⟨rfl, rfl⟩ ⟨⟨_, rfl, (zr_wide b31_ (by decide) (by decide)), (yGc_i j0z24_ hn1.1 (by have u := b31_; omega) c32_ c39_)⟩, rfl⟩
  have j45_ : yGs n0 n1 (if n1 < (if n0 < 0 then 0 else n0) then n1 else (if n0 < 0 then 0 else n0)) := (yGs_0 hn1.1 (by have z : Int32.toInt 0 = 0 := (by decide); omega))
  exact hlz24_ _ (if n1 < (if n0 < 0 then 0 else n0) then n1 else (if n0 < 0 then 0 else n0)) b4_ j45_ (zhid (Nat.lt_succ_self _))
set_option maxHeartbeats 4000000 in
set_option maxRecDepth 10000 in
theorem se_X9_partOf_x_x_x (M : pvM) (hok : pvOk M) (n0 : Int32) (n1 : Int32) (n2 : Int32) (hn1 : 1 ≤ Int32.toInt n1 ∧ Int32.toInt n1 ≤ 10) (d : Nat) : PW 191 d (0, [some (pvI n0), some (pvI n1), some (pvI n2), none], [], M) (fun r X => (∃ x : Int64, r = some (pvJ x) ∧ yPo n0 n1 n2 x) ∧ X = M) := by
  have hT : pvdom 191 = pvD_191 := rfl
  refine pw_blk hT 2 (S' := (2, [some (pvI n0), some (pvI n1), some (pvI n2), none], [pvI n1, pvI n0], M)) rfl ⟨trivial, trivial, trivial⟩ ?_
  refine pw_callGp hT (as := [pvI n0, pvI n1]) (lo1 := [some (pvI n0), some (pvI n1), none]) (d1 := d) (rest := []) rfl rfl rfl rfl rfl (fun h => absurd h (by decide)) (Nat.zero_le _) rfl rfl rfl (se_X9_greatestShared_x_x M hok n0 n1 hn1 d) (fun x1_ b3_ => ?_)
  obtain ⟨b6_, d7_⟩ := b3_
  refine pw_blk hT 2 (S' := (7, [some (pvI n0), some (pvI n1), some (pvI n2), some (pvI x1_)], [pvI n2], M)) rfl ⟨trivial, trivial, trivial⟩ ?_
  refine pw_ifn hT (c := n2 = 0) rfl rfl (fun c8_ => ?_) (fun c8_ => ?_)
  · refine pw_blk hT 4 (S' := (21, [some (pvI n0), some (pvI n1), some (pvI n2), some (pvI x1_)], [pvJ (Int32.toInt64 (n1 / x1_))], M)) rfl ⟨trivial, trivial, (fun z0 => by have u0 := b6_; have u1 := (zi_eq x1_ 0).mp z0; have u2 : (0 : Int32).toInt = 0 := (by decide); omega), trivial, trivial⟩ ?_
    exact pw_ret hT rfl (r := some (pvJ (Int32.toInt64 (n1 / x1_)))) (M' := M) ⟨rfl, rfl⟩ ⟨⟨_, rfl, (yPo_i (by have u := b6_; omega) d7_ hn1.1 (Or.inr ⟨c8_, rfl⟩) rfl)⟩, rfl⟩
  · have b9_ : 0 ≤ Int32.toInt n2 ∧ Int32.toInt n2 ≤ 0 := (by have u0 := (zbnd n2); have u1 := (zi_eq _ _).mp c8_; have u2 := (show 0 ≤ Int32.toInt 0 ∧ Int32.toInt 0 ≤ 0 from (by decide)); omega)
    refine pw_blk hT 5 (S' := (21, [some (pvI n0), some (pvI n1), some (pvI n2), some (pvI x1_)], [pvJ (Int32.toInt64 (n0 / x1_))], M)) rfl ⟨trivial, trivial, (fun z0 => by have u0 := b6_; have u1 := (zi_eq x1_ 0).mp z0; have u2 : (0 : Int32).toInt = 0 := (by decide); omega), trivial, trivial, trivial⟩ ?_
    exact pw_ret hT rfl (r := some (pvJ (Int32.toInt64 (n0 / x1_)))) (M' := M) ⟨rfl, rfl⟩ ⟨⟨_, rfl, (yPo_i (by have u := b6_; omega) d7_ hn1.1 (Or.inl ⟨c8_, rfl⟩) rfl)⟩, rfl⟩
def fpL_eX9_mean_0_x : List (Nat × Nat × Nat) := [(0, 12, 0), (0, 13, 0), (0, 14, 0), (0, 5, 2), (0, 5, 3), (1, 112, 0)]
def fp_eX9_mean_0_x (q k : Nat) : Bool := pvfp fpL_eX9_mean_0_x q k
theorem fp_eX9_mean_0_x_fp_eX1_beginFromNow_5 (a b : Nat) (h : fp_eX1_beginFromNow_5 a b = true) : fp_eX9_mean_0_x a b = true := pvfp_sub (l1 := fpL_eX1_beginFromNow_5) (l2 := fpL_eX9_mean_0_x) (by decide) a b h
theorem fp_eX9_mean_0_x_fp_eX1_goRound_5_x (a b : Nat) (h : fp_eX1_goRound_5_x a b = true) : fp_eX9_mean_0_x a b = true := pvfp_sub (l1 := fpL_eX1_goRound_5_x) (l2 := fpL_eX9_mean_0_x) (by decide) a b h
set_option maxHeartbeats 4000000 in
set_option maxRecDepth 10000 in
theorem se_X9_mean_0_x (M : pvM) (hok : pvOk M) (n1 : Int32) (d : Nat) : PW 186 d (0, [some (pvR 0), some (pvI n1), none, none], [], M) (fun r X => (∃ x : Int64, r = some (pvJ x)) ∧ pvOk X ∧ pvFr fp_eX9_mean_0_x M X ∧ yAj (yGme n1) r M X) := by
  have hT : pvdom 186 = pvD_186 := rfl
  refine pw_blk hT 3 (S' := (3, [some (pvR 0), some (pvI n1), none, none], [pvI 1, pvI 0, pvI n1], M)) rfl ⟨trivial, trivial, trivial, trivial⟩ ?_
  refine pw_callT hT (as := [pvI n1, pvI 0, pvI 1]) (lo1 := [some (pvI n1), some (pvI 0), some (pvI 1)]) (d1 := d) (rest := []) rfl rfl rfl rfl rfl (fun h => absurd h (by decide)) (Nat.zero_le _) rfl rfl rfl (sf_X9_within_x_x_x M hok n1 0 1 d) ?_
  by_cases c6_ : n1 < 0
  · refine pw_eqI (if_pos c6_) ?_
    have b7_ : (-2147483648) ≤ Int32.toInt n1 ∧ Int32.toInt n1 ≤ (-1) := zr_lt_l (-1) c6_ (zbnd n1) (show 0 ≤ Int32.toInt 0 ∧ Int32.toInt 0 ≤ 0 from (by decide)) (by decide)
    show PW 186 d (6, [some (pvR 0), some (pvI n1), none, none], [pvI 0], M) _
    refine pw_ifn hT (c := 0 = 0) rfl rfl (fun c8_ => absurd (by decide) c8_) (fun c8_ => ?_)
    refine pw_blk hT 1 (S' := (12, [some (pvR 0), some (pvI n1), none, none], [pvJ (-9223372036854775808)], M)) rfl ⟨trivial, trivial⟩ ?_
    exact pw_ret hT rfl (r := some (pvJ (-9223372036854775808))) (M' := M) ⟨rfl, rfl⟩ ⟨⟨_, rfl⟩, hok, pvfr_0, (yGme_n (by have u := b7_; omega) (by decide))⟩
  · refine pw_eqI (if_neg c6_) ?_
    have b9_ : 0 ≤ Int32.toInt n1 ∧ Int32.toInt n1 ≤ 2147483647 := zr_nlt_l 0 c6_ (zbnd n1) (show 0 ≤ Int32.toInt 0 ∧ Int32.toInt 0 ≤ 0 from (by decide)) (by decide)
    by_cases c10_ : 1 < n1
    · refine pw_eqI (if_pos c10_) ?_
      have b11_ : 2 ≤ Int32.toInt n1 ∧ Int32.toInt n1 ≤ 2147483647 := zr_lt_r 2 c10_ b9_ (show 1 ≤ Int32.toInt 1 ∧ Int32.toInt 1 ≤ 1 from (by decide)) (by decide)
      show PW 186 d (6, [some (pvR 0), some (pvI n1), none, none], [pvI 0], M) _
      refine pw_ifn hT (c := 0 = 0) rfl rfl (fun c12_ => absurd (by decide) c12_) (fun c12_ => ?_)
      refine pw_blk hT 1 (S' := (12, [some (pvR 0), some (pvI n1), none, none], [pvJ (-9223372036854775808)], M)) rfl ⟨trivial, trivial⟩ ?_
      exact pw_ret hT rfl (r := some (pvJ (-9223372036854775808))) (M' := M) ⟨rfl, rfl⟩ ⟨⟨_, rfl⟩, hok, pvfr_0, (yGme_n (by have u := b11_; omega) (by decide))⟩
    · refine pw_eqI (if_neg c10_) ?_
      have b13_ : 0 ≤ Int32.toInt n1 ∧ Int32.toInt n1 ≤ 1 := zr_nlt_r 1 c10_ b9_ (show 1 ≤ Int32.toInt 1 ∧ Int32.toInt 1 ≤ 1 from (by decide)) (by decide)
      show PW 186 d (6, [some (pvR 0), some (pvI n1), none, none], [pvI 1], M) _
      refine pw_ifn hT (c := 1 = 0) rfl rfl (fun c14_ => ?_) (fun c14_ => absurd c14_ (by decide))
      refine pw_blk hT 2 (S' := (17, [some (pvR 0), some (pvI n1), none, none], [pvR 5], M)) rfl ⟨trivial, rfl, trivial⟩ ?_
      refine pw_callVd hT (as := [pvR 5]) (lo1 := [some (pvR 5)]) (d1 := d) (rest := []) rfl rfl rfl rfl rfl (fun _ => rfl) (Nat.zero_le _) rfl rfl rfl (se_X1_beginFromNow_5 M hok d) (fun M17_ o19_ g20_ d15_ => ?_)
      have f21_ : pvFr fp_eX9_mean_0_x M M17_ := pvfr_t g20_ pvfr_0 fp_eX9_mean_0_x_fp_eX1_beginFromNow_5
      refine pw_blk hT 3 (S' := (25, [some (pvR 0), some (pvI n1), none, none], [pvI 0, pvR 5], M17_)) rfl ⟨trivial, rfl, trivial, trivial⟩ ?_
      refine pw_callGd hT (as := [pvR 5, pvI 0]) (lo1 := [some (pvR 5), some (pvI 0)]) (d1 := d) (rest := []) rfl rfl rfl rfl rfl (fun _ => rfl) (Nat.zero_le _) rfl rfl rfl (se_X1_goRound_5_x M17_ o19_ 0 (zr_wide (show 0 ≤ Int32.toInt 0 ∧ Int32.toInt 0 ≤ 0 from (by decide)) (by decide) (by decide)) d) (fun x23_ M24_ b25_ o26_ g27_ d22_ => ?_)
      have f28_ : pvFr fp_eX9_mean_0_x M M24_ := pvfr_t g27_ f21_ fp_eX9_mean_0_x_fp_eX1_goRound_5_x
      refine pw_blk hT 5 (S' := (33, [some (pvR 0), some (pvI n1), some (pvI 0), some (pvI 0)], [], M24_)) rfl ⟨trivial, trivial, trivial, trivial, trivial, trivial⟩ ?_
      have hlz124_ : ∀ (nz124_ : Nat) (i2z124_ : Int32) (i3z124_ : Int32) (Mz124_ : pvM), (pvOk Mz124_) → (pvFr fp_eX9_mean_0_x M Mz124_) → (0 ≤ Int32.toInt i3z124_ ∧ Int32.toInt i3z124_ ≤ 10) → (yMeI M Mz124_ i2z124_ i3z124_) → (zhide ((11 - Int32.toInt i3z124_).toNat < nz124_)) → PW 186 d (33, [some (pvR 0), some (pvI n1), some (pvI i2z124_), some (pvI i3z124_)], [], Mz124_) (fun r X => (∃ x : Int64, r = some (pvJ x)) ∧ pvOk X ∧ pvFr fp_eX9_mean_0_x M X ∧ yAj (yGme n1) r M X) := by
        intro nz124_
        induction nz124_ with
        | zero => intro i2z124_ i3z124_ Mz124_ oz124_ fz124_ h3z124_ j0z124_ hmz124_; exact absurd (zshow hmz124_) (Nat.not_lt_zero _)
        | succ nz124_ ihz124_ =>
          intro i2z124_ i3z124_ Mz124_ oz124_ fz124_ h3z124_ j0z124_ hmz124_
          refine pw_blk hT 2 (S' := (36, [some (pvR 0), some (pvI n1), some (pvI i2z124_), some (pvI i3z124_)], [pvI 10, pvI i3z124_], Mz124_)) rfl ⟨trivial, trivial, trivial⟩ ?_
          refine pw_ic hT (c := 10 ≤ i3z124_) rfl rfl (fun c125_ => ?_) (fun c125_ => ?_)
          · have b126_ : 10 ≤ Int32.toInt i3z124_ ∧ Int32.toInt i3z124_ ≤ 10 := zr_le_r 10 c125_ h3z124_ (show 10 ≤ Int32.toInt 10 ∧ Int32.toInt 10 ≤ 10 from (by decide)) (by decide)
            refine pw_blk hT 3 (S' := (75, [some (pvR 0), some (pvI n1), some (pvI i2z124_), some (pvI i3z124_)], [pvI n1, pvI 10, pvI i2z124_], Mz124_)) rfl ⟨trivial, trivial, trivial, trivial⟩ ?_
            refine pw_callJx hT (as := [pvI i2z124_, pvI 10, pvI n1]) (lo1 := [some (pvI i2z124_), some (pvI 10), some (pvI n1), none]) (d1 := d) (rest := []) rfl rfl rfl rfl rfl (fun h => absurd h (by decide)) (Nat.zero_le _) rfl rfl rfl (se_X9_partOf_x_x_x Mz124_ oz124_ i2z124_ 10 n1 (zr_wide (show 10 ≤ Int32.toInt 10 ∧ Int32.toInt 10 ≤ 10 from (by decide)) (by decide) (by decide)) d) (fun x127_ b129_ => ?_)
            exact pw_ret hT rfl (r := some (pvJ x127_)) (M' := Mz124_) ⟨rfl, rfl⟩ ⟨⟨_, rfl⟩, oz124_, fz124_, (yGme_e hok j0z124_ (by have u := b126_; omega) (by decide) (by have u := b13_; omega) b129_)⟩
          · have b132_ : 0 ≤ Int32.toInt i3z124_ ∧ Int32.toInt i3z124_ ≤ 9 := zr_nle_r 9 c125_ h3z124_ (show 10 ≤ Int32.toInt 10 ∧ Int32.toInt 10 ≤ 10 from (by decide)) (by decide)
            have b133_ : 0 ≤ Int32.toInt (Mz124_.1 8 2) ∧ Int32.toInt (Mz124_.1 8 2) ≤ 99 := pvok_r oz124_ 8 2 rfl
            obtain ⟨q135_, b134_⟩ : (Int32.toInt ((Mz124_.1 8 2) + i3z124_) = Int32.toInt (Mz124_.1 8 2) + Int32.toInt i3z124_) ∧ (0 ≤ Int32.toInt ((Mz124_.1 8 2) + i3z124_) ∧ Int32.toInt ((Mz124_.1 8 2) + i3z124_) ≤ 108) := zadd_r (Mz124_.1 8 2) i3z124_ 0 108 b133_ b132_ (by decide) (by decide) (by decide) (by decide)
            refine pw_blkw hT 8 (pc := 55) (lo := [some (pvR 0), some (pvI n1), some (pvI i2z124_), some (pvI i3z124_)]) (st := []) (M := pvu Mz124_ 5 2 ((Mz124_.1 8 2) + i3z124_)) rfl ⟨trivial, rfl, trivial, rfl, rfl, trivial, trivial, rfl, trivial⟩ (fun M136_ e137_ => ?_)
            have o138_ : pvOk M136_ := pvok_u2 e137_ oz124_ rfl b134_
            have f139_ : pvFr fp_eX9_mean_0_x M M136_ := pvfr_u e137_ fz124_ rfl
            refine pw_blk hT 3 (S' := (60, [some (pvR 0), some (pvI n1), some (pvI i2z124_), some (pvI i3z124_)], [pvR 5, pvI i2z124_], M136_)) rfl ⟨trivial, trivial, rfl, trivial⟩ ?_
            refine pw_callGp hT (as := [pvR 5]) (lo1 := [some (pvR 5)]) (d1 := d) (rest := [pvI i2z124_]) rfl rfl rfl rfl rfl (fun _ => rfl) (Nat.zero_le _) rfl rfl rfl (se_X1_cost_5 M136_ o138_ d) (fun x140_ b142_ => ?_)
            obtain ⟨b145_, d146_⟩ := b142_
            obtain ⟨q148_, b147_⟩ : (Int32.toInt (i3z124_ + 1) = Int32.toInt i3z124_ + 1) ∧ (1 ≤ Int32.toInt (i3z124_ + 1) ∧ Int32.toInt (i3z124_ + 1) ≤ 10) := zadd_k i3z124_ 1 1 1 10 b132_ (by decide) (by decide) (by decide) (by decide) (by decide)
            refine pw_blk hT 4 (S' := (33, [some (pvR 0), some (pvI n1), some (pvI (i2z124_ + x140_)), some (pvI (i3z124_ + 1))], [], M136_)) rfl ⟨trivial, trivial, trivial, trivial, trivial⟩ ?_
            have j149_ : yMeI M M136_ (i2z124_ + x140_) (i3z124_ + 1) := (yMeI_s hok oz124_ o138_ j0z124_ e137_ (by have u := b132_; omega) rfl d146_ (by omega))
            exact ihz124_ (i2z124_ + x140_) (i3z124_ + 1) M136_ o138_ f139_ (zr_wide b147_ (by decide) (by decide)) j149_ (zhid (pvms_up (zshow hmz124_) h3z124_ q148_ (by decide) (by decide)))
      have u150_ : Int32.toInt 0 = 0 := by decide
      have j151_ : yMeI M M24_ 0 0 := (yMeI_0 (yRn9_i hok o19_ d15_ d22_) (by decide) (by decide))
      exact hlz124_ _ 0 0 M24_ o26_ f28_ (zr_wide (show 0 ≤ Int32.toInt 0 ∧ Int32.toInt 0 ≤ 0 from (by decide)) (by decide) (by decide)) j151_ (zhid (Nat.lt_succ_self _))
def fpL_eX1_costOfOne_5_x : List (Nat × Nat × Nat) := [(0, 106, 1), (0, 114, 0), (0, 12, 0), (0, 122, 0)]
def fp_eX1_costOfOne_5_x (q k : Nat) : Bool := pvfp fpL_eX1_costOfOne_5_x q k
theorem fp_eX1_costOfOne_5_x_fp_eX1_costOfTried_5 (a b : Nat) (h : fp_eX1_costOfTried_5 a b = true) : fp_eX1_costOfOne_5_x a b = true := pvfp_sub (l1 := fpL_eX1_costOfTried_5) (l2 := fpL_eX1_costOfOne_5_x) (by decide) a b h
theorem fp_eX1_costOfOne_5_x_fp_eX6_append_106_x_x (a b : Nat) (h : fp_eX6_append_106_x_x a b = true) : fp_eX1_costOfOne_5_x a b = true := pvfp_sub (l1 := fpL_eX6_append_106_x_x) (l2 := fpL_eX1_costOfOne_5_x) (by decide) a b h
theorem fp_eX1_costOfOne_5_x_fp_eX6_clear_106 (a b : Nat) (h : fp_eX6_clear_106 a b = true) : fp_eX1_costOfOne_5_x a b = true := pvfp_sub (l1 := fpL_eX6_clear_106) (l2 := fpL_eX1_costOfOne_5_x) (by decide) a b h
set_option maxHeartbeats 4000000 in
set_option maxRecDepth 10000 in
theorem se_X1_costOfOne_5_x (M : pvM) (hok : pvOk M) (n1 : Int32) (hn1 : 0 ≤ Int32.toInt n1 ∧ Int32.toInt n1 ≤ 6) (d : Nat) : PW 104 d (0, [some (pvR 5), some (pvI n1)], [], M) (fun r X => (∃ x : Int32, r = some (pvI x) ∧ True) ∧ pvOk X ∧ pvFr fp_eX1_costOfOne_5_x M X ∧ yRt M X (fun _ => Int32.toNatClampNeg n1) (Int32.toInt (M.1 8 4)) 1 r) := by
  have hT : pvdom 104 = pvD_104 := rfl
  refine pw_blk hT 2 (S' := (4, [some (pvR 5), some (pvI n1)], [pvR 106], M)) rfl ⟨trivial, rfl, trivial⟩ ?_
  refine pw_callGd hT (as := [pvR 106]) (lo1 := [some (pvR 106)]) (d1 := d) (rest := []) rfl rfl rfl rfl rfl (fun _ => rfl) (Nat.zero_le _) rfl rfl rfl (se_X6_clear_106 M hok d) (fun x2_ M3_ b4_ o5_ g6_ d1_ => ?_)
  have f7_ : pvFr fp_eX1_costOfOne_5_x M M3_ := pvfr_t g6_ pvfr_0 fp_eX1_costOfOne_5_x_fp_eX6_clear_106
  obtain ⟨b8_, d9_⟩ := b4_
  subst d9_
  refine pw_blk hT 5 (S' := (14, [some (pvR 5), some (pvI n1)], [pvI 0, pvI n1, pvR 106], M3_)) rfl ⟨trivial, trivial, rfl, trivial, trivial, trivial⟩ ?_
  refine pw_callGd hT (as := [pvR 106, pvI n1, pvI 0]) (lo1 := [some (pvR 106), some (pvI n1), some (pvI 0)]) (d1 := d) (rest := []) rfl rfl rfl rfl rfl (fun _ => rfl) (Nat.zero_le _) rfl rfl rfl (se_X6_append_106_x_x M3_ o5_ n1 0 hn1 (zr_wide (show 0 ≤ Int32.toInt 0 ∧ Int32.toInt 0 ≤ 0 from (by decide)) (by decide) (by decide)) d) (fun x11_ M12_ b13_ o14_ g15_ d10_ => ?_)
  have f16_ : pvFr fp_eX1_costOfOne_5_x M M12_ := pvfr_t g15_ f7_ fp_eX1_costOfOne_5_x_fp_eX6_append_106_x_x
  have u17_ : Int32.toInt 0 = 0 := by decide
  obtain ⟨b18_, d19_⟩ := b13_
  subst d19_
  refine pw_blk hT 2 (S' := (19, [some (pvR 5), some (pvI n1)], [pvR 5], M12_)) rfl ⟨trivial, trivial, trivial⟩ ?_
  refine pw_callGd hT (as := [pvR 5]) (lo1 := [some (pvR 5)]) (d1 := d) (rest := []) rfl rfl rfl rfl rfl (fun _ => rfl) (Nat.zero_le _) rfl rfl rfl (se_X1_costOfTried_5 M12_ o14_ d) (fun x21_ M22_ b23_ o24_ g25_ d20_ => ?_)
  have f26_ : pvFr fp_eX1_costOfOne_5_x M M22_ := pvfr_t g25_ f16_ fp_eX1_costOfOne_5_x_fp_eX1_costOfTried_5
  exact pw_ret hT rfl (r := some (pvI x21_)) (M' := M22_) ⟨rfl, rfl⟩ ⟨⟨_, rfl, trivial⟩, o24_, f26_, (yRt_1 hok hn1 (yKt_fr (L := fpL_eX6_clear_106) g6_ (by decide +kernel)) (yKt_fr (L := fpL_eX6_append_106_x_x) g15_ (by decide +kernel)) d1_ d10_.1 d10_.2 d20_)⟩
def fpL_eX9_next_0 : List (Nat × Nat × Nat) := [(0, 106, 1), (0, 114, 0), (0, 12, 0), (0, 122, 0), (0, 13, 0), (0, 14, 0), (0, 5, 2), (0, 5, 3), (1, 112, 0)]
def fp_eX9_next_0 (q k : Nat) : Bool := pvfp fpL_eX9_next_0 q k
theorem fp_eX9_next_0_fp_eX1_beginFromNow_5 (a b : Nat) (h : fp_eX1_beginFromNow_5 a b = true) : fp_eX9_next_0 a b = true := pvfp_sub (l1 := fpL_eX1_beginFromNow_5) (l2 := fpL_eX9_next_0) (by decide) a b h
theorem fp_eX9_next_0_fp_eX1_costOfOne_5_x (a b : Nat) (h : fp_eX1_costOfOne_5_x a b = true) : fp_eX9_next_0 a b = true := pvfp_sub (l1 := fpL_eX1_costOfOne_5_x) (l2 := fpL_eX9_next_0) (by decide) a b h
set_option maxHeartbeats 4000000 in
set_option maxRecDepth 10000 in
theorem se_X9_next_0 (M : pvM) (hok : pvOk M) (d : Nat) : PW 187 d (0, [some (pvR 0), none, none, none, none], [], M) (fun r X => (∃ x : Int32, r = some (pvI x) ∧ (-5) ≤ Int32.toInt x ∧ Int32.toInt x ≤ 2147483647) ∧ pvOk X ∧ pvFr fp_eX9_next_0 M X ∧ yAn yGnx r M X) := by
  have hT : pvdom 187 = pvD_187 := rfl
  refine pw_blk hT 2 (S' := (4, [some (pvR 0), none, none, none, none], [pvR 5], M)) rfl ⟨trivial, rfl, trivial⟩ ?_
  refine pw_callVd hT (as := [pvR 5]) (lo1 := [some (pvR 5)]) (d1 := d) (rest := []) rfl rfl rfl rfl rfl (fun _ => rfl) (Nat.zero_le _) rfl rfl rfl (se_X1_beginFromNow_5 M hok d) (fun M3_ o5_ g6_ d1_ => ?_)
  have f7_ : pvFr fp_eX9_next_0 M M3_ := pvfr_t g6_ pvfr_0 fp_eX9_next_0_fp_eX1_beginFromNow_5
  refine pw_blk hT 6 (S' := (14, [some (pvR 0), some (pvI (-5)), some (pvI 0), some (pvI 0), none], [], M3_)) rfl ⟨trivial, trivial, trivial, trivial, trivial, trivial, trivial⟩ ?_
  have hlz134_ : ∀ (nz134_ : Nat) (i1z134_ : Int32) (i2z134_ : Int32) (i3z134_ : Int32) (v4z134_ : Option pvV) (Mz134_ : pvM), (pvOk Mz134_) → (pvFr fp_eX9_next_0 M Mz134_) → ((-5) ≤ Int32.toInt i1z134_ ∧ Int32.toInt i1z134_ ≤ 2147483647) → (0 ≤ Int32.toInt i3z134_ ∧ Int32.toInt i3z134_ ≤ 7) → (yNxI M Mz134_ i1z134_ i2z134_ i3z134_) → (zhide ((8 - Int32.toInt i3z134_).toNat < nz134_)) → PW 187 d (14, [some (pvR 0), some (pvI i1z134_), some (pvI i2z134_), some (pvI i3z134_), v4z134_], [], Mz134_) (fun r X => (∃ x : Int32, r = some (pvI x) ∧ (-5) ≤ Int32.toInt x ∧ Int32.toInt x ≤ 2147483647) ∧ pvOk X ∧ pvFr fp_eX9_next_0 M X ∧ yAn yGnx r M X) := by
    intro nz134_
    induction nz134_ with
    | zero => intro i1z134_ i2z134_ i3z134_ v4z134_ Mz134_ oz134_ fz134_ h1z134_ h3z134_ j0z134_ hmz134_; exact absurd (zshow hmz134_) (Nat.not_lt_zero _)
    | succ nz134_ ihz134_ =>
      intro i1z134_ i2z134_ i3z134_ v4z134_ Mz134_ oz134_ fz134_ h1z134_ h3z134_ j0z134_ hmz134_
      have b135_ : 0 ≤ Int32.toInt (Mz134_.1 8 1) ∧ Int32.toInt (Mz134_.1 8 1) ≤ 7 := pvok_r oz134_ 8 1 rfl
      refine pw_blk hT 4 (S' := (22, [some (pvR 0), some (pvI i1z134_), some (pvI i2z134_), some (pvI i3z134_), v4z134_], [pvI (Mz134_.1 8 1), pvI i3z134_], Mz134_)) rfl ⟨trivial, trivial, rfl, rfl, trivial⟩ ?_
      refine pw_ic hT (c := (Mz134_.1 8 1) ≤ i3z134_) rfl rfl (fun c136_ => ?_) (fun c136_ => ?_)
      · have d137_ : Int32.toInt (Mz134_.1 8 1) ≤ Int32.toInt i3z134_ := (zi_le _ _).mp c136_
        refine pw_blk hT 1 (S' := (77, [some (pvR 0), some (pvI i1z134_), some (pvI i2z134_), some (pvI i3z134_), v4z134_], [pvI i1z134_], Mz134_)) rfl ⟨trivial, trivial⟩ ?_
        exact pw_ret hT rfl (r := some (pvI i1z134_)) (M' := Mz134_) ⟨rfl, rfl⟩ ⟨⟨_, rfl, h1z134_⟩, oz134_, fz134_, (yGnx_e j0z134_ c136_)⟩
      · have b138_ : 1 ≤ Int32.toInt (Mz134_.1 8 1) ∧ Int32.toInt (Mz134_.1 8 1) ≤ 7 := zr_nle_l 1 c136_ b135_ h3z134_ (by decide)
        have b139_ : 0 ≤ Int32.toInt i3z134_ ∧ Int32.toInt i3z134_ ≤ 6 := zr_nle_r 6 c136_ h3z134_ b138_ (by decide)
        have d140_ : Int32.toInt (Mz134_.1 8 1) > Int32.toInt i3z134_ := Int.not_le.mp ((not_congr (zi_le _ _)).mp c136_)
        refine pw_blkr hT 5 (pc := 34) (lo := [some (pvR 0), some (pvI i1z134_), some (pvI i2z134_), some (pvI i3z134_), v4z134_]) (st := []) (M := Mz134_) (z := (pvbs 10 + Int32.toNatClampNeg i3z134_)) rfl ⟨trivial, rfl, rfl, trivial, ⟨rfl, (zr_in (n := 7) b139_ (by decide) (by decide))⟩, trivial⟩ (fun q141_ e143_ => ?_)
        have k142_ : pvkl q141_ = 3 := pvel_10 (zr_in (n := 7) b139_ (by decide) (by decide)) e143_
        subst e143_
        have b144_ : 0 ≤ Int32.toInt (Mz134_.1 (pvbs 10 + Int32.toNatClampNeg i3z134_) 5) ∧ Int32.toInt (Mz134_.1 (pvbs 10 + Int32.toNatClampNeg i3z134_) 5) ≤ 1 := pvok_r oz134_ (pvbs 10 + Int32.toNatClampNeg i3z134_) 5 ((pvrg_o 5 k142_ (by decide) (by decide)).trans rfl)
        refine pw_blk hT 1 (S' := (37, [some (pvR 0), some (pvI i1z134_), some (pvI i2z134_), some (pvI i3z134_), v4z134_], [pvI (Mz134_.1 (pvbs 10 + Int32.toNatClampNeg i3z134_) 5)], Mz134_)) rfl ⟨k142_, trivial⟩ ?_
        refine pw_if hT (c := (Mz134_.1 (pvbs 10 + Int32.toNatClampNeg i3z134_) 5) = 0) rfl rfl (fun c145_ => ?_) (fun c145_ => ?_)
        · have b146_ : 0 ≤ Int32.toInt (Mz134_.1 (pvbs 10 + Int32.toNatClampNeg i3z134_) 5) ∧ Int32.toInt (Mz134_.1 (pvbs 10 + Int32.toNatClampNeg i3z134_) 5) ≤ 0 := (by have u0 := b144_; have u1 := (zi_eq _ _).mp c145_; have u2 := (show 0 ≤ Int32.toInt 0 ∧ Int32.toInt 0 ≤ 0 from (by decide)); omega)
          refine pw_blk hT 3 (S' := (48, [some (pvR 0), some (pvI i1z134_), some (pvI i2z134_), some (pvI i3z134_), v4z134_], [pvI i3z134_, pvR 5], Mz134_)) rfl ⟨trivial, rfl, trivial, trivial⟩ ?_
          refine pw_callGd hT (as := [pvR 5, pvI i3z134_]) (lo1 := [some (pvR 5), some (pvI i3z134_)]) (d1 := d) (rest := []) rfl rfl rfl rfl rfl (fun _ => rfl) (Nat.zero_le _) rfl rfl rfl (se_X1_costOfOne_5_x Mz134_ oz134_ i3z134_ b139_ d) (fun x148_ M149_ b150_ o151_ g152_ d147_ => ?_)
          have f153_ : pvFr fp_eX9_next_0 M M149_ := pvfr_t g152_ fz134_ fp_eX9_next_0_fp_eX1_costOfOne_5_x
          refine pw_blk hT 3 (S' := (56, [some (pvR 0), some (pvI i1z134_), some (pvI i2z134_), some (pvI i3z134_), some (pvI x148_)], [pvI (-5), pvI i1z134_], M149_)) rfl ⟨trivial, trivial, trivial, trivial⟩ ?_
          refine pw_ic hT (c := i1z134_ = (-5)) rfl rfl (fun c154_ => ?_) (fun c154_ => ?_)
          · have b155_ : (-5) ≤ Int32.toInt i1z134_ ∧ Int32.toInt i1z134_ ≤ (-5) := (by have u0 := h1z134_; have u1 := (zi_eq _ _).mp c154_; have u2 := (show (-5) ≤ Int32.toInt (-5) ∧ Int32.toInt (-5) ≤ (-5) from (by decide)); omega)
            obtain ⟨q157_, b156_⟩ : (Int32.toInt (i3z134_ + 1) = Int32.toInt i3z134_ + 1) ∧ (1 ≤ Int32.toInt (i3z134_ + 1) ∧ Int32.toInt (i3z134_ + 1) ≤ 7) := zadd_k i3z134_ 1 1 1 7 b139_ (by decide) (by decide) (by decide) (by decide) (by decide)
            refine pw_blk hT 6 (S' := (14, [some (pvR 0), some (pvI i3z134_), some (pvI x148_), some (pvI (i3z134_ + 1)), some (pvI x148_)], [], M149_)) rfl ⟨trivial, trivial, trivial, trivial, trivial, trivial, trivial⟩ ?_
            have j158_ : yNxI M M149_ i3z134_ x148_ (i3z134_ + 1) := (yNxI_y hok oz134_ j0z134_ (by have u := b139_; omega) c136_ c145_ d147_ (by omega) (Or.inl (by have v := (zi_eq _ _).mp c154_; have u5 : (-5 : Int32).toInt = -5 := (by decide); omega)))
            exact ihz134_ i3z134_ x148_ (i3z134_ + 1) (some (pvI x148_)) M149_ o151_ f153_ (zr_wide b139_ (by decide) (by decide)) (zr_wide b156_ (by decide) (by decide)) j158_ (zhid (pvms_up (zshow hmz134_) h3z134_ q157_ (by decide) (by decide)))
          · have b159_ : (-4) ≤ Int32.toInt i1z134_ ∧ Int32.toInt i1z134_ ≤ 2147483647 := (by have u0 := h1z134_; have u1 := (not_congr (zi_eq _ _)).mp c154_; have u2 := (show (-5) ≤ Int32.toInt (-5) ∧ Int32.toInt (-5) ≤ (-5) from (by decide)); omega)
            refine pw_blk hT 2 (S' := (62, [some (pvR 0), some (pvI i1z134_), some (pvI i2z134_), some (pvI i3z134_), some (pvI x148_)], [pvI i2z134_, pvI x148_], M149_)) rfl ⟨trivial, trivial, trivial⟩ ?_
            refine pw_ic hT (c := i2z134_ ≤ x148_) rfl rfl (fun c160_ => ?_) (fun c160_ => ?_)
            · have d161_ : Int32.toInt i2z134_ ≤ Int32.toInt x148_ := (zi_le _ _).mp c160_
              obtain ⟨q163_, b162_⟩ : (Int32.toInt (i3z134_ + 1) = Int32.toInt i3z134_ + 1) ∧ (1 ≤ Int32.toInt (i3z134_ + 1) ∧ Int32.toInt (i3z134_ + 1) ≤ 7) := zadd_k i3z134_ 1 1 1 7 b139_ (by decide) (by decide) (by decide) (by decide) (by decide)
              refine pw_blk hT 2 (S' := (14, [some (pvR 0), some (pvI i1z134_), some (pvI i2z134_), some (pvI (i3z134_ + 1)), some (pvI x148_)], [], M149_)) rfl ⟨trivial, trivial, trivial⟩ ?_
              have j164_ : yNxI M M149_ i1z134_ i2z134_ (i3z134_ + 1) := (yNxI_n hok oz134_ j0z134_ (by have u := b139_; omega) c136_ c145_ d147_ (by omega) ⟨fun z => c154_ ((zi_eq _ _).mpr (by have u5 : (-5 : Int32).toInt = -5 := (by decide); omega)), (by have v := (zi_le _ _).mp c160_; omega)⟩)
              exact ihz134_ i1z134_ i2z134_ (i3z134_ + 1) (some (pvI x148_)) M149_ o151_ f153_ (zr_wide b159_ (by decide) (by decide)) (zr_wide b162_ (by decide) (by decide)) j164_ (zhid (pvms_up (zshow hmz134_) h3z134_ q163_ (by decide) (by decide)))
            · have b165_ : (-2147483647) ≤ Int32.toInt i2z134_ ∧ Int32.toInt i2z134_ ≤ 2147483647 := zr_nle_l (-2147483647) c160_ (zbnd i2z134_) (zbnd x148_) (by decide)
              have b166_ : (-2147483648) ≤ Int32.toInt x148_ ∧ Int32.toInt x148_ ≤ 2147483646 := zr_nle_r 2147483646 c160_ (zbnd x148_) b165_ (by decide)
              have d167_ : Int32.toInt i2z134_ > Int32.toInt x148_ := Int.not_le.mp ((not_congr (zi_le _ _)).mp c160_)
              obtain ⟨q169_, b168_⟩ : (Int32.toInt (i3z134_ + 1) = Int32.toInt i3z134_ + 1) ∧ (1 ≤ Int32.toInt (i3z134_ + 1) ∧ Int32.toInt (i3z134_ + 1) ≤ 7) := zadd_k i3z134_ 1 1 1 7 b139_ (by decide) (by decide) (by decide) (by decide) (by decide)
              refine pw_blk hT 6 (S' := (14, [some (pvR 0), some (pvI i3z134_), some (pvI x148_), some (pvI (i3z134_ + 1)), some (pvI x148_)], [], M149_)) rfl ⟨trivial, trivial, trivial, trivial, trivial, trivial, trivial⟩ ?_
              have j170_ : yNxI M M149_ i3z134_ x148_ (i3z134_ + 1) := (yNxI_y hok oz134_ j0z134_ (by have u := b139_; omega) c136_ c145_ d147_ (by omega) (Or.inr (by have v := (not_congr (zi_le _ _)).mp c160_; omega)))
              exact ihz134_ i3z134_ x148_ (i3z134_ + 1) (some (pvI x148_)) M149_ o151_ f153_ (zr_wide b139_ (by decide) (by decide)) (zr_wide b168_ (by decide) (by decide)) j170_ (zhid (pvms_up (zshow hmz134_) h3z134_ q169_ (by decide) (by decide)))
        · have b171_ : 1 ≤ Int32.toInt (Mz134_.1 (pvbs 10 + Int32.toNatClampNeg i3z134_) 5) ∧ Int32.toInt (Mz134_.1 (pvbs 10 + Int32.toNatClampNeg i3z134_) 5) ≤ 1 := (by have u0 := b144_; have u1 := (not_congr (zi_eq _ _)).mp c145_; have u2 := (show 0 ≤ Int32.toInt 0 ∧ Int32.toInt 0 ≤ 0 from (by decide)); omega)
          obtain ⟨q173_, b172_⟩ : (Int32.toInt (i3z134_ + 1) = Int32.toInt i3z134_ + 1) ∧ (1 ≤ Int32.toInt (i3z134_ + 1) ∧ Int32.toInt (i3z134_ + 1) ≤ 7) := zadd_k i3z134_ 1 1 1 7 b139_ (by decide) (by decide) (by decide) (by decide) (by decide)
          refine pw_blk hT 3 (S' := (14, [some (pvR 0), some (pvI i1z134_), some (pvI i2z134_), some (pvI (i3z134_ + 1)), v4z134_], [], Mz134_)) rfl ⟨trivial, trivial, trivial, trivial⟩ ?_
          have j174_ : yNxI M Mz134_ i1z134_ i2z134_ (i3z134_ + 1) := (yNxI_z hok j0z134_ (by have u := b139_; omega) c136_ c145_ (by omega))
          exact ihz134_ i1z134_ i2z134_ (i3z134_ + 1) v4z134_ Mz134_ oz134_ fz134_ h1z134_ (zr_wide b172_ (by decide) (by decide)) j174_ (zhid (pvms_up (zshow hmz134_) h3z134_ q173_ (by decide) (by decide)))
  have u175_ : Int32.toInt (-5) = (-5) := by decide
  have u176_ : Int32.toInt 0 = 0 := by decide
  have j177_ : yNxI M M3_ (-5) 0 0 := (yNxI_0 hok d1_ (by decide))
  exact hlz134_ _ (-5) 0 0 none M3_ o5_ f7_ (zr_wide (show (-5) ≤ Int32.toInt (-5) ∧ Int32.toInt (-5) ≤ (-5) from (by decide)) (by decide) (by decide)) (zr_wide (show 0 ≤ Int32.toInt 0 ∧ Int32.toInt 0 ≤ 0 from (by decide)) (by decide) (by decide)) j177_ (zhid (Nat.lt_succ_self _))
def fpL_eX9_odds_0_x_x : List (Nat × Nat × Nat) := [(0, 12, 0), (0, 13, 0), (0, 14, 0), (0, 5, 2), (0, 5, 3), (1, 112, 0)]
def fp_eX9_odds_0_x_x (q k : Nat) : Bool := pvfp fpL_eX9_odds_0_x_x q k
theorem fp_eX9_odds_0_x_x_fp_eX1_beginFromNow_5 (a b : Nat) (h : fp_eX1_beginFromNow_5 a b = true) : fp_eX9_odds_0_x_x a b = true := pvfp_sub (l1 := fpL_eX1_beginFromNow_5) (l2 := fpL_eX9_odds_0_x_x) (by decide) a b h
theorem fp_eX9_odds_0_x_x_fp_eX1_goRound_5_x (a b : Nat) (h : fp_eX1_goRound_5_x a b = true) : fp_eX9_odds_0_x_x a b = true := pvfp_sub (l1 := fpL_eX1_goRound_5_x) (l2 := fpL_eX9_odds_0_x_x) (by decide) a b h
theorem fp_eX9_odds_0_x_x_fp_eX1_turnTo_5_x (a b : Nat) (h : fp_eX1_turnTo_5_x a b = true) : fp_eX9_odds_0_x_x a b = true := pvfp_sub (l1 := fpL_eX1_turnTo_5_x) (l2 := fpL_eX9_odds_0_x_x) (by decide) a b h
set_option maxHeartbeats 4000000 in
set_option maxRecDepth 10000 in
theorem se_X9_odds_0_x_x (M : pvM) (hok : pvOk M) (n1 : Int32) (n2 : Int32) (d : Nat) : PW 188 d (0, [some (pvR 0), some (pvI n1), some (pvI n2), none, none], [], M) (fun r X => (∃ x : Int64, r = some (pvJ x)) ∧ pvOk X ∧ pvFr fp_eX9_odds_0_x_x M X ∧ yAj (yGod n1 n2) r M X) := by
  have hT : pvdom 188 = pvD_188 := rfl
  refine pw_blk hT 3 (S' := (4, [some (pvR 0), some (pvI n1), some (pvI n2), none, none], [pvI 99999, pvI 0, pvI n1], M)) rfl ⟨trivial, trivial, trivial, trivial⟩ ?_
  refine pw_callT hT (as := [pvI n1, pvI 0, pvI 99999]) (lo1 := [some (pvI n1), some (pvI 0), some (pvI 99999)]) (d1 := d) (rest := []) rfl rfl rfl rfl rfl (fun h => absurd h (by decide)) (Nat.zero_le _) rfl rfl rfl (sf_X9_within_x_x_x M hok n1 0 99999 d) ?_
  by_cases c6_ : n1 < 0
  · refine pw_eqI (if_pos c6_) ?_
    have b7_ : (-2147483648) ≤ Int32.toInt n1 ∧ Int32.toInt n1 ≤ (-1) := zr_lt_l (-1) c6_ (zbnd n1) (show 0 ≤ Int32.toInt 0 ∧ Int32.toInt 0 ≤ 0 from (by decide)) (by decide)
    show PW 188 d (7, [some (pvR 0), some (pvI n1), some (pvI n2), none, none], [pvI 0], M) _
    refine pw_if hT (c := 0 = 0) rfl rfl (fun c8_ => ?_) (fun c8_ => absurd (by decide) c8_)
    refine pw_blk hT 1 (S' := (22, [some (pvR 0), some (pvI n1), some (pvI n2), none, none], [pvJ (-9223372036854775808)], M)) rfl ⟨trivial, trivial⟩ ?_
    exact pw_ret hT rfl (r := some (pvJ (-9223372036854775808))) (M' := M) ⟨rfl, rfl⟩ ⟨⟨_, rfl⟩, hok, pvfr_0, (yGod_n (by have u := b7_; have w := (zbnd n2); omega) (by decide))⟩
  · refine pw_eqI (if_neg c6_) ?_
    have b9_ : 0 ≤ Int32.toInt n1 ∧ Int32.toInt n1 ≤ 2147483647 := zr_nlt_l 0 c6_ (zbnd n1) (show 0 ≤ Int32.toInt 0 ∧ Int32.toInt 0 ≤ 0 from (by decide)) (by decide)
    by_cases c10_ : 99999 < n1
    · refine pw_eqI (if_pos c10_) ?_
      have b11_ : 100000 ≤ Int32.toInt n1 ∧ Int32.toInt n1 ≤ 2147483647 := zr_lt_r 100000 c10_ b9_ (show 99999 ≤ Int32.toInt 99999 ∧ Int32.toInt 99999 ≤ 99999 from (by decide)) (by decide)
      show PW 188 d (7, [some (pvR 0), some (pvI n1), some (pvI n2), none, none], [pvI 0], M) _
      refine pw_if hT (c := 0 = 0) rfl rfl (fun c12_ => ?_) (fun c12_ => absurd (by decide) c12_)
      refine pw_blk hT 1 (S' := (22, [some (pvR 0), some (pvI n1), some (pvI n2), none, none], [pvJ (-9223372036854775808)], M)) rfl ⟨trivial, trivial⟩ ?_
      exact pw_ret hT rfl (r := some (pvJ (-9223372036854775808))) (M' := M) ⟨rfl, rfl⟩ ⟨⟨_, rfl⟩, hok, pvfr_0, (yGod_n (by have u := b11_; have w := (zbnd n2); omega) (by decide))⟩
    · refine pw_eqI (if_neg c10_) ?_
      have b13_ : 0 ≤ Int32.toInt n1 ∧ Int32.toInt n1 ≤ 99999 := zr_nlt_r 99999 c10_ b9_ (show 99999 ≤ Int32.toInt 99999 ∧ Int32.toInt 99999 ≤ 99999 from (by decide)) (by decide)
      show PW 188 d (7, [some (pvR 0), some (pvI n1), some (pvI n2), none, none], [pvI 1], M) _
      refine pw_if hT (c := 1 = 0) rfl rfl (fun c14_ => absurd c14_ (by decide)) (fun c14_ => ?_)
      refine pw_blk hT 3 (S' := (13, [some (pvR 0), some (pvI n1), some (pvI n2), none, none], [pvI 1, pvI 0, pvI n2], M)) rfl ⟨trivial, trivial, trivial, trivial⟩ ?_
      refine pw_callT hT (as := [pvI n2, pvI 0, pvI 1]) (lo1 := [some (pvI n2), some (pvI 0), some (pvI 1)]) (d1 := d) (rest := []) rfl rfl rfl rfl rfl (fun h => absurd h (by decide)) (Nat.zero_le _) rfl rfl rfl (sf_X9_within_x_x_x M hok n2 0 1 d) ?_
      by_cases c20_ : n2 < 0
      · refine pw_eqI (if_pos c20_) ?_
        have b21_ : (-2147483648) ≤ Int32.toInt n2 ∧ Int32.toInt n2 ≤ (-1) := zr_lt_l (-1) c20_ (zbnd n2) (show 0 ≤ Int32.toInt 0 ∧ Int32.toInt 0 ≤ 0 from (by decide)) (by decide)
        show PW 188 d (16, [some (pvR 0), some (pvI n1), some (pvI n2), none, none], [pvI 0], M) _
        refine pw_ifn hT (c := 0 = 0) rfl rfl (fun c22_ => absurd (by decide) c22_) (fun c22_ => ?_)
        refine pw_blk hT 1 (S' := (22, [some (pvR 0), some (pvI n1), some (pvI n2), none, none], [pvJ (-9223372036854775808)], M)) rfl ⟨trivial, trivial⟩ ?_
        exact pw_ret hT rfl (r := some (pvJ (-9223372036854775808))) (M' := M) ⟨rfl, rfl⟩ ⟨⟨_, rfl⟩, hok, pvfr_0, (yGod_n (by have u := b13_; have w := b21_; omega) (by decide))⟩
      · refine pw_eqI (if_neg c20_) ?_
        have b23_ : 0 ≤ Int32.toInt n2 ∧ Int32.toInt n2 ≤ 2147483647 := zr_nlt_l 0 c20_ (zbnd n2) (show 0 ≤ Int32.toInt 0 ∧ Int32.toInt 0 ≤ 0 from (by decide)) (by decide)
        by_cases c24_ : 1 < n2
        · refine pw_eqI (if_pos c24_) ?_
          have b25_ : 2 ≤ Int32.toInt n2 ∧ Int32.toInt n2 ≤ 2147483647 := zr_lt_r 2 c24_ b23_ (show 1 ≤ Int32.toInt 1 ∧ Int32.toInt 1 ≤ 1 from (by decide)) (by decide)
          show PW 188 d (16, [some (pvR 0), some (pvI n1), some (pvI n2), none, none], [pvI 0], M) _
          refine pw_ifn hT (c := 0 = 0) rfl rfl (fun c26_ => absurd (by decide) c26_) (fun c26_ => ?_)
          refine pw_blk hT 1 (S' := (22, [some (pvR 0), some (pvI n1), some (pvI n2), none, none], [pvJ (-9223372036854775808)], M)) rfl ⟨trivial, trivial⟩ ?_
          exact pw_ret hT rfl (r := some (pvJ (-9223372036854775808))) (M' := M) ⟨rfl, rfl⟩ ⟨⟨_, rfl⟩, hok, pvfr_0, (yGod_n (by have u := b13_; have w := b25_; omega) (by decide))⟩
        · refine pw_eqI (if_neg c24_) ?_
          have b27_ : 0 ≤ Int32.toInt n2 ∧ Int32.toInt n2 ≤ 1 := zr_nlt_r 1 c24_ b23_ (show 1 ≤ Int32.toInt 1 ∧ Int32.toInt 1 ≤ 1 from (by decide)) (by decide)
          show PW 188 d (16, [some (pvR 0), some (pvI n1), some (pvI n2), none, none], [pvI 1], M) _
          refine pw_ifn hT (c := 1 = 0) rfl rfl (fun c28_ => ?_) (fun c28_ => absurd c28_ (by decide))
          refine pw_blk hT 2 (S' := (27, [some (pvR 0), some (pvI n1), some (pvI n2), none, none], [pvR 5], M)) rfl ⟨trivial, rfl, trivial⟩ ?_
          refine pw_callVd hT (as := [pvR 5]) (lo1 := [some (pvR 5)]) (d1 := d) (rest := []) rfl rfl rfl rfl rfl (fun _ => rfl) (Nat.zero_le _) rfl rfl rfl (se_X1_beginFromNow_5 M hok d) (fun M31_ o33_ g34_ d29_ => ?_)
          have f35_ : pvFr fp_eX9_odds_0_x_x M M31_ := pvfr_t g34_ pvfr_0 fp_eX9_odds_0_x_x_fp_eX1_beginFromNow_5
          refine pw_blk hT 3 (S' := (35, [some (pvR 0), some (pvI n1), some (pvI n2), none, none], [pvI 0, pvR 5], M31_)) rfl ⟨trivial, rfl, trivial, trivial⟩ ?_
          refine pw_callGd hT (as := [pvR 5, pvI 0]) (lo1 := [some (pvR 5), some (pvI 0)]) (d1 := d) (rest := []) rfl rfl rfl rfl rfl (fun _ => rfl) (Nat.zero_le _) rfl rfl rfl (se_X1_goRound_5_x M31_ o33_ 0 (zr_wide (show 0 ≤ Int32.toInt 0 ∧ Int32.toInt 0 ≤ 0 from (by decide)) (by decide) (by decide)) d) (fun x37_ M38_ b39_ o40_ g41_ d36_ => ?_)
          have f42_ : pvFr fp_eX9_odds_0_x_x M M38_ := pvfr_t g41_ f35_ fp_eX9_odds_0_x_x_fp_eX1_goRound_5_x
          refine pw_blk hT 5 (S' := (44, [some (pvR 0), some (pvI n1), some (pvI n2), some (pvI 0), some (pvI 0)], [], M38_)) rfl ⟨trivial, trivial, trivial, trivial, trivial, trivial⟩ ?_
          have hlz168_ : ∀ (nz168_ : Nat) (i3z168_ : Int32) (i4z168_ : Int32) (Mz168_ : pvM), (pvOk Mz168_) → (pvFr fp_eX9_odds_0_x_x M Mz168_) → (0 ≤ Int32.toInt i3z168_ ∧ Int32.toInt i3z168_ ≤ 4) → (0 ≤ Int32.toInt i4z168_ ∧ Int32.toInt i4z168_ ≤ 4) → (Int32.toInt i3z168_ ≤ Int32.toInt i4z168_) → (yOdI M Mz168_ n1 i3z168_ i4z168_) → (zhide ((5 - Int32.toInt i4z168_).toNat < nz168_)) → PW 188 d (44, [some (pvR 0), some (pvI n1), some (pvI n2), some (pvI i3z168_), some (pvI i4z168_)], [], Mz168_) (fun r X => (∃ x : Int64, r = some (pvJ x)) ∧ pvOk X ∧ pvFr fp_eX9_odds_0_x_x M X ∧ yAj (yGod n1 n2) r M X) := by
            intro nz168_
            induction nz168_ with
            | zero => intro i3z168_ i4z168_ Mz168_ oz168_ fz168_ h3z168_ h4z168_ j0z168_ j1z168_ hmz168_; exact absurd (zshow hmz168_) (Nat.not_lt_zero _)
            | succ nz168_ ihz168_ =>
              intro i3z168_ i4z168_ Mz168_ oz168_ fz168_ h3z168_ h4z168_ j0z168_ j1z168_ hmz168_
              refine pw_blk hT 2 (S' := (47, [some (pvR 0), some (pvI n1), some (pvI n2), some (pvI i3z168_), some (pvI i4z168_)], [pvI 4, pvI i4z168_], Mz168_)) rfl ⟨trivial, trivial, trivial⟩ ?_
              refine pw_ic hT (c := 4 ≤ i4z168_) rfl rfl (fun c169_ => ?_) (fun c169_ => ?_)
              · have b170_ : 4 ≤ Int32.toInt i4z168_ ∧ Int32.toInt i4z168_ ≤ 4 := zr_le_r 4 c169_ h4z168_ (show 4 ≤ Int32.toInt 4 ∧ Int32.toInt 4 ≤ 4 from (by decide)) (by decide)
                refine pw_blk hT 3 (S' := (82, [some (pvR 0), some (pvI n1), some (pvI n2), some (pvI i3z168_), some (pvI i4z168_)], [pvI n2, pvI 4, pvI i3z168_], Mz168_)) rfl ⟨trivial, trivial, trivial, trivial⟩ ?_
                refine pw_callJx hT (as := [pvI i3z168_, pvI 4, pvI n2]) (lo1 := [some (pvI i3z168_), some (pvI 4), some (pvI n2), none]) (d1 := d) (rest := []) rfl rfl rfl rfl rfl (fun h => absurd h (by decide)) (Nat.zero_le _) rfl rfl rfl (se_X9_partOf_x_x_x Mz168_ oz168_ i3z168_ 4 n2 (zr_wide (show 4 ≤ Int32.toInt 4 ∧ Int32.toInt 4 ≤ 4 from (by decide)) (by decide) (by decide)) d) (fun x171_ b173_ => ?_)
                exact pw_ret hT rfl (r := some (pvJ x171_)) (M' := Mz168_) ⟨rfl, rfl⟩ ⟨⟨_, rfl⟩, oz168_, fz168_, (yGod_e j1z168_ (by have u := b170_; omega) (by decide) (by have u := b13_; have w := b27_; omega) b173_)⟩
              · have b176_ : 0 ≤ Int32.toInt i4z168_ ∧ Int32.toInt i4z168_ ≤ 3 := zr_nle_r 3 c169_ h4z168_ (show 4 ≤ Int32.toInt 4 ∧ Int32.toInt 4 ≤ 4 from (by decide)) (by decide)
                refine pw_blk hT 3 (S' := (56, [some (pvR 0), some (pvI n1), some (pvI n2), some (pvI i3z168_), some (pvI i4z168_)], [pvI i4z168_, pvR 5], Mz168_)) rfl ⟨trivial, rfl, trivial, trivial⟩ ?_
                refine pw_callVd hT (as := [pvR 5, pvI i4z168_]) (lo1 := [some (pvR 5), some (pvI i4z168_), none]) (d1 := d) (rest := []) rfl rfl rfl rfl rfl (fun _ => rfl) (Nat.zero_le _) rfl rfl rfl (se_X1_turnTo_5_x Mz168_ oz168_ i4z168_ d) (fun M179_ o181_ g182_ d177_ => ?_)
                have f183_ : pvFr fp_eX9_odds_0_x_x M M179_ := pvfr_t g182_ fz168_ fp_eX9_odds_0_x_x_fp_eX1_turnTo_5_x
                refine pw_blk hT 2 (S' := (63, [some (pvR 0), some (pvI n1), some (pvI n2), some (pvI i3z168_), some (pvI i4z168_)], [pvR 5], M179_)) rfl ⟨trivial, rfl, trivial⟩ ?_
                refine pw_callGp hT (as := [pvR 5]) (lo1 := [some (pvR 5)]) (d1 := d) (rest := []) rfl rfl rfl rfl rfl (fun _ => rfl) (Nat.zero_le _) rfl rfl rfl (se_X1_cost_5 M179_ o181_ d) (fun x184_ b186_ => ?_)
                obtain ⟨b189_, d190_⟩ := b186_
                refine pw_blk hT 1 (S' := (67, [some (pvR 0), some (pvI n1), some (pvI n2), some (pvI i3z168_), some (pvI i4z168_)], [pvI n1, pvI x184_], M179_)) rfl ⟨trivial, trivial⟩ ?_
                refine pw_ic hT (c := n1 < x184_) rfl rfl (fun c191_ => ?_) (fun c191_ => ?_)
                · have b192_ : 1 ≤ Int32.toInt x184_ ∧ Int32.toInt x184_ ≤ 2147483647 := zr_lt_r 1 c191_ (zbnd x184_) b13_ (by decide)
                  have d193_ : Int32.toInt n1 < Int32.toInt x184_ := (zi_lt _ _).mp c191_
                  obtain ⟨q195_, b194_⟩ : (Int32.toInt (i4z168_ + 1) = Int32.toInt i4z168_ + 1) ∧ (1 ≤ Int32.toInt (i4z168_ + 1) ∧ Int32.toInt (i4z168_ + 1) ≤ 4) := zadd_k i4z168_ 1 1 1 4 b176_ (by decide) (by decide) (by decide) (by decide) (by decide)
                  refine pw_blk hT 2 (S' := (44, [some (pvR 0), some (pvI n1), some (pvI n2), some (pvI i3z168_), some (pvI (i4z168_ + 1))], [], M179_)) rfl ⟨trivial, trivial, trivial⟩ ?_
                  have j196_ : Int32.toInt i3z168_ ≤ Int32.toInt (i4z168_ + 1) := by omega
                  have j197_ : yOdI M M179_ n1 i3z168_ (i4z168_ + 1) := (yOdI_s hok o181_ j1z168_ d177_ (by have u := b176_; omega) d190_ (by omega) (Or.inr ⟨(Int32.not_le.mpr c191_), rfl⟩))
                  exact ihz168_ i3z168_ (i4z168_ + 1) M179_ o181_ f183_ h3z168_ (zr_wide b194_ (by decide) (by decide)) j196_ j197_ (zhid (pvms_up (zshow hmz168_) h4z168_ q195_ (by decide) (by decide)))
                · have b198_ : (-2147483648) ≤ Int32.toInt x184_ ∧ Int32.toInt x184_ ≤ 99999 := zr_nlt_r 99999 c191_ (zbnd x184_) b13_ (by decide)
                  have d199_ : Int32.toInt n1 ≥ Int32.toInt x184_ := Int.not_lt.mp ((not_congr (zi_lt _ _)).mp c191_)
                  obtain ⟨q201_, b200_⟩ : (Int32.toInt (i3z168_ + 1) = Int32.toInt i3z168_ + 1) ∧ (1 ≤ Int32.toInt (i3z168_ + 1) ∧ Int32.toInt (i3z168_ + 1) ≤ 5) := zadd_k i3z168_ 1 1 1 5 h3z168_ (by decide) (by decide) (by decide) (by decide) (by decide)
                  obtain ⟨q203_, b202_⟩ : (Int32.toInt (i4z168_ + 1) = Int32.toInt i4z168_ + 1) ∧ (1 ≤ Int32.toInt (i4z168_ + 1) ∧ Int32.toInt (i4z168_ + 1) ≤ 4) := zadd_k i4z168_ 1 1 1 4 b176_ (by decide) (by decide) (by decide) (by decide) (by decide)
                  refine pw_blk hT 3 (S' := (44, [some (pvR 0), some (pvI n1), some (pvI n2), some (pvI (i3z168_ + 1)), some (pvI (i4z168_ + 1))], [], M179_)) rfl ⟨trivial, trivial, trivial, trivial⟩ ?_
                  have j204_ : Int32.toInt (i3z168_ + 1) ≤ Int32.toInt (i4z168_ + 1) := by omega
                  have j205_ : yOdI M M179_ n1 (i3z168_ + 1) (i4z168_ + 1) := (yOdI_s hok o181_ j1z168_ d177_ (by have u := b176_; omega) d190_ (by omega) (Or.inl ⟨(Int32.not_lt.mp c191_), rfl⟩))
                  exact ihz168_ (i3z168_ + 1) (i4z168_ + 1) M179_ o181_ f183_ (by have u0 := b200_; omega) (zr_wide b202_ (by decide) (by decide)) j204_ j205_ (zhid (pvms_up (zshow hmz168_) h4z168_ q203_ (by decide) (by decide)))
          have u206_ : Int32.toInt 0 = 0 := by decide
          have j207_ : Int32.toInt 0 ≤ Int32.toInt 0 := by omega
          have j208_ : yOdI M M38_ n1 0 0 := (yOdI_0 (yRn9_i hok o33_ d29_ d36_) (by decide) (by decide))
          exact hlz168_ _ 0 0 M38_ o40_ f42_ (zr_wide (show 0 ≤ Int32.toInt 0 ∧ Int32.toInt 0 ≤ 0 from (by decide)) (by decide) (by decide)) (zr_wide (show 0 ≤ Int32.toInt 0 ∧ Int32.toInt 0 ≤ 0 from (by decide)) (by decide) (by decide)) j207_ j208_ (zhid (Nat.lt_succ_self _))
def fpL_eX9_of_0_x_x : List (Nat × Nat × Nat) := [(0, 12, 0), (0, 13, 0), (0, 14, 0), (0, 5, 2), (0, 5, 3), (1, 112, 0)]
def fp_eX9_of_0_x_x (q k : Nat) : Bool := pvfp fpL_eX9_of_0_x_x q k
theorem fp_eX9_of_0_x_x_fp_eX1_beginFromNow_5 (a b : Nat) (h : fp_eX1_beginFromNow_5 a b = true) : fp_eX9_of_0_x_x a b = true := pvfp_sub (l1 := fpL_eX1_beginFromNow_5) (l2 := fpL_eX9_of_0_x_x) (by decide) a b h
set_option maxHeartbeats 4000000 in
set_option maxRecDepth 10000 in
theorem se_X9_of_0_x_x (M : pvM) (hok : pvOk M) (n1 : Int32) (n2 : Int32) (d : Nat) : PW 189 d (0, [some (pvR 0), some (pvI n1), some (pvI n2), none], [], M) (fun r X => (∃ x : Int32, r = some (pvI x) ∧ True) ∧ pvOk X ∧ pvFr fp_eX9_of_0_x_x M X ∧ yAn (yGof n1 n2) r M X) := by
  have hT : pvdom 189 = pvD_189 := rfl
  refine pw_blk hT 3 (S' := (5, [some (pvR 0), some (pvI n1), some (pvI n2), none], [pvI n1, pvR 8], M)) rfl ⟨trivial, rfl, trivial, trivial⟩ ?_
  refine pw_callT hT (as := [pvR 8, pvI n1]) (lo1 := [some (pvR 8), some (pvI n1)]) (d1 := d) (rest := []) rfl rfl rfl rfl rfl (fun _ => rfl) (Nat.zero_le _) rfl rfl rfl (sf_X7_has_8_x M hok n1 d) ?_
  by_cases c6_ : n1 < 0
  · refine pw_eqI (if_pos c6_) ?_
    have b7_ : (-2147483648) ≤ Int32.toInt n1 ∧ Int32.toInt n1 ≤ (-1) := zr_lt_l (-1) c6_ (zbnd n1) (show 0 ≤ Int32.toInt 0 ∧ Int32.toInt 0 ≤ 0 from (by decide)) (by decide)
    show PW 189 d (8, [some (pvR 0), some (pvI n1), some (pvI n2), none], [pvI 0], M) _
    refine pw_ifn hT (c := 0 = 0) rfl rfl (fun c8_ => absurd (by decide) c8_) (fun c8_ => ?_)
    refine pw_blk hT 1 (S' := (12, [some (pvR 0), some (pvI n1), some (pvI n2), none], [pvI (-1)], M)) rfl ⟨trivial, trivial⟩ ?_
    exact pw_ret hT rfl (r := some (pvI (-1))) (M' := M) ⟨rfl, rfl⟩ ⟨⟨_, rfl, trivial⟩, hok, pvfr_0, (yGof_n (zvl_l c6_) (by decide))⟩
  · refine pw_eqI (if_neg c6_) ?_
    have b9_ : 0 ≤ Int32.toInt n1 ∧ Int32.toInt n1 ≤ 2147483647 := zr_nlt_l 0 c6_ (zbnd n1) (show 0 ≤ Int32.toInt 0 ∧ Int32.toInt 0 ≤ 0 from (by decide)) (by decide)
    have b10_ : 0 ≤ Int32.toInt (M.1 8 1) ∧ Int32.toInt (M.1 8 1) ≤ 7 := pvok_r hok 8 1 rfl
    by_cases c11_ : (M.1 8 1) ≤ n1
    · refine pw_eqI (if_pos c11_) ?_
      have d12_ : Int32.toInt (M.1 8 1) ≤ Int32.toInt n1 := (zi_le _ _).mp c11_
      show PW 189 d (8, [some (pvR 0), some (pvI n1), some (pvI n2), none], [pvI 0], M) _
      refine pw_ifn hT (c := 0 = 0) rfl rfl (fun c13_ => absurd (by decide) c13_) (fun c13_ => ?_)
      refine pw_blk hT 1 (S' := (12, [some (pvR 0), some (pvI n1), some (pvI n2), none], [pvI (-1)], M)) rfl ⟨trivial, trivial⟩ ?_
      exact pw_ret hT rfl (r := some (pvI (-1))) (M' := M) ⟨rfl, rfl⟩ ⟨⟨_, rfl, trivial⟩, hok, pvfr_0, (yGof_n (zvl_u c11_) (by decide))⟩
    · refine pw_eqI (if_neg c11_) ?_
      have b14_ : 1 ≤ Int32.toInt (M.1 8 1) ∧ Int32.toInt (M.1 8 1) ≤ 7 := zr_nle_l 1 c11_ b10_ b9_ (by decide)
      have b15_ : 0 ≤ Int32.toInt n1 ∧ Int32.toInt n1 ≤ 6 := zr_nle_r 6 c11_ b9_ b14_ (by decide)
      have d16_ : Int32.toInt (M.1 8 1) > Int32.toInt n1 := Int.not_le.mp ((not_congr (zi_le _ _)).mp c11_)
      show PW 189 d (8, [some (pvR 0), some (pvI n1), some (pvI n2), none], [pvI 1], M) _
      refine pw_ifn hT (c := 1 = 0) rfl rfl (fun c17_ => ?_) (fun c17_ => absurd c17_ (by decide))
      refine pw_blkr hT 5 (pc := 22) (lo := [some (pvR 0), some (pvI n1), some (pvI n2), none]) (st := []) (M := M) (z := (pvbs 10 + Int32.toNatClampNeg n1)) rfl ⟨trivial, rfl, rfl, trivial, ⟨rfl, (zr_in (n := 7) b15_ (by decide) (by decide))⟩, trivial⟩ (fun q18_ e20_ => ?_)
      have k19_ : pvkl q18_ = 3 := pvel_10 (zr_in (n := 7) b15_ (by decide) (by decide)) e20_
      subst e20_
      refine pw_blk hT 2 (S' := (24, [some (pvR 0), some (pvI n1), some (pvI n2), some (pvR (pvbs 10 + Int32.toNatClampNeg n1))], [pvI n2], M)) rfl ⟨trivial, trivial, trivial⟩ ?_
      refine pw_sw hT rfl rfl ?_
      refine And.intro (fun c21_ => ?_) (fun c21_ => ?_)
      · show PW 189 d (72, [some (pvR 0), some (pvI n1), some (pvI n2), some (pvR (pvbs 10 + Int32.toNatClampNeg n1))], [], M) _
        have b22_ : 0 ≤ Int32.toInt n2 ∧ Int32.toInt n2 ≤ 0 := (by have u0 := (zbnd n2); have u1 := (zi_eq _ _).mp c21_; have u2 := (show 0 ≤ Int32.toInt 0 ∧ Int32.toInt 0 ≤ 0 from (by decide)); omega)
        have b23_ : 0 ≤ Int32.toInt (M.1 (pvbs 10 + Int32.toNatClampNeg n1) 0) ∧ Int32.toInt (M.1 (pvbs 10 + Int32.toNatClampNeg n1) 0) ≤ 6 := pvok_r hok (pvbs 10 + Int32.toNatClampNeg n1) 0 ((pvrg_o 0 k19_ (by decide) (by decide)).trans rfl)
        refine pw_blk hT 2 (S' := (76, [some (pvR 0), some (pvI n1), some (pvI n2), some (pvR (pvbs 10 + Int32.toNatClampNeg n1))], [pvI (M.1 (pvbs 10 + Int32.toNatClampNeg n1) 0)], M)) rfl ⟨trivial, k19_, trivial⟩ ?_
        exact pw_ret hT rfl (r := some (pvI (M.1 (pvbs 10 + Int32.toNatClampNeg n1) 0))) (M' := M) ⟨rfl, rfl⟩ ⟨⟨_, rfl, trivial⟩, hok, pvfr_0, (yGof_c (zvl_y c6_ c11_) (Or.inl ⟨(by have u := b22_; omega), rfl⟩))⟩
      · refine And.intro (fun c24_ => ?_) (fun c24_ => ?_)
        · show PW 189 d (77, [some (pvR 0), some (pvI n1), some (pvI n2), some (pvR (pvbs 10 + Int32.toNatClampNeg n1))], [], M) _
          have b25_ : 1 ≤ Int32.toInt n2 ∧ Int32.toInt n2 ≤ 1 := (by have u0 := (zbnd n2); have u1 := (zi_eq _ _).mp c24_; have u2 := (show 1 ≤ Int32.toInt 1 ∧ Int32.toInt 1 ≤ 1 from (by decide)); omega)
          have b26_ : 0 ≤ Int32.toInt (M.1 (pvbs 10 + Int32.toNatClampNeg n1) 1) ∧ Int32.toInt (M.1 (pvbs 10 + Int32.toNatClampNeg n1) 1) ≤ 9 := pvok_r hok (pvbs 10 + Int32.toNatClampNeg n1) 1 ((pvrg_o 1 k19_ (by decide) (by decide)).trans rfl)
          refine pw_blk hT 2 (S' := (81, [some (pvR 0), some (pvI n1), some (pvI n2), some (pvR (pvbs 10 + Int32.toNatClampNeg n1))], [pvI (M.1 (pvbs 10 + Int32.toNatClampNeg n1) 1)], M)) rfl ⟨trivial, k19_, trivial⟩ ?_
          exact pw_ret hT rfl (r := some (pvI (M.1 (pvbs 10 + Int32.toNatClampNeg n1) 1))) (M' := M) ⟨rfl, rfl⟩ ⟨⟨_, rfl, trivial⟩, hok, pvfr_0, (yGof_c (zvl_y c6_ c11_) (Or.inr (Or.inl ⟨(by have u := b25_; omega), rfl⟩)))⟩
        · refine And.intro (fun c27_ => ?_) (fun c27_ => ?_)
          · show PW 189 d (82, [some (pvR 0), some (pvI n1), some (pvI n2), some (pvR (pvbs 10 + Int32.toNatClampNeg n1))], [], M) _
            have b28_ : 2 ≤ Int32.toInt n2 ∧ Int32.toInt n2 ≤ 2 := (by have u0 := (zbnd n2); have u1 := (zi_eq _ _).mp c27_; have u2 := (show 2 ≤ Int32.toInt 2 ∧ Int32.toInt 2 ≤ 2 from (by decide)); omega)
            have b29_ : 0 ≤ Int32.toInt (M.1 (pvbs 10 + Int32.toNatClampNeg n1) 2) ∧ Int32.toInt (M.1 (pvbs 10 + Int32.toNatClampNeg n1) 2) ≤ 3 := pvok_r hok (pvbs 10 + Int32.toNatClampNeg n1) 2 ((pvrg_o 2 k19_ (by decide) (by decide)).trans rfl)
            refine pw_blk hT 2 (S' := (86, [some (pvR 0), some (pvI n1), some (pvI n2), some (pvR (pvbs 10 + Int32.toNatClampNeg n1))], [pvI (M.1 (pvbs 10 + Int32.toNatClampNeg n1) 2)], M)) rfl ⟨trivial, k19_, trivial⟩ ?_
            exact pw_ret hT rfl (r := some (pvI (M.1 (pvbs 10 + Int32.toNatClampNeg n1) 2))) (M' := M) ⟨rfl, rfl⟩ ⟨⟨_, rfl, trivial⟩, hok, pvfr_0, (yGof_c (zvl_y c6_ c11_) (Or.inr (Or.inr (Or.inl ⟨(by have u := b28_; omega), rfl⟩))))⟩
          · refine And.intro (fun c30_ => ?_) (fun c30_ => ?_)
            · show PW 189 d (87, [some (pvR 0), some (pvI n1), some (pvI n2), some (pvR (pvbs 10 + Int32.toNatClampNeg n1))], [], M) _
              have b31_ : 3 ≤ Int32.toInt n2 ∧ Int32.toInt n2 ≤ 3 := (by have u0 := (zbnd n2); have u1 := (zi_eq _ _).mp c30_; have u2 := (show 3 ≤ Int32.toInt 3 ∧ Int32.toInt 3 ≤ 3 from (by decide)); omega)
              have b32_ : 0 ≤ Int32.toInt (M.1 (pvbs 10 + Int32.toNatClampNeg n1) 3) ∧ Int32.toInt (M.1 (pvbs 10 + Int32.toNatClampNeg n1) 3) ≤ 4 := pvok_r hok (pvbs 10 + Int32.toNatClampNeg n1) 3 ((pvrg_o 3 k19_ (by decide) (by decide)).trans rfl)
              refine pw_blk hT 2 (S' := (91, [some (pvR 0), some (pvI n1), some (pvI n2), some (pvR (pvbs 10 + Int32.toNatClampNeg n1))], [pvI (M.1 (pvbs 10 + Int32.toNatClampNeg n1) 3)], M)) rfl ⟨trivial, k19_, trivial⟩ ?_
              exact pw_ret hT rfl (r := some (pvI (M.1 (pvbs 10 + Int32.toNatClampNeg n1) 3))) (M' := M) ⟨rfl, rfl⟩ ⟨⟨_, rfl, trivial⟩, hok, pvfr_0, (yGof_c (zvl_y c6_ c11_) (Or.inr (Or.inr (Or.inr (Or.inl ⟨(by have u := b31_; omega), rfl⟩)))))⟩
            · refine And.intro (fun c33_ => ?_) (fun c33_ => ?_)
              · show PW 189 d (92, [some (pvR 0), some (pvI n1), some (pvI n2), some (pvR (pvbs 10 + Int32.toNatClampNeg n1))], [], M) _
                have b34_ : 4 ≤ Int32.toInt n2 ∧ Int32.toInt n2 ≤ 4 := (by have u0 := (zbnd n2); have u1 := (zi_eq _ _).mp c33_; have u2 := (show 4 ≤ Int32.toInt 4 ∧ Int32.toInt 4 ≤ 4 from (by decide)); omega)
                have b35_ : 0 ≤ Int32.toInt (M.1 (pvbs 10 + Int32.toNatClampNeg n1) 4) ∧ Int32.toInt (M.1 (pvbs 10 + Int32.toNatClampNeg n1) 4) ≤ 9 := pvok_r hok (pvbs 10 + Int32.toNatClampNeg n1) 4 ((pvrg_o 4 k19_ (by decide) (by decide)).trans rfl)
                refine pw_blk hT 2 (S' := (96, [some (pvR 0), some (pvI n1), some (pvI n2), some (pvR (pvbs 10 + Int32.toNatClampNeg n1))], [pvI (M.1 (pvbs 10 + Int32.toNatClampNeg n1) 4)], M)) rfl ⟨trivial, k19_, trivial⟩ ?_
                exact pw_ret hT rfl (r := some (pvI (M.1 (pvbs 10 + Int32.toNatClampNeg n1) 4))) (M' := M) ⟨rfl, rfl⟩ ⟨⟨_, rfl, trivial⟩, hok, pvfr_0, (yGof_c (zvl_y c6_ c11_) (Or.inr (Or.inr (Or.inr (Or.inr (Or.inl ⟨(by have u := b34_; omega), rfl⟩))))))⟩
              · refine And.intro (fun c36_ => ?_) (fun c36_ => ?_)
                · show PW 189 d (97, [some (pvR 0), some (pvI n1), some (pvI n2), some (pvR (pvbs 10 + Int32.toNatClampNeg n1))], [], M) _
                  have b37_ : 5 ≤ Int32.toInt n2 ∧ Int32.toInt n2 ≤ 5 := (by have u0 := (zbnd n2); have u1 := (zi_eq _ _).mp c36_; have u2 := (show 5 ≤ Int32.toInt 5 ∧ Int32.toInt 5 ≤ 5 from (by decide)); omega)
                  have b38_ : 0 ≤ Int32.toInt (M.1 (pvbs 10 + Int32.toNatClampNeg n1) 5) ∧ Int32.toInt (M.1 (pvbs 10 + Int32.toNatClampNeg n1) 5) ≤ 1 := pvok_r hok (pvbs 10 + Int32.toNatClampNeg n1) 5 ((pvrg_o 5 k19_ (by decide) (by decide)).trans rfl)
                  refine pw_blk hT 2 (S' := (101, [some (pvR 0), some (pvI n1), some (pvI n2), some (pvR (pvbs 10 + Int32.toNatClampNeg n1))], [pvI (M.1 (pvbs 10 + Int32.toNatClampNeg n1) 5)], M)) rfl ⟨trivial, k19_, trivial⟩ ?_
                  refine pw_if hT (c := (M.1 (pvbs 10 + Int32.toNatClampNeg n1) 5) = 0) rfl rfl (fun c39_ => ?_) (fun c39_ => ?_)
                  · have b40_ : 0 ≤ Int32.toInt (M.1 (pvbs 10 + Int32.toNatClampNeg n1) 5) ∧ Int32.toInt (M.1 (pvbs 10 + Int32.toNatClampNeg n1) 5) ≤ 0 := (by have u0 := b38_; have u1 := (zi_eq _ _).mp c39_; have u2 := (show 0 ≤ Int32.toInt 0 ∧ Int32.toInt 0 ≤ 0 from (by decide)); omega)
                    refine pw_blk hT 1 (S' := (109, [some (pvR 0), some (pvI n1), some (pvI n2), some (pvR (pvbs 10 + Int32.toNatClampNeg n1))], [pvI 0], M)) rfl ⟨trivial, trivial⟩ ?_
                    exact pw_ret hT rfl (r := some (pvI 0)) (M' := M) ⟨rfl, rfl⟩ ⟨⟨_, rfl, trivial⟩, hok, pvfr_0, (yGof_c (zvl_y c6_ c11_) (Or.inr (Or.inr (Or.inr (Or.inr (Or.inr (Or.inl ⟨(by have u := b37_; omega), (by rw [if_pos c39_]; decide)⟩)))))))⟩
                  · have b41_ : 1 ≤ Int32.toInt (M.1 (pvbs 10 + Int32.toNatClampNeg n1) 5) ∧ Int32.toInt (M.1 (pvbs 10 + Int32.toNatClampNeg n1) 5) ≤ 1 := (by have u0 := b38_; have u1 := (not_congr (zi_eq _ _)).mp c39_; have u2 := (show 0 ≤ Int32.toInt 0 ∧ Int32.toInt 0 ≤ 0 from (by decide)); omega)
                    refine pw_blk hT 2 (S' := (109, [some (pvR 0), some (pvI n1), some (pvI n2), some (pvR (pvbs 10 + Int32.toNatClampNeg n1))], [pvI 1], M)) rfl ⟨trivial, trivial, trivial⟩ ?_
                    exact pw_ret hT rfl (r := some (pvI 1)) (M' := M) ⟨rfl, rfl⟩ ⟨⟨_, rfl, trivial⟩, hok, pvfr_0, (yGof_c (zvl_y c6_ c11_) (Or.inr (Or.inr (Or.inr (Or.inr (Or.inr (Or.inl ⟨(by have u := b37_; omega), (by rw [if_neg c39_]; decide)⟩)))))))⟩
                · refine And.intro (fun c42_ => ?_) (fun c42_ => ?_)
                  · show PW 189 d (110, [some (pvR 0), some (pvI n1), some (pvI n2), some (pvR (pvbs 10 + Int32.toNatClampNeg n1))], [], M) _
                    have b43_ : 6 ≤ Int32.toInt n2 ∧ Int32.toInt n2 ≤ 6 := (by have u0 := (zbnd n2); have u1 := (zi_eq _ _).mp c42_; have u2 := (show 6 ≤ Int32.toInt 6 ∧ Int32.toInt 6 ≤ 6 from (by decide)); omega)
                    have b44_ : 0 ≤ Int32.toInt (M.1 8 6) ∧ Int32.toInt (M.1 8 6) ≤ 3 := pvok_r hok 8 6 rfl
                    have b45_ : 0 ≤ Int32.toInt (M.1 8 7) ∧ Int32.toInt (M.1 8 7) ≤ 4 := pvok_r hok 8 7 rfl
                    have b46_ : 15 ≤ Int32.toInt (M.1 8 8) ∧ Int32.toInt (M.1 8 8) ≤ 23 := pvok_r hok 8 8 rfl
                    refine pw_blkr hT 10 (pc := 132) (lo := [some (pvR 0), some (pvI n1), some (pvI n2), some (pvR (pvbs 10 + Int32.toNatClampNeg n1))]) (st := [pvI (M.1 8 7), pvI (M.1 8 6), pvR (pvbs 10 + Int32.toNatClampNeg n1)]) (M := M) (z := (pvhp (M.1 8 8))) rfl ⟨trivial, trivial, rfl, rfl, trivial, rfl, rfl, trivial, rfl, rfl, trivial⟩ (fun q47_ e49_ => ?_)
                    have k48_ : pvkl q47_ = 2 := pvhp_k b46_ e49_
                    subst e49_
                    have b50_ : 0 ≤ Int32.toInt (M.1 (pvhp (M.1 8 8)) 0) ∧ Int32.toInt (M.1 (pvhp (M.1 8 8)) 0) ≤ 99 := pvok_r hok (pvhp (M.1 8 8)) 0 ((pvrg_o 0 k48_ (by decide) (by decide)).trans rfl)
                    refine pw_blk hT 1 (S' := (135, [some (pvR 0), some (pvI n1), some (pvI n2), some (pvR (pvbs 10 + Int32.toNatClampNeg n1))], [pvI (M.1 (pvhp (M.1 8 8)) 0), pvI (M.1 8 7), pvI (M.1 8 6), pvR (pvbs 10 + Int32.toNatClampNeg n1)], M)) rfl ⟨k48_, trivial⟩ ?_
                    refine pw_callGp hT (as := [pvR (pvbs 10 + Int32.toNatClampNeg n1), pvI (M.1 8 6), pvI (M.1 8 7), pvI (M.1 (pvhp (M.1 8 8)) 0)]) (lo1 := [some (pvR (pvbs 10 + Int32.toNatClampNeg n1)), some (pvI (M.1 8 6)), some (pvI (M.1 8 7)), some (pvI (M.1 (pvhp (M.1 8 8)) 0))]) (d1 := d) (rest := []) rfl rfl rfl rfl rfl (fun _ => k19_) (Nat.zero_le _) rfl rfl rfl (se_X4_wayFrom_x_x_x_x M hok (pvbs 10 + Int32.toNatClampNeg n1) (M.1 8 6) (M.1 8 7) (M.1 (pvhp (M.1 8 8)) 0) k19_ b44_ b45_ b50_ d) (fun x51_ b53_ => ?_)
                    obtain ⟨b56_, d57_⟩ := b53_
                    exact pw_ret hT rfl (r := some (pvI x51_)) (M' := M) ⟨rfl, rfl⟩ ⟨⟨_, rfl, trivial⟩, hok, pvfr_0, (yGof_c (zvl_y c6_ c11_) (Or.inr (Or.inr (Or.inr (Or.inr (Or.inr (Or.inr (Or.inl ⟨(by have u := b43_; omega), d57_⟩))))))))⟩
                  · refine And.intro (fun c58_ => ?_) (fun c58_ => ?_)
                    · show PW 189 d (139, [some (pvR 0), some (pvI n1), some (pvI n2), some (pvR (pvbs 10 + Int32.toNatClampNeg n1))], [], M) _
                      have b59_ : 7 ≤ Int32.toInt n2 ∧ Int32.toInt n2 ≤ 7 := (by have u0 := (zbnd n2); have u1 := (zi_eq _ _).mp c58_; have u2 := (show 7 ≤ Int32.toInt 7 ∧ Int32.toInt 7 ≤ 7 from (by decide)); omega)
                      refine pw_blk hT 2 (S' := (143, [some (pvR 0), some (pvI n1), some (pvI n2), some (pvR (pvbs 10 + Int32.toNatClampNeg n1))], [pvR 5], M)) rfl ⟨trivial, rfl, trivial⟩ ?_
                      refine pw_callVd hT (as := [pvR 5]) (lo1 := [some (pvR 5)]) (d1 := d) (rest := []) rfl rfl rfl rfl rfl (fun _ => rfl) (Nat.zero_le _) rfl rfl rfl (se_X1_beginFromNow_5 M hok d) (fun M62_ o64_ g65_ d60_ => ?_)
                      have f66_ : pvFr fp_eX9_of_0_x_x M M62_ := pvfr_t g65_ pvfr_0 fp_eX9_of_0_x_x_fp_eX1_beginFromNow_5
                      have b67_ : 0 ≤ Int32.toInt (M62_.1 8 4) ∧ Int32.toInt (M62_.1 8 4) ≤ 9999 := pvok_r o64_ 8 4 rfl
                      obtain ⟨q69_, b68_⟩ : (Int32.toInt ((M62_.1 8 4) + 1) = Int32.toInt (M62_.1 8 4) + 1) ∧ (1 ≤ Int32.toInt ((M62_.1 8 4) + 1) ∧ Int32.toInt ((M62_.1 8 4) + 1) ≤ 10000) := zadd_k (M62_.1 8 4) 1 1 1 10000 b67_ (by decide) (by decide) (by decide) (by decide) (by decide)
                      refine pw_blk hT 11 (S' := (167, [some (pvR 0), some (pvI n1), some (pvI n2), some (pvR (pvbs 10 + Int32.toNatClampNeg n1))], [pvI ((M62_.1 8 4) + 1), pvI (M62_.1 8 4), pvI n1, pvR 5], M62_)) rfl ⟨trivial, rfl, trivial, trivial, rfl, rfl, trivial, rfl, rfl, trivial, trivial, trivial⟩ ?_
                      refine pw_callGp hT (as := [pvR 5, pvI n1, pvI (M62_.1 8 4), pvI ((M62_.1 8 4) + 1)]) (lo1 := [some (pvR 5), some (pvI n1), some (pvI (M62_.1 8 4)), some (pvI ((M62_.1 8 4) + 1)), none, none, none, none]) (d1 := d) (rest := []) rfl rfl rfl rfl rfl (fun _ => rfl) (Nat.zero_le _) rfl rfl rfl (se_X1_harmOf_5_x_x_x M62_ o64_ n1 (M62_.1 8 4) ((M62_.1 8 4) + 1) b15_ (zr_wide b67_ (by decide) (by decide)) (zr_wide b68_ (by decide) (by decide)) d) (fun x70_ b72_ => ?_)
                      obtain ⟨b75_, d76_⟩ := b72_
                      exact pw_ret hT rfl (r := some (pvI x70_)) (M' := M62_) ⟨rfl, rfl⟩ ⟨⟨_, rfl, trivial⟩, o64_, f66_, (yGof_7 hok o64_ (zvl_y c6_ c11_) d60_ (by have u := b59_; omega) d76_ rfl)⟩
                    · show PW 189 d (171, [some (pvR 0), some (pvI n1), some (pvI n2), some (pvR (pvbs 10 + Int32.toNatClampNeg n1))], [], M) _
                      refine pw_blk hT 1 (S' := (172, [some (pvR 0), some (pvI n1), some (pvI n2), some (pvR (pvbs 10 + Int32.toNatClampNeg n1))], [pvI (-1)], M)) rfl ⟨trivial, trivial⟩ ?_
                      exact pw_ret hT rfl (r := some (pvI (-1))) (M' := M) ⟨rfl, rfl⟩ ⟨⟨_, rfl, trivial⟩, hok, pvfr_0, (yGof_c (zvl_y c6_ c11_) (Or.inr (Or.inr (Or.inr (Or.inr (Or.inr (Or.inr (Or.inr (⟨(by have u := (zbnd n2); have w0 := (not_congr (zi_eq _ _)).mp c21_; have z0 : Int32.toInt 0 = 0 := (by decide); have w1 := (not_congr (zi_eq _ _)).mp c24_; have z1 : Int32.toInt 1 = 1 := (by decide); have w2 := (not_congr (zi_eq _ _)).mp c27_; have z2 : Int32.toInt 2 = 2 := (by decide); have w3 := (not_congr (zi_eq _ _)).mp c30_; have z3 : Int32.toInt 3 = 3 := (by decide); have w4 := (not_congr (zi_eq _ _)).mp c33_; have z4 : Int32.toInt 4 = 4 := (by decide); have w5 := (not_congr (zi_eq _ _)).mp c36_; have z5 : Int32.toInt 5 = 5 := (by decide); have w6 := (not_congr (zi_eq _ _)).mp c42_; have z6 : Int32.toInt 6 = 6 := (by decide); have w7 := (not_congr (zi_eq _ _)).mp c58_; have z7 : Int32.toInt 7 = 7 := (by decide); omega), (by decide)⟩)))))))))⟩
