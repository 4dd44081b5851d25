set_option maxHeartbeats 4000000 in
set_option maxRecDepth 10000 in
theorem sf_X1_cost_5 (M : pvM) (hok : pvOk M) (d : Nat) : PW 103 d (0, [some (pvR 5)], [], M) (fun r X => (∃ x : Int32, r = some (pvI x) ∧ 0 ≤ Int32.toInt x ∧ Int32.toInt x ≤ 35000000) ∧ X = M) := by
  have hT : pvdom 103 = pvD_103 := rfl
  have b1_ : 0 ≤ Int32.toInt (M.1 8 4) ∧ Int32.toInt (M.1 8 4) ≤ 9999 := pvok_r hok 8 4 rfl
  refine pw_blk hT 5 (S' := (9, [some (pvR 5)], [pvR 5, pvI (M.1 8 4), pvR 5], M)) rfl ⟨trivial, trivial, rfl, rfl, trivial, trivial⟩ ?_
  refine pw_callGp hT (as := [pvR 5]) (lo1 := [some (pvR 5)]) (d1 := d) (rest := [pvI (M.1 8 4), pvR 5]) rfl rfl rfl rfl rfl (fun _ => rfl) (Nat.zero_le _) rfl rfl rfl (sf_X1_stormEnd_5 M hok d) (fun x2_ b4_ => ?_)
  refine pw_callGp hT (as := [pvR 5, pvI (M.1 8 4), pvI x2_]) (lo1 := [some (pvR 5), some (pvI (M.1 8 4)), some (pvI x2_), none, none]) (d1 := d) (rest := []) rfl rfl rfl rfl rfl (fun _ => rfl) (Nat.zero_le _) rfl rfl rfl (sf_X1_harmOfAll_5_x_x M hok (M.1 8 4) x2_ (zr_wide b1_ (by decide) (by decide)) (zr_wide b4_ (by decide) (by decide)) d) (fun x7_ b9_ => ?_)
  exact pw_ret hT rfl (r := some (pvI x7_)) (M' := M) ⟨rfl, rfl⟩ ⟨⟨_, rfl, b9_⟩, rfl⟩
def fpL_X9_begin_0_x : List (Nat × Nat × Nat) := [(0, 12, 0), (0, 13, 0), (0, 14, 0), (0, 5, 2), (0, 5, 3), (1, 112, 0)]
def fp_X9_begin_0_x (q k : Nat) : Bool := pvfp fpL_X9_begin_0_x q k
theorem fp_X9_begin_0_x_fp_X1_beginFromNow_5 (a b : Nat) (h : fp_X1_beginFromNow_5 a b = true) : fp_X9_begin_0_x a b = true := pvfp_sub (l1 := fpL_X1_beginFromNow_5) (l2 := fpL_X9_begin_0_x) (by decide) a b h
theorem fp_X9_begin_0_x_fp_X1_goRound_5_x (a b : Nat) (h : fp_X1_goRound_5_x a b = true) : fp_X9_begin_0_x a b = true := pvfp_sub (l1 := fpL_X1_goRound_5_x) (l2 := fpL_X9_begin_0_x) (by decide) a b h
set_option maxHeartbeats 4000000 in
set_option maxRecDepth 10000 in
theorem sf_X9_begin_0_x (M : pvM) (hok : pvOk M) (n1 : Int32) (d : Nat) : PW 169 d (0, [some (pvR 0), some (pvI n1), none, none, none, none], [], M) (fun r X => (∃ x : Int32, r = some (pvI x) ∧ (-1) ≤ Int32.toInt x ∧ Int32.toInt x ≤ 2147483647) ∧ pvOk X ∧ pvFr fp_X9_begin_0_x M X) := by
  have hT : pvdom 169 = pvD_169 := rfl
  refine pw_blk hT 3 (S' := (3, [some (pvR 0), some (pvI n1), none, none, none, none], [pvI 1, pvI 0, pvI n1], M)) rfl ⟨trivial, trivial, trivial, trivial⟩ ?_
  refine pw_callT hT (as := [pvI n1, pvI 0, pvI 1]) (lo1 := [some (pvI n1), some (pvI 0), some (pvI 1)]) (d1 := d) (rest := []) rfl rfl rfl rfl rfl (fun h => absurd h (by decide)) (Nat.zero_le _) rfl rfl rfl (sf_X9_within_x_x_x M hok n1 0 1 d) ?_
  by_cases c6_ : n1 < 0
  · refine pw_eqI (if_pos c6_) ?_
    have b7_ : (-2147483648) ≤ Int32.toInt n1 ∧ Int32.toInt n1 ≤ (-1) := zr_lt_l (-1) c6_ (zbnd n1) (show 0 ≤ Int32.toInt 0 ∧ Int32.toInt 0 ≤ 0 from (by decide)) (by decide)
    show PW 169 d (6, [some (pvR 0), some (pvI n1), none, none, none, none], [pvI 0], M) _
    refine pw_ifn hT (c := 0 = 0) rfl rfl (fun c8_ => absurd (by decide) c8_) (fun c8_ => ?_)
    refine pw_blk hT 1 (S' := (10, [some (pvR 0), some (pvI n1), none, none, none, none], [pvI (-1)], M)) rfl ⟨trivial, trivial⟩ ?_
    exact pw_ret hT rfl (r := some (pvI (-1))) (M' := M) ⟨rfl, rfl⟩ ⟨⟨_, rfl, (zr_wide (show (-1) ≤ Int32.toInt (-1) ∧ Int32.toInt (-1) ≤ (-1) from (by decide)) (by decide) (by decide))⟩, hok, pvfr_0⟩
  · refine pw_eqI (if_neg c6_) ?_
    have b9_ : 0 ≤ Int32.toInt n1 ∧ Int32.toInt n1 ≤ 2147483647 := zr_nlt_l 0 c6_ (zbnd n1) (show 0 ≤ Int32.toInt 0 ∧ Int32.toInt 0 ≤ 0 from (by decide)) (by decide)
    by_cases c10_ : 1 < n1
    · refine pw_eqI (if_pos c10_) ?_
      have b11_ : 2 ≤ Int32.toInt n1 ∧ Int32.toInt n1 ≤ 2147483647 := zr_lt_r 2 c10_ b9_ (show 1 ≤ Int32.toInt 1 ∧ Int32.toInt 1 ≤ 1 from (by decide)) (by decide)
      show PW 169 d (6, [some (pvR 0), some (pvI n1), none, none, none, none], [pvI 0], M) _
      refine pw_ifn hT (c := 0 = 0) rfl rfl (fun c12_ => absurd (by decide) c12_) (fun c12_ => ?_)
      refine pw_blk hT 1 (S' := (10, [some (pvR 0), some (pvI n1), none, none, none, none], [pvI (-1)], M)) rfl ⟨trivial, trivial⟩ ?_
      exact pw_ret hT rfl (r := some (pvI (-1))) (M' := M) ⟨rfl, rfl⟩ ⟨⟨_, rfl, (zr_wide (show (-1) ≤ Int32.toInt (-1) ∧ Int32.toInt (-1) ≤ (-1) from (by decide)) (by decide) (by decide))⟩, hok, pvfr_0⟩
    · refine pw_eqI (if_neg c10_) ?_
      have b13_ : 0 ≤ Int32.toInt n1 ∧ Int32.toInt n1 ≤ 1 := zr_nlt_r 1 c10_ b9_ (show 1 ≤ Int32.toInt 1 ∧ Int32.toInt 1 ≤ 1 from (by decide)) (by decide)
      show PW 169 d (6, [some (pvR 0), some (pvI n1), none, none, none, none], [pvI 1], M) _
      refine pw_ifn hT (c := 1 = 0) rfl rfl (fun c14_ => ?_) (fun c14_ => absurd c14_ (by decide))
      refine pw_blk hT 2 (S' := (15, [some (pvR 0), some (pvI n1), none, none, none, none], [pvR 5], M)) rfl ⟨trivial, rfl, trivial⟩ ?_
      refine pw_callV hT (as := [pvR 5]) (lo1 := [some (pvR 5)]) (d1 := d) (rest := []) rfl rfl rfl rfl rfl (fun _ => rfl) (Nat.zero_le _) rfl rfl rfl (sf_X1_beginFromNow_5 M hok d) (fun M16_ o18_ g19_ => ?_)
      have f20_ : pvFr fp_X9_begin_0_x M M16_ := pvfr_t g19_ pvfr_0 fp_X9_begin_0_x_fp_X1_beginFromNow_5
      refine pw_blk hT 3 (S' := (23, [some (pvR 0), some (pvI n1), none, none, none, none], [pvI 0, pvR 5], M16_)) rfl ⟨trivial, rfl, trivial, trivial⟩ ?_
      refine pw_callG hT (as := [pvR 5, pvI 0]) (lo1 := [some (pvR 5), some (pvI 0)]) (d1 := d) (rest := []) rfl rfl rfl rfl rfl (fun _ => rfl) (Nat.zero_le _) rfl rfl rfl (sf_X1_goRound_5_x M16_ o18_ 0 (zr_wide (show 0 ≤ Int32.toInt 0 ∧ Int32.toInt 0 ≤ 0 from (by decide)) (by decide) (by decide)) d) (fun x21_ M22_ b23_ o24_ g25_ => ?_)
      have f26_ : pvFr fp_X9_begin_0_x M M22_ := pvfr_t g25_ f20_ fp_X9_begin_0_x_fp_X1_goRound_5_x
      refine pw_blk hT 7 (S' := (34, [some (pvR 0), some (pvI n1), some (pvI 0), some (pvI (-1)), some (pvI 0), none], [], M22_)) rfl ⟨trivial, trivial, trivial, trivial, trivial, trivial, trivial, trivial⟩ ?_
      have hlz123_ : ∀ (nz123_ : Nat) (i2z123_ : Int32) (i3z123_ : Int32) (i4z123_ : Int32) (v5z123_ : Option pvV) (Mz123_ : pvM), (pvOk Mz123_) → (pvFr fp_X9_begin_0_x M Mz123_) → (0 ≤ Int32.toInt i2z123_ ∧ Int32.toInt i2z123_ ≤ 2147483647) → ((-1) ≤ Int32.toInt i3z123_ ∧ Int32.toInt i3z123_ ≤ 2147483647) → (0 ≤ Int32.toInt i4z123_ ∧ Int32.toInt i4z123_ ≤ 100) → ((101 - Int32.toInt i4z123_).toNat < nz123_) → PW 169 d (34, [some (pvR 0), some (pvI n1), some (pvI i2z123_), some (pvI i3z123_), some (pvI i4z123_), v5z123_], [], Mz123_) (fun r X => (∃ x : Int32, r = some (pvI x) ∧ (-1) ≤ Int32.toInt x ∧ Int32.toInt x ≤ 2147483647) ∧ pvOk X ∧ pvFr fp_X9_begin_0_x M X) := by
        intro nz123_
        induction nz123_ with
        | zero => intro i2z123_ i3z123_ i4z123_ v5z123_ Mz123_ oz123_ fz123_ h2z123_ h3z123_ h4z123_ hmz123_; exact absurd hmz123_ (Nat.not_lt_zero _)
        | succ nz123_ ihz123_ =>
          intro i2z123_ i3z123_ i4z123_ v5z123_ Mz123_ oz123_ fz123_ h2z123_ h3z123_ h4z123_ hmz123_
          refine pw_blk hT 2 (S' := (38, [some (pvR 0), some (pvI n1), some (pvI i2z123_), some (pvI i3z123_), some (pvI i4z123_), v5z123_], [pvI 99, pvI i4z123_], Mz123_)) rfl ⟨trivial, trivial, trivial⟩ ?_
          refine pw_ic hT (c := 99 < i4z123_) rfl rfl (fun c124_ => ?_) (fun c124_ => ?_)
          · have b125_ : 100 ≤ Int32.toInt i4z123_ ∧ Int32.toInt i4z123_ ≤ 100 := zr_lt_r 100 c124_ h4z123_ (show 99 ≤ Int32.toInt 99 ∧ Int32.toInt 99 ≤ 99 from (by decide)) (by decide)
            refine pw_blk hT 1 (S' := (78, [some (pvR 0), some (pvI n1), some (pvI i2z123_), some (pvI i3z123_), some (pvI i4z123_), v5z123_], [pvI n1], Mz123_)) rfl ⟨trivial, trivial⟩ ?_
            refine pw_ifn hT (c := n1 = 0) rfl rfl (fun c126_ => ?_) (fun c126_ => ?_)
            · have b127_ : 1 ≤ Int32.toInt n1 ∧ Int32.toInt n1 ≤ 1 := (by have u0 := b13_; have u1 := (not_congr (zi_eq _ _)).mp c126_; have u2 := (show 0 ≤ Int32.toInt 0 ∧ Int32.toInt 0 ≤ 0 from (by decide)); omega)
              refine pw_blk hT 1 (S' := (86, [some (pvR 0), some (pvI n1), some (pvI i2z123_), some (pvI i3z123_), some (pvI i4z123_), v5z123_], [pvI i3z123_], Mz123_)) rfl ⟨trivial, trivial⟩ ?_
              exact pw_ret hT rfl (r := some (pvI i3z123_)) (M' := Mz123_) ⟨rfl, rfl⟩ ⟨⟨_, rfl, h3z123_⟩, oz123_, fz123_⟩
            · have b128_ : 0 ≤ Int32.toInt n1 ∧ Int32.toInt n1 ≤ 0 := (by have u0 := b13_; have u1 := (zi_eq _ _).mp c126_; have u2 := (show 0 ≤ Int32.toInt 0 ∧ Int32.toInt 0 ≤ 0 from (by decide)); omega)
              refine pw_blk hT 2 (S' := (86, [some (pvR 0), some (pvI n1), some (pvI i2z123_), some (pvI i3z123_), some (pvI i4z123_), v5z123_], [pvI i2z123_], Mz123_)) rfl ⟨trivial, trivial, trivial⟩ ?_
              exact pw_ret hT rfl (r := some (pvI i2z123_)) (M' := Mz123_) ⟨rfl, rfl⟩ ⟨⟨_, rfl, (zr_wide h2z123_ (by decide) (by decide))⟩, oz123_, fz123_⟩
          · have b129_ : 0 ≤ Int32.toInt i4z123_ ∧ Int32.toInt i4z123_ ≤ 99 := zr_nlt_r 99 c124_ h4z123_ (show 99 ≤ Int32.toInt 99 ∧ Int32.toInt 99 ≤ 99 from (by decide)) (by decide)
            refine pw_blkw hT 4 (pc := 50) (lo := [some (pvR 0), some (pvI n1), some (pvI i2z123_), some (pvI i3z123_), some (pvI i4z123_), v5z123_]) (st := []) (M := pvu Mz123_ 5 2 i4z123_) rfl ⟨trivial, rfl, trivial, rfl, trivial⟩ (fun M130_ e131_ => ?_)
            have o132_ : pvOk M130_ := pvok_u2 e131_ oz123_ rfl (zr_wide b129_ (by decide) (by decide))
            have f133_ : pvFr fp_X9_begin_0_x M M130_ := pvfr_u e131_ fz123_ rfl
            refine pw_blk hT 2 (S' := (54, [some (pvR 0), some (pvI n1), some (pvI i2z123_), some (pvI i3z123_), some (pvI i4z123_), v5z123_], [pvR 5], M130_)) rfl ⟨trivial, rfl, trivial⟩ ?_
            refine pw_callGp hT (as := [pvR 5]) (lo1 := [some (pvR 5)]) (d1 := d) (rest := []) rfl rfl rfl rfl rfl (fun _ => rfl) (Nat.zero_le _) rfl rfl rfl (sf_X1_cost_5 M130_ o132_ d) (fun x134_ b136_ => ?_)
            refine pw_blk hT 3 (S' := (62, [some (pvR 0), some (pvI n1), some (pvI i2z123_), some (pvI i3z123_), some (pvI i4z123_), some (pvI x134_)], [pvI i3z123_, pvI x134_], M130_)) rfl ⟨trivial, trivial, trivial, trivial⟩ ?_
            refine pw_ic hT (c := x134_ ≤ i3z123_) rfl rfl (fun c139_ => ?_) (fun c139_ => ?_)
            · have b140_ : 0 ≤ Int32.toInt i3z123_ ∧ Int32.toInt i3z123_ ≤ 2147483647 := zr_le_r 0 c139_ h3z123_ b136_ (by decide)
              have d141_ : Int32.toInt x134_ ≤ Int32.toInt i3z123_ := (zi_le _ _).mp c139_
              obtain ⟨q143_, b142_⟩ : (Int32.toInt (i4z123_ + 1) = Int32.toInt i4z123_ + Int32.toInt 1) ∧ (1 ≤ Int32.toInt (i4z123_ + 1) ∧ Int32.toInt (i4z123_ + 1) ≤ 100) := zadd_r i4z123_ 1 1 100 b129_ (show 1 ≤ Int32.toInt 1 ∧ Int32.toInt 1 ≤ 1 from (by decide)) (by decide) (by decide) (by decide) (by decide)
              have u144_ : Int32.toInt 1 = 1 := by decide
              refine pw_blk hT 2 (S' := (34, [some (pvR 0), some (pvI n1), some (pvI i2z123_), some (pvI i3z123_), some (pvI (i4z123_ + 1)), some (pvI x134_)], [], M130_)) rfl ⟨trivial, trivial, trivial⟩ ?_
              exact ihz123_ i2z123_ i3z123_ (i4z123_ + 1) (some (pvI x134_)) M130_ o132_ f133_ h2z123_ (zr_wide b140_ (by decide) (by decide)) (zr_wide b142_ (by decide) (by decide)) (by omega)
            · have b145_ : (-1) ≤ Int32.toInt i3z123_ ∧ Int32.toInt i3z123_ ≤ 34999999 := zr_nle_r 34999999 c139_ h3z123_ b136_ (by decide)
              have d146_ : Int32.toInt x134_ > Int32.toInt i3z123_ := Int.not_le.mp ((not_congr (zi_le _ _)).mp c139_)
              obtain ⟨q148_, b147_⟩ : (Int32.toInt (i4z123_ + 1) = Int32.toInt i4z123_ + Int32.toInt 1) ∧ (1 ≤ Int32.toInt (i4z123_ + 1) ∧ Int32.toInt (i4z123_ + 1) ≤ 100) := zadd_r i4z123_ 1 1 100 b129_ (show 1 ≤ Int32.toInt 1 ∧ Int32.toInt 1 ≤ 1 from (by decide)) (by decide) (by decide) (by decide) (by decide)
              have u149_ : Int32.toInt 1 = 1 := by decide
              refine pw_blk hT 6 (S' := (34, [some (pvR 0), some (pvI n1), some (pvI i4z123_), some (pvI x134_), some (pvI (i4z123_ + 1)), some (pvI x134_)], [], M130_)) rfl ⟨trivial, trivial, trivial, trivial, trivial, trivial, trivial⟩ ?_
              exact ihz123_ i4z123_ x134_ (i4z123_ + 1) (some (pvI x134_)) M130_ o132_ f133_ (zr_wide b129_ (by decide) (by decide)) (zr_wide b136_ (by decide) (by decide)) (zr_wide b147_ (by decide) (by decide)) (by omega)
      exact hlz123_ _ 0 (-1) 0 none M22_ o24_ f26_ (zr_wide (show 0 ≤ Int32.toInt 0 ∧ Int32.toInt 0 ≤ 0 from (by decide)) (by decide) (by decide)) (zr_wide (show (-1) ≤ Int32.toInt (-1) ∧ Int32.toInt (-1) ≤ (-1) from (by decide)) (by decide) (by decide)) (zr_wide (show 0 ≤ Int32.toInt 0 ∧ Int32.toInt 0 ≤ 0 from (by decide)) (by decide) (by decide)) (Nat.lt_succ_self _)
set_option maxHeartbeats 4000000 in
set_option maxRecDepth 10000 in
theorem sf_X7_openBits_8 (M : pvM) (hok : pvOk M) (d : Nat) : PW 160 d (0, [some (pvR 8), none, none], [], M) (fun r X => (∃ x : Int32, r = some (pvI x) ∧ True) ∧ X = M) := by
  have hT : pvdom 160 = pvD_160 := rfl
  refine pw_blk hT 4 (S' := (4, [some (pvR 8), some (pvI 0), some (pvI 0)], [], M)) rfl ⟨trivial, trivial, trivial, trivial, trivial⟩ ?_
  have hlz61_ : ∀ (nz61_ : Nat) (i1z61_ : Int32) (i2z61_ : Int32), (0 ≤ Int32.toInt i2z61_ ∧ Int32.toInt i2z61_ ≤ 7) → ((8 - Int32.toInt i2z61_).toNat < nz61_) → PW 160 d (4, [some (pvR 8), some (pvI i1z61_), some (pvI i2z61_)], [], M) (fun r X => (∃ x : Int32, r = some (pvI x) ∧ True) ∧ X = M) := by
    intro nz61_
    induction nz61_ with
    | zero => intro i1z61_ i2z61_ h2z61_ hmz61_; exact absurd hmz61_ (Nat.not_lt_zero _)
    | succ nz61_ ihz61_ =>
      intro i1z61_ i2z61_ h2z61_ hmz61_
      have b62_ : 0 ≤ Int32.toInt (M.1 8 1) ∧ Int32.toInt (M.1 8 1) ≤ 7 := pvok_r hok 8 1 rfl
      refine pw_blk hT 3 (S' := (9, [some (pvR 8), some (pvI i1z61_), some (pvI i2z61_)], [pvI (M.1 8 1), pvI i2z61_], M)) rfl ⟨trivial, trivial, rfl, trivial⟩ ?_
      refine pw_ic hT (c := (M.1 8 1) ≤ i2z61_) rfl rfl (fun c63_ => ?_) (fun c63_ => ?_)
      · have d64_ : Int32.toInt (M.1 8 1) ≤ Int32.toInt i2z61_ := (zi_le _ _).mp c63_
        refine pw_blk hT 1 (S' := (37, [some (pvR 8), some (pvI i1z61_), some (pvI i2z61_)], [pvI i1z61_], M)) rfl ⟨trivial, trivial⟩ ?_
        exact pw_ret hT rfl (r := some (pvI i1z61_)) (M' := M) ⟨rfl, rfl⟩ ⟨⟨_, rfl, trivial⟩, rfl⟩
      · have b65_ : 1 ≤ Int32.toInt (M.1 8 1) ∧ Int32.toInt (M.1 8 1) ≤ 7 := zr_nle_l 1 c63_ b62_ h2z61_ (by decide)
        have b66_ : 0 ≤ Int32.toInt i2z61_ ∧ Int32.toInt i2z61_ ≤ 6 := zr_nle_r 6 c63_ h2z61_ b65_ (by decide)
        have d67_ : Int32.toInt (M.1 8 1) > Int32.toInt i2z61_ := Int.not_le.mp ((not_congr (zi_le _ _)).mp c63_)
        refine pw_blkr hT 4 (pc := 18) (lo := [some (pvR 8), some (pvI i1z61_), some (pvI i2z61_)]) (st := []) (M := M) (z := (pvbs 10 + Int32.toNatClampNeg i2z61_)) rfl ⟨trivial, rfl, trivial, ⟨rfl, (zr_in (n := 7) b66_ (by decide) (by decide))⟩, trivial⟩ (fun q68_ e70_ => ?_)
        have k69_ : pvkl q68_ = 3 := pvel_10 (zr_in (n := 7) b66_ (by decide) (by decide)) e70_
        have b71_ : 0 ≤ Int32.toInt (M.1 q68_ 5) ∧ Int32.toInt (M.1 q68_ 5) ≤ 1 := pvok_r hok q68_ 5 ((pvrg_o 5 k69_ (by decide) (by decide)).trans rfl)
        refine pw_blk hT 1 (S' := (21, [some (pvR 8), some (pvI i1z61_), some (pvI i2z61_)], [pvI (M.1 q68_ 5)], M)) rfl ⟨k69_, trivial⟩ ?_
        refine pw_ifn hT (c := (M.1 q68_ 5) = 0) rfl rfl (fun c72_ => ?_) (fun c72_ => ?_)
        · have b73_ : 1 ≤ Int32.toInt (M.1 q68_ 5) ∧ Int32.toInt (M.1 q68_ 5) ≤ 1 := (by have u0 := b71_; have u1 := (not_congr (zi_eq _ _)).mp c72_; have u2 := (show 0 ≤ Int32.toInt 0 ∧ Int32.toInt 0 ≤ 0 from (by decide)); omega)
          obtain ⟨q75_, b74_⟩ : (Int32.toInt (i2z61_ + 1) = Int32.toInt i2z61_ + Int32.toInt 1) ∧ (1 ≤ Int32.toInt (i2z61_ + 1) ∧ Int32.toInt (i2z61_ + 1) ≤ 7) := zadd_r i2z61_ 1 1 7 b66_ (show 1 ≤ Int32.toInt 1 ∧ Int32.toInt 1 ≤ 1 from (by decide)) (by decide) (by decide) (by decide) (by decide)
          have u76_ : Int32.toInt 1 = 1 := by decide
          refine pw_blk hT 2 (S' := (4, [some (pvR 8), some (pvI i1z61_), some (pvI (i2z61_ + 1))], [], M)) rfl ⟨trivial, trivial, trivial⟩ ?_
          exact ihz61_ i1z61_ (i2z61_ + 1) (zr_wide b74_ (by decide) (by decide)) (by omega)
        · have b77_ : 0 ≤ Int32.toInt (M.1 q68_ 5) ∧ Int32.toInt (M.1 q68_ 5) ≤ 0 := (by have u0 := b71_; have u1 := (zi_eq _ _).mp c72_; have u2 := (show 0 ≤ Int32.toInt 0 ∧ Int32.toInt 0 ≤ 0 from (by decide)); omega)
          obtain ⟨q79_, b78_⟩ : (Int32.toInt (i2z61_ + 1) = Int32.toInt i2z61_ + Int32.toInt 1) ∧ (1 ≤ Int32.toInt (i2z61_ + 1) ∧ Int32.toInt (i2z61_ + 1) ≤ 7) := zadd_r i2z61_ 1 1 7 b66_ (show 1 ≤ Int32.toInt 1 ∧ Int32.toInt 1 ≤ 1 from (by decide)) (by decide) (by decide) (by decide) (by decide)
          have u80_ : Int32.toInt 1 = 1 := by decide
          refine pw_blk hT 8 (S' := (4, [some (pvR 8), some (pvI (i1z61_ ||| (1 <<< (i2z61_ &&& 31)))), some (pvI (i2z61_ + 1))], [], M)) rfl ⟨trivial, trivial, trivial, trivial, trivial, trivial, trivial, trivial, trivial⟩ ?_
          exact ihz61_ (i1z61_ ||| (1 <<< (i2z61_ &&& 31))) (i2z61_ + 1) (zr_wide b78_ (by decide) (by decide)) (by omega)
  exact hlz61_ _ 0 0 (zr_wide (show 0 ≤ Int32.toInt 0 ∧ Int32.toInt 0 ≤ 0 from (by decide)) (by decide) (by decide)) (Nat.lt_succ_self _)
set_option maxHeartbeats 4000000 in
set_option maxRecDepth 10000 in
theorem sf_J6_bitCount_0f7a4_x (M : pvM) (hok : pvOk M) (n0 : Int32) (d : Nat) : PW 0 d (0, [some (pvI n0)], [], M) (fun r X => r = some (pvI (((((((((n0 - ((UInt32.toInt32 (Int32.toUInt32 n0 >>> (Int32.toUInt32 1 &&& Int32.toUInt32 31))) &&& 1431655765)) &&& 858993459) + ((UInt32.toInt32 (Int32.toUInt32 (n0 - ((UInt32.toInt32 (Int32.toUInt32 n0 >>> (Int32.toUInt32 1 &&& Int32.toUInt32 31))) &&& 1431655765)) >>> (Int32.toUInt32 2 &&& Int32.toUInt32 31))) &&& 858993459)) + (UInt32.toInt32 (Int32.toUInt32 (((n0 - ((UInt32.toInt32 (Int32.toUInt32 n0 >>> (Int32.toUInt32 1 &&& Int32.toUInt32 31))) &&& 1431655765)) &&& 858993459) + ((UInt32.toInt32 (Int32.toUInt32 (n0 - ((UInt32.toInt32 (Int32.toUInt32 n0 >>> (Int32.toUInt32 1 &&& Int32.toUInt32 31))) &&& 1431655765)) >>> (Int32.toUInt32 2 &&& Int32.toUInt32 31))) &&& 858993459)) >>> (Int32.toUInt32 4 &&& Int32.toUInt32 31)))) &&& 252645135) + (UInt32.toInt32 (Int32.toUInt32 (((((n0 - ((UInt32.toInt32 (Int32.toUInt32 n0 >>> (Int32.toUInt32 1 &&& Int32.toUInt32 31))) &&& 1431655765)) &&& 858993459) + ((UInt32.toInt32 (Int32.toUInt32 (n0 - ((UInt32.toInt32 (Int32.toUInt32 n0 >>> (Int32.toUInt32 1 &&& Int32.toUInt32 31))) &&& 1431655765)) >>> (Int32.toUInt32 2 &&& Int32.toUInt32 31))) &&& 858993459)) + (UInt32.toInt32 (Int32.toUInt32 (((n0 - ((UInt32.toInt32 (Int32.toUInt32 n0 >>> (Int32.toUInt32 1 &&& Int32.toUInt32 31))) &&& 1431655765)) &&& 858993459) + ((UInt32.toInt32 (Int32.toUInt32 (n0 - ((UInt32.toInt32 (Int32.toUInt32 n0 >>> (Int32.toUInt32 1 &&& Int32.toUInt32 31))) &&& 1431655765)) >>> (Int32.toUInt32 2 &&& Int32.toUInt32 31))) &&& 858993459)) >>> (Int32.toUInt32 4 &&& Int32.toUInt32 31)))) &&& 252645135) >>> (Int32.toUInt32 8 &&& Int32.toUInt32 31)))) + (UInt32.toInt32 (Int32.toUInt32 ((((((n0 - ((UInt32.toInt32 (Int32.toUInt32 n0 >>> (Int32.toUInt32 1 &&& Int32.toUInt32 31))) &&& 1431655765)) &&& 858993459) + ((UInt32.toInt32 (Int32.toUInt32 (n0 - ((UInt32.toInt32 (Int32.toUInt32 n0 >>> (Int32.toUInt32 1 &&& Int32.toUInt32 31))) &&& 1431655765)) >>> (Int32.toUInt32 2 &&& Int32.toUInt32 31))) &&& 858993459)) + (UInt32.toInt32 (Int32.toUInt32 (((n0 - ((UInt32.toInt32 (Int32.toUInt32 n0 >>> (Int32.toUInt32 1 &&& Int32.toUInt32 31))) &&& 1431655765)) &&& 858993459) + ((UInt32.toInt32 (Int32.toUInt32 (n0 - ((UInt32.toInt32 (Int32.toUInt32 n0 >>> (Int32.toUInt32 1 &&& Int32.toUInt32 31))) &&& 1431655765)) >>> (Int32.toUInt32 2 &&& Int32.toUInt32 31))) &&& 858993459)) >>> (Int32.toUInt32 4 &&& Int32.toUInt32 31)))) &&& 252645135) + (UInt32.toInt32 (Int32.toUInt32 (((((n0 - ((UInt32.toInt32 (Int32.toUInt32 n0 >>> (Int32.toUInt32 1 &&& Int32.toUInt32 31))) &&& 1431655765)) &&& 858993459) + ((UInt32.toInt32 (Int32.toUInt32 (n0 - ((UInt32.toInt32 (Int32.toUInt32 n0 >>> (Int32.toUInt32 1 &&& Int32.toUInt32 31))) &&& 1431655765)) >>> (Int32.toUInt32 2 &&& Int32.toUInt32 31))) &&& 858993459)) + (UInt32.toInt32 (Int32.toUInt32 (((n0 - ((UInt32.toInt32 (Int32.toUInt32 n0 >>> (Int32.toUInt32 1 &&& Int32.toUInt32 31))) &&& 1431655765)) &&& 858993459) + ((UInt32.toInt32 (Int32.toUInt32 (n0 - ((UInt32.toInt32 (Int32.toUInt32 n0 >>> (Int32.toUInt32 1 &&& Int32.toUInt32 31))) &&& 1431655765)) >>> (Int32.toUInt32 2 &&& Int32.toUInt32 31))) &&& 858993459)) >>> (Int32.toUInt32 4 &&& Int32.toUInt32 31)))) &&& 252645135) >>> (Int32.toUInt32 8 &&& Int32.toUInt32 31)))) >>> (Int32.toUInt32 16 &&& Int32.toUInt32 31)))) &&& 63))) ∧ X = M) := by
  have hT : pvdom 0 = pvD_0 := rfl
  refine pw_blk hT 41 (S' := (52, [some (pvI (((((((n0 - ((UInt32.toInt32 (Int32.toUInt32 n0 >>> (Int32.toUInt32 1 &&& Int32.toUInt32 31))) &&& 1431655765)) &&& 858993459) + ((UInt32.toInt32 (Int32.toUInt32 (n0 - ((UInt32.toInt32 (Int32.toUInt32 n0 >>> (Int32.toUInt32 1 &&& Int32.toUInt32 31))) &&& 1431655765)) >>> (Int32.toUInt32 2 &&& Int32.toUInt32 31))) &&& 858993459)) + (UInt32.toInt32 (Int32.toUInt32 (((n0 - ((UInt32.toInt32 (Int32.toUInt32 n0 >>> (Int32.toUInt32 1 &&& Int32.toUInt32 31))) &&& 1431655765)) &&& 858993459) + ((UInt32.toInt32 (Int32.toUInt32 (n0 - ((UInt32.toInt32 (Int32.toUInt32 n0 >>> (Int32.toUInt32 1 &&& Int32.toUInt32 31))) &&& 1431655765)) >>> (Int32.toUInt32 2 &&& Int32.toUInt32 31))) &&& 858993459)) >>> (Int32.toUInt32 4 &&& Int32.toUInt32 31)))) &&& 252645135) + (UInt32.toInt32 (Int32.toUInt32 (((((n0 - ((UInt32.toInt32 (Int32.toUInt32 n0 >>> (Int32.toUInt32 1 &&& Int32.toUInt32 31))) &&& 1431655765)) &&& 858993459) + ((UInt32.toInt32 (Int32.toUInt32 (n0 - ((UInt32.toInt32 (Int32.toUInt32 n0 >>> (Int32.toUInt32 1 &&& Int32.toUInt32 31))) &&& 1431655765)) >>> (Int32.toUInt32 2 &&& Int32.toUInt32 31))) &&& 858993459)) + (UInt32.toInt32 (Int32.toUInt32 (((n0 - ((UInt32.toInt32 (Int32.toUInt32 n0 >>> (Int32.toUInt32 1 &&& Int32.toUInt32 31))) &&& 1431655765)) &&& 858993459) + ((UInt32.toInt32 (Int32.toUInt32 (n0 - ((UInt32.toInt32 (Int32.toUInt32 n0 >>> (Int32.toUInt32 1 &&& Int32.toUInt32 31))) &&& 1431655765)) >>> (Int32.toUInt32 2 &&& Int32.toUInt32 31))) &&& 858993459)) >>> (Int32.toUInt32 4 &&& Int32.toUInt32 31)))) &&& 252645135) >>> (Int32.toUInt32 8 &&& Int32.toUInt32 31)))) + (UInt32.toInt32 (Int32.toUInt32 ((((((n0 - ((UInt32.toInt32 (Int32.toUInt32 n0 >>> (Int32.toUInt32 1 &&& Int32.toUInt32 31))) &&& 1431655765)) &&& 858993459) + ((UInt32.toInt32 (Int32.toUInt32 (n0 - ((UInt32.toInt32 (Int32.toUInt32 n0 >>> (Int32.toUInt32 1 &&& Int32.toUInt32 31))) &&& 1431655765)) >>> (Int32.toUInt32 2 &&& Int32.toUInt32 31))) &&& 858993459)) + (UInt32.toInt32 (Int32.toUInt32 (((n0 - ((UInt32.toInt32 (Int32.toUInt32 n0 >>> (Int32.toUInt32 1 &&& Int32.toUInt32 31))) &&& 1431655765)) &&& 858993459) + ((UInt32.toInt32 (Int32.toUInt32 (n0 - ((UInt32.toInt32 (Int32.toUInt32 n0 >>> (Int32.toUInt32 1 &&& Int32.toUInt32 31))) &&& 1431655765)) >>> (Int32.toUInt32 2 &&& Int32.toUInt32 31))) &&& 858993459)) >>> (Int32.toUInt32 4 &&& Int32.toUInt32 31)))) &&& 252645135) + (UInt32.toInt32 (Int32.toUInt32 (((((n0 - ((UInt32.toInt32 (Int32.toUInt32 n0 >>> (Int32.toUInt32 1 &&& Int32.toUInt32 31))) &&& 1431655765)) &&& 858993459) + ((UInt32.toInt32 (Int32.toUInt32 (n0 - ((UInt32.toInt32 (Int32.toUInt32 n0 >>> (Int32.toUInt32 1 &&& Int32.toUInt32 31))) &&& 1431655765)) >>> (Int32.toUInt32 2 &&& Int32.toUInt32 31))) &&& 858993459)) + (UInt32.toInt32 (Int32.toUInt32 (((n0 - ((UInt32.toInt32 (Int32.toUInt32 n0 >>> (Int32.toUInt32 1 &&& Int32.toUInt32 31))) &&& 1431655765)) &&& 858993459) + ((UInt32.toInt32 (Int32.toUInt32 (n0 - ((UInt32.toInt32 (Int32.toUInt32 n0 >>> (Int32.toUInt32 1 &&& Int32.toUInt32 31))) &&& 1431655765)) >>> (Int32.toUInt32 2 &&& Int32.toUInt32 31))) &&& 858993459)) >>> (Int32.toUInt32 4 &&& Int32.toUInt32 31)))) &&& 252645135) >>> (Int32.toUInt32 8 &&& Int32.toUInt32 31)))) >>> (Int32.toUInt32 16 &&& Int32.toUInt32 31)))))], [pvI ((((((((n0 - ((UInt32.toInt32 (Int32.toUInt32 n0 >>> (Int32.toUInt32 1 &&& Int32.toUInt32 31))) &&& 1431655765)) &&& 858993459) + ((UInt32.toInt32 (Int32.toUInt32 (n0 - ((UInt32.toInt32 (Int32.toUInt32 n0 >>> (Int32.toUInt32 1 &&& Int32.toUInt32 31))) &&& 1431655765)) >>> (Int32.toUInt32 2 &&& Int32.toUInt32 31))) &&& 858993459)) + (UInt32.toInt32 (Int32.toUInt32 (((n0 - ((UInt32.toInt32 (Int32.toUInt32 n0 >>> (Int32.toUInt32 1 &&& Int32.toUInt32 31))) &&& 1431655765)) &&& 858993459) + ((UInt32.toInt32 (Int32.toUInt32 (n0 - ((UInt32.toInt32 (Int32.toUInt32 n0 >>> (Int32.toUInt32 1 &&& Int32.toUInt32 31))) &&& 1431655765)) >>> (Int32.toUInt32 2 &&& Int32.toUInt32 31))) &&& 858993459)) >>> (Int32.toUInt32 4 &&& Int32.toUInt32 31)))) &&& 252645135) + (UInt32.toInt32 (Int32.toUInt32 (((((n0 - ((UInt32.toInt32 (Int32.toUInt32 n0 >>> (Int32.toUInt32 1 &&& Int32.toUInt32 31))) &&& 1431655765)) &&& 858993459) + ((UInt32.toInt32 (Int32.toUInt32 (n0 - ((UInt32.toInt32 (Int32.toUInt32 n0 >>> (Int32.toUInt32 1 &&& Int32.toUInt32 31))) &&& 1431655765)) >>> (Int32.toUInt32 2 &&& Int32.toUInt32 31))) &&& 858993459)) + (UInt32.toInt32 (Int32.toUInt32 (((n0 - ((UInt32.toInt32 (Int32.toUInt32 n0 >>> (Int32.toUInt32 1 &&& Int32.toUInt32 31))) &&& 1431655765)) &&& 858993459) + ((UInt32.toInt32 (Int32.toUInt32 (n0 - ((UInt32.toInt32 (Int32.toUInt32 n0 >>> (Int32.toUInt32 1 &&& Int32.toUInt32 31))) &&& 1431655765)) >>> (Int32.toUInt32 2 &&& Int32.toUInt32 31))) &&& 858993459)) >>> (Int32.toUInt32 4 &&& Int32.toUInt32 31)))) &&& 252645135) >>> (Int32.toUInt32 8 &&& Int32.toUInt32 31)))) + (UInt32.toInt32 (Int32.toUInt32 ((((((n0 - ((UInt32.toInt32 (Int32.toUInt32 n0 >>> (Int32.toUInt32 1 &&& Int32.toUInt32 31))) &&& 1431655765)) &&& 858993459) + ((UInt32.toInt32 (Int32.toUInt32 (n0 - ((UInt32.toInt32 (Int32.toUInt32 n0 >>> (Int32.toUInt32 1 &&& Int32.toUInt32 31))) &&& 1431655765)) >>> (Int32.toUInt32 2 &&& Int32.toUInt32 31))) &&& 858993459)) + (UInt32.toInt32 (Int32.toUInt32 (((n0 - ((UInt32.toInt32 (Int32.toUInt32 n0 >>> (Int32.toUInt32 1 &&& Int32.toUInt32 31))) &&& 1431655765)) &&& 858993459) + ((UInt32.toInt32 (Int32.toUInt32 (n0 - ((UInt32.toInt32 (Int32.toUInt32 n0 >>> (Int32.toUInt32 1 &&& Int32.toUInt32 31))) &&& 1431655765)) >>> (Int32.toUInt32 2 &&& Int32.toUInt32 31))) &&& 858993459)) >>> (Int32.toUInt32 4 &&& Int32.toUInt32 31)))) &&& 252645135) + (UInt32.toInt32 (Int32.toUInt32 (((((n0 - ((UInt32.toInt32 (Int32.toUInt32 n0 >>> (Int32.toUInt32 1 &&& Int32.toUInt32 31))) &&& 1431655765)) &&& 858993459) + ((UInt32.toInt32 (Int32.toUInt32 (n0 - ((UInt32.toInt32 (Int32.toUInt32 n0 >>> (Int32.toUInt32 1 &&& Int32.toUInt32 31))) &&& 1431655765)) >>> (Int32.toUInt32 2 &&& Int32.toUInt32 31))) &&& 858993459)) + (UInt32.toInt32 (Int32.toUInt32 (((n0 - ((UInt32.toInt32 (Int32.toUInt32 n0 >>> (Int32.toUInt32 1 &&& Int32.toUInt32 31))) &&& 1431655765)) &&& 858993459) + ((UInt32.toInt32 (Int32.toUInt32 (n0 - ((UInt32.toInt32 (Int32.toUInt32 n0 >>> (Int32.toUInt32 1 &&& Int32.toUInt32 31))) &&& 1431655765)) >>> (Int32.toUInt32 2 &&& Int32.toUInt32 31))) &&& 858993459)) >>> (Int32.toUInt32 4 &&& Int32.toUInt32 31)))) &&& 252645135) >>> (Int32.toUInt32 8 &&& Int32.toUInt32 31)))) >>> (Int32.toUInt32 16 &&& Int32.toUInt32 31)))) &&& 63)], M)) rfl ⟨trivial, trivial, trivial, trivial, trivial, trivial, trivial, trivial, trivial, trivial, trivial, trivial, trivial, trivial, trivial, trivial, trivial, trivial, trivial, trivial, trivial, trivial, trivial, trivial, trivial, trivial, trivial, trivial, trivial, trivial, trivial, trivial, trivial, trivial, trivial, trivial, trivial, trivial, trivial, trivial, trivial, trivial⟩ ?_
  exact pw_ret hT rfl (r := some (pvI ((((((((n0 - ((UInt32.toInt32 (Int32.toUInt32 n0 >>> (Int32.toUInt32 1 &&& Int32.toUInt32 31))) &&& 1431655765)) &&& 858993459) + ((UInt32.toInt32 (Int32.toUInt32 (n0 - ((UInt32.toInt32 (Int32.toUInt32 n0 >>> (Int32.toUInt32 1 &&& Int32.toUInt32 31))) &&& 1431655765)) >>> (Int32.toUInt32 2 &&& Int32.toUInt32 31))) &&& 858993459)) + (UInt32.toInt32 (Int32.toUInt32 (((n0 - ((UInt32.toInt32 (Int32.toUInt32 n0 >>> (Int32.toUInt32 1 &&& Int32.toUInt32 31))) &&& 1431655765)) &&& 858993459) + ((UInt32.toInt32 (Int32.toUInt32 (n0 - ((UInt32.toInt32 (Int32.toUInt32 n0 >>> (Int32.toUInt32 1 &&& Int32.toUInt32 31))) &&& 1431655765)) >>> (Int32.toUInt32 2 &&& Int32.toUInt32 31))) &&& 858993459)) >>> (Int32.toUInt32 4 &&& Int32.toUInt32 31)))) &&& 252645135) + (UInt32.toInt32 (Int32.toUInt32 (((((n0 - ((UInt32.toInt32 (Int32.toUInt32 n0 >>> (Int32.toUInt32 1 &&& Int32.toUInt32 31))) &&& 1431655765)) &&& 858993459) + ((UInt32.toInt32 (Int32.toUInt32 (n0 - ((UInt32.toInt32 (Int32.toUInt32 n0 >>> (Int32.toUInt32 1 &&& Int32.toUInt32 31))) &&& 1431655765)) >>> (Int32.toUInt32 2 &&& Int32.toUInt32 31))) &&& 858993459)) + (UInt32.toInt32 (Int32.toUInt32 (((n0 - ((UInt32.toInt32 (Int32.toUInt32 n0 >>> (Int32.toUInt32 1 &&& Int32.toUInt32 31))) &&& 1431655765)) &&& 858993459) + ((UInt32.toInt32 (Int32.toUInt32 (n0 - ((UInt32.toInt32 (Int32.toUInt32 n0 >>> (Int32.toUInt32 1 &&& Int32.toUInt32 31))) &&& 1431655765)) >>> (Int32.toUInt32 2 &&& Int32.toUInt32 31))) &&& 858993459)) >>> (Int32.toUInt32 4 &&& Int32.toUInt32 31)))) &&& 252645135) >>> (Int32.toUInt32 8 &&& Int32.toUInt32 31)))) + (UInt32.toInt32 (Int32.toUInt32 ((((((n0 - ((UInt32.toInt32 (Int32.toUInt32 n0 >>> (Int32.toUInt32 1 &&& Int32.toUInt32 31))) &&& 1431655765)) &&& 858993459) + ((UInt32.toInt32 (Int32.toUInt32 (n0 - ((UInt32.toInt32 (Int32.toUInt32 n0 >>> (Int32.toUInt32 1 &&& Int32.toUInt32 31))) &&& 1431655765)) >>> (Int32.toUInt32 2 &&& Int32.toUInt32 31))) &&& 858993459)) + (UInt32.toInt32 (Int32.toUInt32 (((n0 - ((UInt32.toInt32 (Int32.toUInt32 n0 >>> (Int32.toUInt32 1 &&& Int32.toUInt32 31))) &&& 1431655765)) &&& 858993459) + ((UInt32.toInt32 (Int32.toUInt32 (n0 - ((UInt32.toInt32 (Int32.toUInt32 n0 >>> (Int32.toUInt32 1 &&& Int32.toUInt32 31))) &&& 1431655765)) >>> (Int32.toUInt32 2 &&& Int32.toUInt32 31))) &&& 858993459)) >>> (Int32.toUInt32 4 &&& Int32.toUInt32 31)))) &&& 252645135) + (UInt32.toInt32 (Int32.toUInt32 (((((n0 - ((UInt32.toInt32 (Int32.toUInt32 n0 >>> (Int32.toUInt32 1 &&& Int32.toUInt32 31))) &&& 1431655765)) &&& 858993459) + ((UInt32.toInt32 (Int32.toUInt32 (n0 - ((UInt32.toInt32 (Int32.toUInt32 n0 >>> (Int32.toUInt32 1 &&& Int32.toUInt32 31))) &&& 1431655765)) >>> (Int32.toUInt32 2 &&& Int32.toUInt32 31))) &&& 858993459)) + (UInt32.toInt32 (Int32.toUInt32 (((n0 - ((UInt32.toInt32 (Int32.toUInt32 n0 >>> (Int32.toUInt32 1 &&& Int32.toUInt32 31))) &&& 1431655765)) &&& 858993459) + ((UInt32.toInt32 (Int32.toUInt32 (n0 - ((UInt32.toInt32 (Int32.toUInt32 n0 >>> (Int32.toUInt32 1 &&& Int32.toUInt32 31))) &&& 1431655765)) >>> (Int32.toUInt32 2 &&& Int32.toUInt32 31))) &&& 858993459)) >>> (Int32.toUInt32 4 &&& Int32.toUInt32 31)))) &&& 252645135) >>> (Int32.toUInt32 8 &&& Int32.toUInt32 31)))) >>> (Int32.toUInt32 16 &&& Int32.toUInt32 31)))) &&& 63))) (M' := M) ⟨rfl, rfl⟩ ⟨rfl, rfl⟩
def fpL_X6_clear_106 : List (Nat × Nat × Nat) := [(0, 106, 1)]
def fp_X6_clear_106 (q k : Nat) : Bool := pvfp fpL_X6_clear_106 q k
set_option maxHeartbeats 4000000 in
set_option maxRecDepth 10000 in
theorem sf_X6_clear_106 (M : pvM) (hok : pvOk M) (d : Nat) : PW 153 d (0, [some (pvR 106)], [], M) (fun r X => (∃ x : Int32, r = some (pvI x) ∧ 0 ≤ Int32.toInt x ∧ Int32.toInt x ≤ 0) ∧ pvOk X ∧ pvFr fp_X6_clear_106 M X) := by
  have hT : pvdom 153 = pvD_153 := rfl
  refine pw_blkw hT 3 (pc := 5) (lo := [some (pvR 106)]) (st := []) (M := pvu M 106 0 0) rfl ⟨trivial, trivial, rfl, trivial⟩ (fun M1_ e2_ => ?_)
  have o3_ : pvOk M1_ := pvok_u2 e2_ hok rfl (zr_wide (show 0 ≤ Int32.toInt 0 ∧ Int32.toInt 0 ≤ 0 from (by decide)) (by decide) (by decide))
  have f4_ : pvFr fp_X6_clear_106 M M1_ := pvfr_u e2_ pvfr_0 rfl
  refine pw_blk hT 1 (S' := (6, [some (pvR 106)], [pvI 0], M1_)) rfl ⟨trivial, trivial⟩ ?_
  exact pw_ret hT rfl (r := some (pvI 0)) (M' := M1_) ⟨rfl, rfl⟩ ⟨⟨_, rfl, (show 0 ≤ Int32.toInt 0 ∧ Int32.toInt 0 ≤ 0 from (by decide))⟩, o3_, f4_⟩
def fpL_X1_goAlong_5_106_x_x_x : List (Nat × Nat × Nat) := [(0, 12, 0)]
def fp_X1_goAlong_5_106_x_x_x (q k : Nat) : Bool := pvfp fpL_X1_goAlong_5_106_x_x_x q k
set_option maxHeartbeats 4000000 in
set_option maxRecDepth 10000 in
theorem sf_X1_goAlong_5_106_x_x_x (M : pvM) (hok : pvOk M) (n2 : Int32) (n3 : Int32) (n4 : Int32) (hn2 : 0 ≤ Int32.toInt n2 ∧ Int32.toInt n2 ≤ 7) (hn3 : 0 ≤ Int32.toInt n3 ∧ Int32.toInt n3 ≤ 7) (hn4 : 0 ≤ Int32.toInt n4 ∧ Int32.toInt n4 ≤ 60000) (d : Nat) : PW 109 d (0, [some (pvR 5), some (pvR 106), some (pvI n2), some (pvI n3), some (pvI n4), none, none, none, none, none], [], M) (fun r X => (∃ x : Int32, r = some (pvI x) ∧ 0 ≤ Int32.toInt x ∧ Int32.toInt x ≤ 64000) ∧ pvOk X ∧ pvFr fp_X1_goAlong_5_106_x_x_x M X) := by
  have hT : pvdom 109 = pvD_109 := rfl
  have b1_ : 0 ≤ Int32.toInt (M.1 8 6) ∧ Int32.toInt (M.1 8 6) ≤ 3 := pvok_r hok 8 6 rfl
  have b2_ : 0 ≤ Int32.toInt (M.1 8 7) ∧ Int32.toInt (M.1 8 7) ≤ 4 := pvok_r hok 8 7 rfl
  refine pw_blk hT 12 (S' := (25, [some (pvR 5), some (pvR 106), some (pvI n2), some (pvI n3), some (pvI n4), some (pvI n4), some (pvI (M.1 8 6)), some (pvI (M.1 8 7)), some (pvI n2), none], [], M)) rfl ⟨trivial, trivial, trivial, rfl, rfl, trivial, trivial, rfl, rfl, trivial, trivial, trivial, trivial⟩ ?_
  have hlz177_ : ∀ (nz177_ : Nat) (i5z177_ : Int32) (i6z177_ : Int32) (i7z177_ : Int32) (i8z177_ : Int32) (v9z177_ : Option pvV) (Mz177_ : pvM), (pvOk Mz177_) → (pvFr fp_X1_goAlong_5_106_x_x_x M Mz177_) → (0 ≤ Int32.toInt i5z177_ ∧ Int32.toInt i5z177_ ≤ 64000) → (0 ≤ Int32.toInt i6z177_ ∧ Int32.toInt i6z177_ ≤ 3) → (0 ≤ Int32.toInt i7z177_ ∧ Int32.toInt i7z177_ ≤ 4) → (0 ≤ Int32.toInt i8z177_ ∧ Int32.toInt i8z177_ ≤ 7) → (Int32.toInt i5z177_ ≤ 60000 + 320 * Int32.toInt i8z177_) → (0 ≤ Int32.toInt i5z177_) → ((8 - Int32.toInt i8z177_).toNat < nz177_) → PW 109 d (25, [some (pvR 5), some (pvR 106), some (pvI n2), some (pvI n3), some (pvI n4), some (pvI i5z177_), some (pvI i6z177_), some (pvI i7z177_), some (pvI i8z177_), v9z177_], [], Mz177_) (fun r X => (∃ x : Int32, r = some (pvI x) ∧ 0 ≤ Int32.toInt x ∧ Int32.toInt x ≤ 64000) ∧ pvOk X ∧ pvFr fp_X1_goAlong_5_106_x_x_x M X) := by
    intro nz177_
    induction nz177_ with
    | zero => intro i5z177_ i6z177_ i7z177_ i8z177_ v9z177_ Mz177_ oz177_ fz177_ h5z177_ h6z177_ h7z177_ h8z177_ j0z177_ j1z177_ hmz177_; exact absurd hmz177_ (Nat.not_lt_zero _)
    | succ nz177_ ihz177_ =>
      intro i5z177_ i6z177_ i7z177_ i8z177_ v9z177_ Mz177_ oz177_ fz177_ h5z177_ h6z177_ h7z177_ h8z177_ j0z177_ j1z177_ hmz177_
      refine pw_blk hT 2 (S' := (28, [some (pvR 5), some (pvR 106), some (pvI n2), some (pvI n3), some (pvI n4), some (pvI i5z177_), some (pvI i6z177_), some (pvI i7z177_), some (pvI i8z177_), v9z177_], [pvI n3, pvI i8z177_], Mz177_)) rfl ⟨trivial, trivial, trivial⟩ ?_
      refine pw_ic hT (c := n3 ≤ i8z177_) rfl rfl (fun c178_ => ?_) (fun c178_ => ?_)
      · have d179_ : Int32.toInt n3 ≤ Int32.toInt i8z177_ := (zi_le _ _).mp c178_
        refine pw_blk hT 1 (S' := (128, [some (pvR 5), some (pvR 106), some (pvI n2), some (pvI n3), some (pvI n4), some (pvI i5z177_), some (pvI i6z177_), some (pvI i7z177_), some (pvI i8z177_), v9z177_], [pvI i5z177_], Mz177_)) rfl ⟨trivial, trivial⟩ ?_
        exact pw_ret hT rfl (r := some (pvI i5z177_)) (M' := Mz177_) ⟨rfl, rfl⟩ ⟨⟨_, rfl, h5z177_⟩, oz177_, fz177_⟩
      · have b180_ : 1 ≤ Int32.toInt n3 ∧ Int32.toInt n3 ≤ 7 := zr_nle_l 1 c178_ hn3 h8z177_ (by decide)
        have b181_ : 0 ≤ Int32.toInt i8z177_ ∧ Int32.toInt i8z177_ ≤ 6 := zr_nle_r 6 c178_ h8z177_ b180_ (by decide)
        have d182_ : Int32.toInt n3 > Int32.toInt i8z177_ := Int.not_le.mp ((not_congr (zi_le _ _)).mp c178_)
        have b183_ : 0 ≤ Int32.toInt (Mz177_.1 106 0) ∧ Int32.toInt (Mz177_.1 106 0) ≤ 7 := pvok_r oz177_ 106 0 rfl
        refine pw_blk hT 3 (S' := (37, [some (pvR 5), some (pvR 106), some (pvI n2), some (pvI n3), some (pvI n4), some (pvI i5z177_), some (pvI i6z177_), some (pvI i7z177_), some (pvI i8z177_), v9z177_], [pvI (Mz177_.1 106 0), pvI i8z177_], Mz177_)) rfl ⟨trivial, trivial, rfl, trivial⟩ ?_
        refine pw_ic hT (c := (Mz177_.1 106 0) ≤ i8z177_) rfl rfl (fun c184_ => ?_) (fun c184_ => ?_)
        · have b185_ : 0 ≤ Int32.toInt (Mz177_.1 106 0) ∧ Int32.toInt (Mz177_.1 106 0) ≤ 6 := zr_le_l 6 c184_ b183_ b181_ (by decide)
          have d186_ : Int32.toInt (Mz177_.1 106 0) ≤ Int32.toInt i8z177_ := (zi_le _ _).mp c184_
          refine pw_blk hT 1 (S' := (128, [some (pvR 5), some (pvR 106), some (pvI n2), some (pvI n3), some (pvI n4), some (pvI i5z177_), some (pvI i6z177_), some (pvI i7z177_), some (pvI i8z177_), v9z177_], [pvI i5z177_], Mz177_)) rfl ⟨trivial, trivial⟩ ?_
          exact pw_ret hT rfl (r := some (pvI i5z177_)) (M' := Mz177_) ⟨rfl, rfl⟩ ⟨⟨_, rfl, h5z177_⟩, oz177_, fz177_⟩
        · have b187_ : 1 ≤ Int32.toInt (Mz177_.1 106 0) ∧ Int32.toInt (Mz177_.1 106 0) ≤ 7 := zr_nle_l 1 c184_ b183_ b181_ (by decide)
          have d188_ : Int32.toInt (Mz177_.1 106 0) > Int32.toInt i8z177_ := Int.not_le.mp ((not_congr (zi_le _ _)).mp c184_)
          have b189_ : 0 ≤ Int32.toInt (Mz177_.1 114 (Int32.toNatClampNeg i8z177_)) ∧ Int32.toInt (Mz177_.1 114 (Int32.toNatClampNeg i8z177_)) ≤ 6 := pvok_r oz177_ 114 (Int32.toNatClampNeg i8z177_) rfl
          refine pw_blkr hT 8 (pc := 55) (lo := [some (pvR 5), some (pvR 106), some (pvI n2), some (pvI n3), some (pvI n4), some (pvI i5z177_), some (pvI i6z177_), some (pvI i7z177_), some (pvI i8z177_), v9z177_]) (st := []) (M := Mz177_) (z := (pvbs 10 + Int32.toNatClampNeg (Mz177_.1 114 (Int32.toNatClampNeg i8z177_)))) rfl ⟨trivial, rfl, rfl, trivial, rfl, trivial, ⟨rfl, (zr_in (n := 7) b181_ (by decide) (by decide))⟩, ⟨rfl, (zr_in (n := 7) b189_ (by decide) (by decide))⟩, trivial⟩ (fun q190_ e192_ => ?_)
          have k191_ : pvkl q190_ = 3 := pvel_10 (zr_in (n := 7) b189_ (by decide) (by decide)) e192_
          have b193_ : 0 ≤ Int32.toInt (Mz177_.1 q190_ 5) ∧ Int32.toInt (Mz177_.1 q190_ 5) ≤ 1 := pvok_r oz177_ q190_ 5 ((pvrg_o 5 k191_ (by decide) (by decide)).trans rfl)
          refine pw_blk hT 3 (S' := (62, [some (pvR 5), some (pvR 106), some (pvI n2), some (pvI n3), some (pvI n4), some (pvI i5z177_), some (pvI i6z177_), some (pvI i7z177_), some (pvI i8z177_), some (pvR q190_)], [pvI (Mz177_.1 q190_ 5)], Mz177_)) rfl ⟨trivial, trivial, k191_, trivial⟩ ?_
          refine pw_if hT (c := (Mz177_.1 q190_ 5) = 0) rfl rfl (fun c194_ => ?_) (fun c194_ => ?_)
          · have b195_ : 0 ≤ Int32.toInt (Mz177_.1 q190_ 5) ∧ Int32.toInt (Mz177_.1 q190_ 5) ≤ 0 := (by have u0 := b193_; have u1 := (zi_eq _ _).mp c194_; have u2 := (show 0 ≤ Int32.toInt 0 ∧ Int32.toInt 0 ≤ 0 from (by decide)); omega)
            have b196_ : 15 ≤ Int32.toInt (Mz177_.1 8 8) ∧ Int32.toInt (Mz177_.1 8 8) ≤ 23 := pvok_r oz177_ 8 8 rfl
            refine pw_blkr hT 7 (pc := 83) (lo := [some (pvR 5), some (pvR 106), some (pvI n2), some (pvI n3), some (pvI n4), some (pvI i5z177_), some (pvI i6z177_), some (pvI i7z177_), some (pvI i8z177_), some (pvR q190_)]) (st := [pvI i7z177_, pvI i6z177_, pvR q190_, pvI i5z177_]) (M := Mz177_) (z := (pvhp (Mz177_.1 8 8))) rfl ⟨trivial, trivial, trivial, trivial, trivial, rfl, rfl, trivial⟩ (fun q197_ e199_ => ?_)
            have k198_ : pvkl q197_ = 2 := pvhp_k b196_ e199_
            have b200_ : 0 ≤ Int32.toInt (Mz177_.1 q197_ 0) ∧ Int32.toInt (Mz177_.1 q197_ 0) ≤ 99 := pvok_r oz177_ q197_ 0 ((pvrg_o 0 k198_ (by decide) (by decide)).trans rfl)
            refine pw_blk hT 1 (S' := (86, [some (pvR 5), some (pvR 106), some (pvI n2), some (pvI n3), some (pvI n4), some (pvI i5z177_), some (pvI i6z177_), some (pvI i7z177_), some (pvI i8z177_), some (pvR q190_)], [pvI (Mz177_.1 q197_ 0), pvI i7z177_, pvI i6z177_, pvR q190_, pvI i5z177_], Mz177_)) rfl ⟨k198_, trivial⟩ ?_
            refine pw_callGp hT (as := [pvR q190_, pvI i6z177_, pvI i7z177_, pvI (Mz177_.1 q197_ 0)]) (lo1 := [some (pvR q190_), some (pvI i6z177_), some (pvI i7z177_), some (pvI (Mz177_.1 q197_ 0)), none]) (d1 := d) (rest := [pvI i5z177_]) rfl rfl rfl rfl rfl (fun _ => k191_) (Nat.zero_le _) rfl rfl rfl (sf_X4_minutesFrom_x_x_x_x Mz177_ oz177_ q190_ i6z177_ i7z177_ (Mz177_.1 q197_ 0) k191_ h6z177_ h7z177_ b200_ d) (fun x201_ b203_ => ?_)
            obtain ⟨q207_, b206_⟩ : (Int32.toInt (i5z177_ + x201_) = Int32.toInt i5z177_ + Int32.toInt x201_) ∧ (0 ≤ Int32.toInt (i5z177_ + x201_) ∧ Int32.toInt (i5z177_ + x201_) ≤ 64319) := zadd_r i5z177_ x201_ 0 64319 h5z177_ b203_ (by decide) (by decide) (by decide) (by decide)
            refine pw_blkw hT 10 (pc := 106) (lo := [some (pvR 5), some (pvR 106), some (pvI n2), some (pvI n3), some (pvI n4), some (pvI (i5z177_ + x201_)), some (pvI i6z177_), some (pvI i7z177_), some (pvI i8z177_), some (pvR q190_)]) (st := []) (M := pvu Mz177_ 12 (Int32.toNatClampNeg (Mz177_.1 114 (Int32.toNatClampNeg i8z177_))) (i5z177_ + x201_)) rfl ⟨trivial, trivial, trivial, rfl, trivial, rfl, trivial, ⟨rfl, (zr_in (n := 7) b181_ (by decide) (by decide))⟩, trivial, ⟨rfl, (zr_in (n := 7) b189_ (by decide) (by decide))⟩, trivial⟩ (fun M208_ e209_ => ?_)
            have o210_ : pvOk M208_ := pvok_u2 e209_ oz177_ rfl (zr_wide b206_ (by decide) (by decide))
            have f211_ : pvFr fp_X1_goAlong_5_106_x_x_x M M208_ := pvfr_u e209_ fz177_ rfl
            have b212_ : 0 ≤ Int32.toInt (M208_.1 q190_ 2) ∧ Int32.toInt (M208_.1 q190_ 2) ≤ 3 := pvok_r o210_ q190_ 2 ((pvrg_o 2 k191_ (by decide) (by decide)).trans rfl)
            have b213_ : 0 ≤ Int32.toInt (M208_.1 q190_ 3) ∧ Int32.toInt (M208_.1 q190_ 3) ≤ 4 := pvok_r o210_ q190_ 3 ((pvrg_o 3 k191_ (by decide) (by decide)).trans rfl)
            obtain ⟨q215_, b214_⟩ : (Int32.toInt (i8z177_ + 1) = Int32.toInt i8z177_ + Int32.toInt 1) ∧ (1 ≤ Int32.toInt (i8z177_ + 1) ∧ Int32.toInt (i8z177_ + 1) ≤ 7) := zadd_r i8z177_ 1 1 7 b181_ (show 1 ≤ Int32.toInt 1 ∧ Int32.toInt 1 ≤ 1 from (by decide)) (by decide) (by decide) (by decide) (by decide)
            have u216_ : Int32.toInt 1 = 1 := by decide
            refine pw_blk hT 8 (S' := (25, [some (pvR 5), some (pvR 106), some (pvI n2), some (pvI n3), some (pvI n4), some (pvI (i5z177_ + x201_)), some (pvI (M208_.1 q190_ 2)), some (pvI (M208_.1 q190_ 3)), some (pvI (i8z177_ + 1)), some (pvR q190_)], [], M208_)) rfl ⟨trivial, k191_, trivial, trivial, k191_, trivial, trivial, trivial, trivial⟩ ?_
            have j217_ : Int32.toInt (i5z177_ + x201_) ≤ 60000 + 320 * Int32.toInt (i8z177_ + 1) := by omega
            have j218_ : 0 ≤ Int32.toInt (i5z177_ + x201_) := by omega
            exact ihz177_ (i5z177_ + x201_) (M208_.1 q190_ 2) (M208_.1 q190_ 3) (i8z177_ + 1) (some (pvR q190_)) M208_ o210_ f211_ (by have u0 := b206_; omega) b212_ b213_ (zr_wide b214_ (by decide) (by decide)) j217_ j218_ (by omega)
          · have b219_ : 1 ≤ Int32.toInt (Mz177_.1 q190_ 5) ∧ Int32.toInt (Mz177_.1 q190_ 5) ≤ 1 := (by have u0 := b193_; have u1 := (not_congr (zi_eq _ _)).mp c194_; have u2 := (show 0 ≤ Int32.toInt 0 ∧ Int32.toInt 0 ≤ 0 from (by decide)); omega)
            obtain ⟨q221_, b220_⟩ : (Int32.toInt (i8z177_ + 1) = Int32.toInt i8z177_ + Int32.toInt 1) ∧ (1 ≤ Int32.toInt (i8z177_ + 1) ∧ Int32.toInt (i8z177_ + 1) ≤ 7) := zadd_r i8z177_ 1 1 7 b181_ (show 1 ≤ Int32.toInt 1 ∧ Int32.toInt 1 ≤ 1 from (by decide)) (by decide) (by decide) (by decide) (by decide)
            have u222_ : Int32.toInt 1 = 1 := by decide
            refine pw_blk hT 3 (S' := (25, [some (pvR 5), some (pvR 106), some (pvI n2), some (pvI n3), some (pvI n4), some (pvI i5z177_), some (pvI i6z177_), some (pvI i7z177_), some (pvI (i8z177_ + 1)), some (pvR q190_)], [], Mz177_)) rfl ⟨trivial, trivial, trivial, trivial⟩ ?_
            have j223_ : Int32.toInt i5z177_ ≤ 60000 + 320 * Int32.toInt (i8z177_ + 1) := by omega
            have j224_ : 0 ≤ Int32.toInt i5z177_ := by omega
            exact ihz177_ i5z177_ i6z177_ i7z177_ (i8z177_ + 1) (some (pvR q190_)) Mz177_ oz177_ fz177_ h5z177_ h6z177_ h7z177_ (zr_wide b220_ (by decide) (by decide)) j223_ j224_ (by omega)
  have j225_ : Int32.toInt n4 ≤ 60000 + 320 * Int32.toInt n2 := by omega
  have j226_ : 0 ≤ Int32.toInt n4 := by omega
  exact hlz177_ _ n4 (M.1 8 6) (M.1 8 7) n2 none M hok pvfr_0 (zr_wide hn4 (by decide) (by decide)) b1_ b2_ hn2 j225_ j226_ (Nat.lt_succ_self _)
def fpL_X1_costOfTried_5 : List (Nat × Nat × Nat) := [(0, 12, 0)]
def fp_X1_costOfTried_5 (q k : Nat) : Bool := pvfp fpL_X1_costOfTried_5 q k
theorem fp_X1_costOfTried_5_fp_X1_goAlong_5_106_x_x_x (a b : Nat) (h : fp_X1_goAlong_5_106_x_x_x a b = true) : fp_X1_costOfTried_5 a b = true := pvfp_sub (l1 := fpL_X1_goAlong_5_106_x_x_x) (l2 := fpL_X1_costOfTried_5) (by decide) a b h
theorem fp_X1_costOfTried_5_fp_X1_nobodyShuts_5 (a b : Nat) (h : fp_X1_nobodyShuts_5 a b = true) : fp_X1_costOfTried_5 a b = true := pvfp_sub (l1 := fpL_X1_nobodyShuts_5) (l2 := fpL_X1_costOfTried_5) (by decide) a b h
set_option maxHeartbeats 4000000 in
set_option maxRecDepth 10000 in
theorem sf_X1_costOfTried_5 (M : pvM) (hok : pvOk M) (d : Nat) : PW 106 d (0, [some (pvR 5)], [], M) (fun r X => (∃ x : Int32, r = some (pvI x) ∧ 0 ≤ Int32.toInt x ∧ Int32.toInt x ≤ 35000000) ∧ pvOk X ∧ pvFr fp_X1_costOfTried_5 M X) := by
  have hT : pvdom 106 = pvD_106 := rfl
  refine pw_blk hT 1 (S' := (1, [some (pvR 5)], [pvR 5], M)) rfl ⟨trivial, trivial⟩ ?_
  refine pw_callV hT (as := [pvR 5]) (lo1 := [some (pvR 5), none]) (d1 := d) (rest := []) rfl rfl rfl rfl rfl (fun _ => rfl) (Nat.zero_le _) rfl rfl rfl (sf_X1_nobodyShuts_5 M hok d) (fun M2_ o4_ g5_ => ?_)
  have f6_ : pvFr fp_X1_costOfTried_5 M M2_ := pvfr_t g5_ pvfr_0 fp_X1_costOfTried_5_fp_X1_nobodyShuts_5
  have b7_ : 0 ≤ Int32.toInt (M2_.1 106 0) ∧ Int32.toInt (M2_.1 106 0) ≤ 7 := pvok_r o4_ 106 0 rfl
  have b8_ : 0 ≤ Int32.toInt (M2_.1 8 4) ∧ Int32.toInt (M2_.1 8 4) ≤ 9999 := pvok_r o4_ 8 4 rfl
  refine pw_blk hT 10 (S' := (24, [some (pvR 5)], [pvI (M2_.1 8 4), pvI (M2_.1 106 0), pvI 0, pvR 106, pvR 5], M2_)) rfl ⟨trivial, trivial, rfl, trivial, trivial, rfl, rfl, trivial, rfl, rfl, trivial⟩ ?_
  refine pw_callG hT (as := [pvR 5, pvR 106, pvI 0, pvI (M2_.1 106 0), pvI (M2_.1 8 4)]) (lo1 := [some (pvR 5), some (pvR 106), some (pvI 0), some (pvI (M2_.1 106 0)), some (pvI (M2_.1 8 4)), none, none, none, none, none]) (d1 := d) (rest := []) rfl rfl rfl rfl rfl (fun _ => rfl) (Nat.zero_le _) rfl rfl rfl (sf_X1_goAlong_5_106_x_x_x M2_ o4_ 0 (M2_.1 106 0) (M2_.1 8 4) (zr_wide (show 0 ≤ Int32.toInt 0 ∧ Int32.toInt 0 ≤ 0 from (by decide)) (by decide) (by decide)) b7_ (zr_wide b8_ (by decide) (by decide)) d) (fun x9_ M10_ b11_ o12_ g13_ => ?_)
  have f14_ : pvFr fp_X1_costOfTried_5 M M10_ := pvfr_t g13_ f6_ fp_X1_costOfTried_5_fp_X1_goAlong_5_106_x_x_x
  refine pw_blk hT 2 (S' := (29, [some (pvR 5)], [pvR 5], M10_)) rfl ⟨trivial, trivial, trivial⟩ ?_
  refine pw_callGp hT (as := [pvR 5]) (lo1 := [some (pvR 5)]) (d1 := d) (rest := []) rfl rfl rfl rfl rfl (fun _ => rfl) (Nat.zero_le _) rfl rfl rfl (sf_X1_cost_5 M10_ o12_ d) (fun x15_ b17_ => ?_)
  exact pw_ret hT rfl (r := some (pvI x15_)) (M' := M10_) ⟨rfl, rfl⟩ ⟨⟨_, rfl, b17_⟩, o12_, f14_⟩
def fpL_X6_clear_107 : List (Nat × Nat × Nat) := [(0, 107, 1)]
def fp_X6_clear_107 (q k : Nat) : Bool := pvfp fpL_X6_clear_107 q k
set_option maxHeartbeats 4000000 in
set_option maxRecDepth 10000 in
theorem sf_X6_clear_107 (M : pvM) (hok : pvOk M) (d : Nat) : PW 153 d (0, [some (pvR 107)], [], M) (fun r X => (∃ x : Int32, r = some (pvI x) ∧ 0 ≤ Int32.toInt x ∧ Int32.toInt x ≤ 0) ∧ pvOk X ∧ pvFr fp_X6_clear_107 M X) := by
  have hT : pvdom 153 = pvD_153 := rfl
  refine pw_blkw hT 3 (pc := 5) (lo := [some (pvR 107)]) (st := []) (M := pvu M 107 0 0) rfl ⟨trivial, trivial, rfl, trivial⟩ (fun M1_ e2_ => ?_)
  have o3_ : pvOk M1_ := pvok_u2 e2_ hok rfl (zr_wide (show 0 ≤ Int32.toInt 0 ∧ Int32.toInt 0 ≤ 0 from (by decide)) (by decide) (by decide))
  have f4_ : pvFr fp_X6_clear_107 M M1_ := pvfr_u e2_ pvfr_0 rfl
  refine pw_blk hT 1 (S' := (6, [some (pvR 107)], [pvI 0], M1_)) rfl ⟨trivial, trivial⟩ ?_
  exact pw_ret hT rfl (r := some (pvI 0)) (M' := M1_) ⟨rfl, rfl⟩ ⟨⟨_, rfl, (show 0 ≤ Int32.toInt 0 ∧ Int32.toInt 0 ≤ 0 from (by decide))⟩, o3_, f4_⟩
set_option maxHeartbeats 4000000 in
set_option maxRecDepth 10000 in
theorem sf_X6_isFull_107 (M : pvM) (hok : pvOk M) (d : Nat) : PW 154 d (0, [some (pvR 107)], [], M) (fun r X => r = some (pvI ((if (M.1 107 0) < (Int32.ofNat 7) then 0 else 1))) ∧ X = M) := by
  have hT : pvdom 154 = pvD_154 := rfl
  have b1_ : 0 ≤ Int32.toInt (M.1 107 0) ∧ Int32.toInt (M.1 107 0) ≤ 7 := pvok_r hok 107 0 rfl
  refine pw_blk hT 5 (S' := (9, [some (pvR 107)], [pvI (Int32.ofNat 7), pvI (M.1 107 0)], M)) rfl ⟨trivial, rfl, trivial, rfl, rfl, trivial⟩ ?_
  refine pw_ic hT (c := (M.1 107 0) < (Int32.ofNat 7)) rfl rfl (fun c2_ => ?_) (fun c2_ => ?_)
  · have b3_ : 0 ≤ Int32.toInt (M.1 107 0) ∧ Int32.toInt (M.1 107 0) ≤ 6 := zr_lt_l 6 c2_ b1_ (show 7 ≤ Int32.toInt (Int32.ofNat 7) ∧ Int32.toInt (Int32.ofNat 7) ≤ 7 from (by decide)) (by decide)
    refine pw_blk hT 1 (S' := (17, [some (pvR 107)], [pvI 0], M)) rfl ⟨trivial, trivial⟩ ?_
    exact pw_ret hT rfl (r := some (pvI 0)) (M' := M) ⟨Or.inl rfl, rfl, rfl⟩ ⟨(by rw [if_pos c2_]), rfl⟩
  · have b4_ : 7 ≤ Int32.toInt (M.1 107 0) ∧ Int32.toInt (M.1 107 0) ≤ 7 := zr_nlt_l 7 c2_ b1_ (show 7 ≤ Int32.toInt (Int32.ofNat 7) ∧ Int32.toInt (Int32.ofNat 7) ≤ 7 from (by decide)) (by decide)
    refine pw_blk hT 2 (S' := (17, [some (pvR 107)], [pvI 1], M)) rfl ⟨trivial, trivial, trivial⟩ ?_
    exact pw_ret hT rfl (r := some (pvI 1)) (M' := M) ⟨Or.inr rfl, rfl, rfl⟩ ⟨(by rw [if_neg c2_]), rfl⟩
def fpL_X6_append_107_x_x : List (Nat × Nat × Nat) := [(0, 107, 1), (0, 115, 0), (0, 123, 0)]
def fp_X6_append_107_x_x (q k : Nat) : Bool := pvfp fpL_X6_append_107_x_x q k
set_option maxHeartbeats 4000000 in
set_option maxRecDepth 10000 in
theorem sf_X6_append_107_x_x (M : pvM) (hok : pvOk M) (n1 : Int32) (n2 : Int32) (hn1 : 0 ≤ Int32.toInt n1 ∧ Int32.toInt n1 ≤ 6) (hn2 : 0 ≤ Int32.toInt n2 ∧ Int32.toInt n2 ≤ 9999) (d : Nat) : PW 151 d (0, [some (pvR 107), some (pvI n1), some (pvI n2)], [], M) (fun r X => (∃ x : Int32, r = some (pvI x) ∧ 1 ≤ Int32.toInt x ∧ Int32.toInt x ≤ 7) ∧ pvOk X ∧ pvFr fp_X6_append_107_x_x M X) := by
  have hT : pvdom 151 = pvD_151 := rfl
  refine pw_blk hT 1 (S' := (1, [some (pvR 107), some (pvI n1), some (pvI n2)], [pvR 107], M)) rfl ⟨trivial, trivial⟩ ?_
  refine pw_callT hT (as := [pvR 107]) (lo1 := [some (pvR 107)]) (d1 := d) (rest := []) rfl rfl rfl rfl rfl (fun _ => rfl) (Nat.zero_le _) rfl rfl rfl (sf_X6_isFull_107 M hok d) ?_
  have b6_ : 0 ≤ Int32.toInt (M.1 107 0) ∧ Int32.toInt (M.1 107 0) ≤ 7 := pvok_r hok 107 0 rfl
  by_cases c7_ : (M.1 107 0) < (Int32.ofNat 7)
  · refine pw_eqI (if_pos c7_) ?_
    have b8_ : 0 ≤ Int32.toInt (M.1 107 0) ∧ Int32.toInt (M.1 107 0) ≤ 6 := zr_lt_l 6 c7_ b6_ (show 7 ≤ Int32.toInt (Int32.ofNat 7) ∧ Int32.toInt (Int32.ofNat 7) ≤ 7 from (by decide)) (by decide)
    show PW 151 d (4, [some (pvR 107), some (pvI n1), some (pvI n2)], [pvI 0], M) _
    refine pw_if hT (c := 0 = 0) rfl rfl (fun c9_ => ?_) (fun c9_ => absurd (by decide) c9_)
    refine pw_blkw hT 6 (pc := 22) (lo := [some (pvR 107), some (pvI n1), some (pvI n2)]) (st := []) (M := pvu M 115 (Int32.toNatClampNeg (M.1 107 0)) n1) rfl ⟨trivial, rfl, trivial, rfl, trivial, ⟨rfl, (zr_in (n := 7) b8_ (by decide) (by decide))⟩, trivial⟩ (fun M10_ e11_ => ?_)
    have o12_ : pvOk M10_ := pvok_u2 e11_ hok rfl hn1
    have f13_ : pvFr fp_X6_append_107_x_x M M10_ := pvfr_u e11_ pvfr_0 rfl
    have e14_ : (M10_.1 107 0) = (M.1 107 0) := (pvu_n e11_ 107 0 (Or.inl (by decide)))
    have b15_ : 0 ≤ Int32.toInt (M10_.1 107 0) ∧ Int32.toInt (M10_.1 107 0) ≤ 6 := (by rw [e14_]; exact b8_)
    refine pw_blkw hT 6 (pc := 32) (lo := [some (pvR 107), some (pvI n1), some (pvI n2)]) (st := []) (M := pvu M10_ 123 (Int32.toNatClampNeg (M10_.1 107 0)) n2) rfl ⟨trivial, rfl, trivial, rfl, trivial, ⟨rfl, (zr_in (n := 7) b15_ (by decide) (by decide))⟩, trivial⟩ (fun M16_ e17_ => ?_)
    have o18_ : pvOk M16_ := pvok_u2 e17_ o12_ rfl hn2
    have f19_ : pvFr fp_X6_append_107_x_x M M16_ := pvfr_u e17_ f13_ rfl
    have e20_ : (M16_.1 107 0) = (M10_.1 107 0) := (pvu_n e17_ 107 0 (Or.inl (by decide)))
    have b21_ : 0 ≤ Int32.toInt (M16_.1 107 0) ∧ Int32.toInt (M16_.1 107 0) ≤ 6 := (by rw [e20_]; exact b15_)
    obtain ⟨q23_, b22_⟩ : (Int32.toInt ((M16_.1 107 0) + 1) = Int32.toInt (M16_.1 107 0) + Int32.toInt 1) ∧ (1 ≤ Int32.toInt ((M16_.1 107 0) + 1) ∧ Int32.toInt ((M16_.1 107 0) + 1) ≤ 7) := zadd_r (M16_.1 107 0) 1 1 7 b21_ (show 1 ≤ Int32.toInt 1 ∧ Int32.toInt 1 ≤ 1 from (by decide)) (by decide) (by decide) (by decide) (by decide)
    have u24_ : Int32.toInt 1 = 1 := by decide
    refine pw_blkw hT 6 (pc := 42) (lo := [some (pvR 107), some (pvI n1), some (pvI n2)]) (st := []) (M := pvu M16_ 107 0 ((M16_.1 107 0) + 1)) rfl ⟨trivial, trivial, rfl, trivial, trivial, rfl, trivial⟩ (fun M25_ e26_ => ?_)
    have o27_ : pvOk M25_ := pvok_u2 e26_ o18_ rfl (zr_wide b22_ (by decide) (by decide))
    have f28_ : pvFr fp_X6_append_107_x_x M M25_ := pvfr_u e26_ f19_ rfl
    have e29_ : (M25_.1 107 0) = ((M16_.1 107 0) + 1) := (pvu_s e26_)
    have b30_ : 1 ≤ Int32.toInt (M25_.1 107 0) ∧ Int32.toInt (M25_.1 107 0) ≤ 7 := (by rw [e29_]; exact b22_)
    refine pw_blk hT 2 (S' := (46, [some (pvR 107), some (pvI n1), some (pvI n2)], [pvI (M25_.1 107 0)], M25_)) rfl ⟨trivial, rfl, trivial⟩ ?_
    exact pw_ret hT rfl (r := some (pvI (M25_.1 107 0))) (M' := M25_) ⟨rfl, rfl⟩ ⟨⟨_, rfl, b30_⟩, o27_, f28_⟩
  · refine pw_eqI (if_neg c7_) ?_
    have b31_ : 7 ≤ Int32.toInt (M.1 107 0) ∧ Int32.toInt (M.1 107 0) ≤ 7 := zr_nlt_l 7 c7_ b6_ (show 7 ≤ Int32.toInt (Int32.ofNat 7) ∧ Int32.toInt (Int32.ofNat 7) ≤ 7 from (by decide)) (by decide)
    show PW 151 d (4, [some (pvR 107), some (pvI n1), some (pvI n2)], [pvI 1], M) _
    refine pw_if hT (c := 1 = 0) rfl rfl (fun c32_ => absurd c32_ (by decide)) (fun c32_ => ?_)
    refine pw_blk hT 2 (S' := (11, [some (pvR 107), some (pvI n1), some (pvI n2)], [pvI (M.1 107 0)], M)) rfl ⟨trivial, rfl, trivial⟩ ?_
    exact pw_ret hT rfl (r := some (pvI (M.1 107 0))) (M' := M) ⟨rfl, rfl⟩ ⟨⟨_, rfl, (zr_wide b31_ (by decide) (by decide))⟩, hok, pvfr_0⟩
def fpL_X6_becomeAs_107_106 : List (Nat × Nat × Nat) := [(0, 107, 1), (0, 115, 0), (0, 123, 0)]
def fp_X6_becomeAs_107_106 (q k : Nat) : Bool := pvfp fpL_X6_becomeAs_107_106 q k
theorem fp_X6_becomeAs_107_106_fp_X6_append_107_x_x (a b : Nat) (h : fp_X6_append_107_x_x a b = true) : fp_X6_becomeAs_107_106 a b = true := pvfp_sub (l1 := fpL_X6_append_107_x_x) (l2 := fpL_X6_becomeAs_107_106) (by decide) a b h
theorem fp_X6_becomeAs_107_106_fp_X6_clear_107 (a b : Nat) (h : fp_X6_clear_107 a b = true) : fp_X6_becomeAs_107_106 a b = true := pvfp_sub (l1 := fpL_X6_clear_107) (l2 := fpL_X6_becomeAs_107_106) (by decide) a b h
set_option maxHeartbeats 4000000 in
set_option maxRecDepth 10000 in
theorem sf_X6_becomeAs_107_106 (M : pvM) (hok : pvOk M) (d : Nat) : PW 152 d (0, [some (pvR 107), some (pvR 106), none], [], M) (fun r X => r = none ∧ pvOk X ∧ pvFr fp_X6_becomeAs_107_106 M X) := by
  have hT : pvdom 152 = pvD_152 := rfl
  refine pw_blk hT 1 (S' := (1, [some (pvR 107), some (pvR 106), none], [pvR 107], M)) rfl ⟨trivial, trivial⟩ ?_
  refine pw_callG hT (as := [pvR 107]) (lo1 := [some (pvR 107)]) (d1 := d) (rest := []) rfl rfl rfl rfl rfl (fun _ => rfl) (Nat.zero_le _) rfl rfl rfl (sf_X6_clear_107 M hok d) (fun x1_ M2_ b3_ o4_ g5_ => ?_)
  have f6_ : pvFr fp_X6_becomeAs_107_106 M M2_ := pvfr_t g5_ pvfr_0 fp_X6_becomeAs_107_106_fp_X6_clear_107
  refine pw_blk hT 3 (S' := (7, [some (pvR 107), some (pvR 106), some (pvI 0)], [], M2_)) rfl ⟨trivial, trivial, trivial, trivial⟩ ?_
  have hlz79_ : ∀ (nz79_ : Nat) (i2z79_ : Int32) (Mz79_ : pvM), (pvOk Mz79_) → (pvFr fp_X6_becomeAs_107_106 M Mz79_) → (0 ≤ Int32.toInt i2z79_ ∧ Int32.toInt i2z79_ ≤ 7) → ((8 - Int32.toInt i2z79_).toNat < nz79_) → PW 152 d (7, [some (pvR 107), some (pvR 106), some (pvI i2z79_)], [], Mz79_) (fun r X => r = none ∧ pvOk X ∧ pvFr fp_X6_becomeAs_107_106 M X) := by
    intro nz79_
    induction nz79_ with
    | zero => intro i2z79_ Mz79_ oz79_ fz79_ h2z79_ hmz79_; exact absurd hmz79_ (Nat.not_lt_zero _)
    | succ nz79_ ihz79_ =>
      intro i2z79_ Mz79_ oz79_ fz79_ h2z79_ hmz79_
      have b80_ : 0 ≤ Int32.toInt (Mz79_.1 106 0) ∧ Int32.toInt (Mz79_.1 106 0) ≤ 7 := pvok_r oz79_ 106 0 rfl
      refine pw_blk hT 3 (S' := (12, [some (pvR 107), some (pvR 106), some (pvI i2z79_)], [pvI (Mz79_.1 106 0), pvI i2z79_], Mz79_)) rfl ⟨trivial, trivial, rfl, trivial⟩ ?_
      refine pw_ic hT (c := (Mz79_.1 106 0) ≤ i2z79_) rfl rfl (fun c81_ => ?_) (fun c81_ => ?_)
      · have d82_ : Int32.toInt (Mz79_.1 106 0) ≤ Int32.toInt i2z79_ := (zi_le _ _).mp c81_
        exact pw_ret hT rfl (r := none) (M' := Mz79_) ⟨rfl, rfl⟩ ⟨rfl, oz79_, fz79_⟩
      · have b83_ : 1 ≤ Int32.toInt (Mz79_.1 106 0) ∧ Int32.toInt (Mz79_.1 106 0) ≤ 7 := zr_nle_l 1 c81_ b80_ h2z79_ (by decide)
        have b84_ : 0 ≤ Int32.toInt i2z79_ ∧ Int32.toInt i2z79_ ≤ 6 := zr_nle_r 6 c81_ h2z79_ b83_ (by decide)
        have d85_ : Int32.toInt (Mz79_.1 106 0) > Int32.toInt i2z79_ := Int.not_le.mp ((not_congr (zi_le _ _)).mp c81_)
        have b86_ : 0 ≤ Int32.toInt (Mz79_.1 114 (Int32.toNatClampNeg i2z79_)) ∧ Int32.toInt (Mz79_.1 114 (Int32.toNatClampNeg i2z79_)) ≤ 6 := pvok_r oz79_ 114 (Int32.toNatClampNeg i2z79_) rfl
        have b87_ : 0 ≤ Int32.toInt (Mz79_.1 122 (Int32.toNatClampNeg i2z79_)) ∧ Int32.toInt (Mz79_.1 122 (Int32.toNatClampNeg i2z79_)) ≤ 9999 := pvok_r oz79_ 122 (Int32.toNatClampNeg i2z79_) rfl
        refine pw_blk hT 9 (S' := (28, [some (pvR 107), some (pvR 106), some (pvI i2z79_)], [pvI (Mz79_.1 122 (Int32.toNatClampNeg i2z79_)), pvI (Mz79_.1 114 (Int32.toNatClampNeg i2z79_)), pvR 107], Mz79_)) rfl ⟨trivial, trivial, rfl, trivial, ⟨rfl, (zr_in (n := 7) b84_ (by decide) (by decide))⟩, trivial, rfl, trivial, ⟨rfl, (zr_in (n := 7) b84_ (by decide) (by decide))⟩, trivial⟩ ?_
        refine pw_callG hT (as := [pvR 107, pvI (Mz79_.1 114 (Int32.toNatClampNeg i2z79_)), pvI (Mz79_.1 122 (Int32.toNatClampNeg i2z79_))]) (lo1 := [some (pvR 107), some (pvI (Mz79_.1 114 (Int32.toNatClampNeg i2z79_))), some (pvI (Mz79_.1 122 (Int32.toNatClampNeg i2z79_)))]) (d1 := d) (rest := []) rfl rfl rfl rfl rfl (fun _ => rfl) (Nat.zero_le _) rfl rfl rfl (sf_X6_append_107_x_x Mz79_ oz79_ (Mz79_.1 114 (Int32.toNatClampNeg i2z79_)) (Mz79_.1 122 (Int32.toNatClampNeg i2z79_)) b86_ b87_ d) (fun x88_ M89_ b90_ o91_ g92_ => ?_)
        have f93_ : pvFr fp_X6_becomeAs_107_106 M M89_ := pvfr_t g92_ fz79_ fp_X6_becomeAs_107_106_fp_X6_append_107_x_x
        obtain ⟨q95_, b94_⟩ : (Int32.toInt (i2z79_ + 1) = Int32.toInt i2z79_ + Int32.toInt 1) ∧ (1 ≤ Int32.toInt (i2z79_ + 1) ∧ Int32.toInt (i2z79_ + 1) ≤ 7) := zadd_r i2z79_ 1 1 7 b84_ (show 1 ≤ Int32.toInt 1 ∧ Int32.toInt 1 ≤ 1 from (by decide)) (by decide) (by decide) (by decide) (by decide)
        have u96_ : Int32.toInt 1 = 1 := by decide
        refine pw_blk hT 3 (S' := (7, [some (pvR 107), some (pvR 106), some (pvI (i2z79_ + 1))], [], M89_)) rfl ⟨trivial, trivial, trivial, trivial⟩ ?_
        exact ihz79_ (i2z79_ + 1) M89_ o91_ f93_ (zr_wide b94_ (by decide) (by decide)) (by omega)
  exact hlz79_ _ 0 M2_ o4_ f6_ (zr_wide (show 0 ≤ Int32.toInt 0 ∧ Int32.toInt 0 ≤ 0 from (by decide)) (by decide) (by decide)) (Nat.lt_succ_self _)
def fpL_X6_swap_106_x_x : List (Nat × Nat × Nat) := [(0, 114, 0)]
def fp_X6_swap_106_x_x (q k : Nat) : Bool := pvfp fpL_X6_swap_106_x_x q k
set_option maxHeartbeats 4000000 in
set_option maxRecDepth 10000 in
theorem sf_X6_swap_106_x_x (M : pvM) (hok : pvOk M) (n1 : Int32) (n2 : Int32) (hn1 : 0 ≤ Int32.toInt n1 ∧ Int32.toInt n1 ≤ 6) (hn2 : 0 ≤ Int32.toInt n2 ∧ Int32.toInt n2 ≤ 6) (d : Nat) : PW 157 d (0, [some (pvR 106), some (pvI n1), some (pvI n2), none], [], M) (fun r X => r = none ∧ pvOk X ∧ pvFr fp_X6_swap_106_x_x M X) := by
  have hT : pvdom 157 = pvD_157 := rfl
  have b1_ : 0 ≤ Int32.toInt (M.1 114 (Int32.toNatClampNeg n1)) ∧ Int32.toInt (M.1 114 (Int32.toNatClampNeg n1)) ≤ 6 := pvok_r hok 114 (Int32.toNatClampNeg n1) rfl
  have b2_ : 0 ≤ Int32.toInt (M.1 114 (Int32.toNatClampNeg n2)) ∧ Int32.toInt (M.1 114 (Int32.toNatClampNeg n2)) ≤ 6 := pvok_r hok 114 (Int32.toNatClampNeg n2) rfl
  refine pw_blkw hT 13 (pc := 19) (lo := [some (pvR 106), some (pvI n1), some (pvI n2), some (pvI (M.1 114 (Int32.toNatClampNeg n1)))]) (st := []) (M := pvu M 114 (Int32.toNatClampNeg n1) (M.1 114 (Int32.toNatClampNeg n2))) rfl ⟨trivial, rfl, trivial, ⟨rfl, (zr_in (n := 7) hn1 (by decide) (by decide))⟩, trivial, trivial, rfl, trivial, trivial, rfl, trivial, ⟨rfl, (zr_in (n := 7) hn2 (by decide) (by decide))⟩, ⟨rfl, (zr_in (n := 7) hn1 (by decide) (by decide))⟩, trivial⟩ (fun M3_ e4_ => ?_)
  have o5_ : pvOk M3_ := pvok_u2 e4_ hok rfl b2_
  have f6_ : pvFr fp_X6_swap_106_x_x M M3_ := pvfr_u e4_ pvfr_0 rfl
  refine pw_blkw hT 5 (pc := 26) (lo := [some (pvR 106), some (pvI n1), some (pvI n2), some (pvI (M.1 114 (Int32.toNatClampNeg n1)))]) (st := []) (M := pvu M3_ 114 (Int32.toNatClampNeg n2) (M.1 114 (Int32.toNatClampNeg n1))) rfl ⟨trivial, rfl, trivial, trivial, ⟨rfl, (zr_in (n := 7) hn2 (by decide) (by decide))⟩, trivial⟩ (fun M7_ e8_ => ?_)
  have o9_ : pvOk M7_ := pvok_u2 e8_ o5_ rfl b1_
  have f10_ : pvFr fp_X6_swap_106_x_x M M7_ := pvfr_u e8_ f6_ rfl
  exact pw_ret hT rfl (r := none) (M' := M7_) ⟨rfl, rfl⟩ ⟨rfl, o9_, f10_⟩
def fpL_X6_permute_106 : List (Nat × Nat × Nat) := [(0, 114, 0)]
def fp_X6_permute_106 (q k : Nat) : Bool := pvfp fpL_X6_permute_106 q k
theorem fp_X6_permute_106_fp_X6_swap_106_x_x (a b : Nat) (h : fp_X6_swap_106_x_x a b = true) : fp_X6_permute_106 a b = true := pvfp_sub (l1 := fpL_X6_swap_106_x_x) (l2 := fpL_X6_permute_106) (by decide) a b h
set_option maxHeartbeats 4000000 in
set_option maxRecDepth 10000 in
theorem sf_X6_permute_106 (M : pvM) (hok : pvOk M) (d : Nat) : PW 156 d (0, [some (pvR 106), none, none, none, none], [], M) (fun r X => (∃ x : Int32, r = some (pvI x) ∧ 0 ≤ Int32.toInt x ∧ Int32.toInt x ≤ 1) ∧ pvOk X ∧ pvFr fp_X6_permute_106 M X) := by
  have hT : pvdom 156 = pvD_156 := rfl
  have b1_ : 0 ≤ Int32.toInt (M.1 106 0) ∧ Int32.toInt (M.1 106 0) ≤ 7 := pvok_r hok 106 0 rfl
  obtain ⟨q3_, b2_⟩ : (Int32.toInt ((M.1 106 0) - 2) = Int32.toInt (M.1 106 0) - Int32.toInt 2) ∧ ((-2) ≤ Int32.toInt ((M.1 106 0) - 2) ∧ Int32.toInt ((M.1 106 0) - 2) ≤ 5) := zsub_r (M.1 106 0) 2 (-2) 5 b1_ (show 2 ≤ Int32.toInt 2 ∧ Int32.toInt 2 ≤ 2 from (by decide)) (by decide) (by decide) (by decide) (by decide)
  have u4_ : Int32.toInt 2 = 2 := by decide
  refine pw_blk hT 5 (S' := (7, [some (pvR 106), some (pvI ((M.1 106 0) - 2)), none, none, none], [], M)) rfl ⟨trivial, rfl, trivial, trivial, trivial, trivial⟩ ?_
  have hlz432_ : ∀ (nz432_ : Nat) (i1z432_ : Int32), ((-2) ≤ Int32.toInt i1z432_ ∧ Int32.toInt i1z432_ ≤ 5) → (Int32.toInt i1z432_ ≤ Int32.toInt (M.1 106 0) - 2) → ((Int32.toInt i1z432_ - (-3)).toNat < nz432_) → PW 156 d (7, [some (pvR 106), some (pvI i1z432_), none, none, none], [], M) (fun r X => (∃ x : Int32, r = some (pvI x) ∧ 0 ≤ Int32.toInt x ∧ Int32.toInt x ≤ 1) ∧ pvOk X ∧ pvFr fp_X6_permute_106 M X) := by
    intro nz432_
    induction nz432_ with
    | zero => intro i1z432_ h1z432_ j0z432_ hmz432_; exact absurd hmz432_ (Nat.not_lt_zero _)
    | succ nz432_ ihz432_ =>
      intro i1z432_ h1z432_ j0z432_ hmz432_
      refine pw_blk hT 1 (S' := (8, [some (pvR 106), some (pvI i1z432_), none, none, none], [pvI i1z432_], M)) rfl ⟨trivial, trivial⟩ ?_
      refine pw_if hT (c := i1z432_ < 0) rfl rfl (fun c433_ => ?_) (fun c433_ => ?_)
      · have b434_ : (-2) ≤ Int32.toInt i1z432_ ∧ Int32.toInt i1z432_ ≤ (-1) := zr_lt_l (-1) c433_ h1z432_ (show 0 ≤ Int32.toInt 0 ∧ Int32.toInt 0 ≤ 0 from (by decide)) (by decide)
        refine pw_blk hT 1 (S' := (35, [some (pvR 106), some (pvI i1z432_), none, none, none], [pvI i1z432_], M)) rfl ⟨trivial, trivial⟩ ?_
        refine pw_if hT (c := 0 ≤ i1z432_) rfl rfl (fun c435_ => absurd c435_ (by have z0 := (show 0 ≤ Int32.toInt 0 ∧ Int32.toInt 0 ≤ 0 from (by decide)); have z1 := b434_; rw [zi_le]; omega)) (fun c435_ => ?_)
        refine pw_blk hT 1 (S' := (39, [some (pvR 106), some (pvI i1z432_), none, none, none], [pvI 0], M)) rfl ⟨trivial, trivial⟩ ?_
        exact pw_ret hT rfl (r := some (pvI 0)) (M' := M) ⟨Or.inl rfl, rfl, rfl⟩ ⟨⟨_, rfl, (zr_wide (show 0 ≤ Int32.toInt 0 ∧ Int32.toInt 0 ≤ 0 from (by decide)) (by decide) (by decide))⟩, hok, pvfr_0⟩
      · have b436_ : 0 ≤ Int32.toInt i1z432_ ∧ Int32.toInt i1z432_ ≤ 5 := zr_nlt_l 0 c433_ h1z432_ (show 0 ≤ Int32.toInt 0 ∧ Int32.toInt 0 ≤ 0 from (by decide)) (by decide)
        have b437_ : 0 ≤ Int32.toInt (M.1 114 (Int32.toNatClampNeg i1z432_)) ∧ Int32.toInt (M.1 114 (Int32.toNatClampNeg i1z432_)) ≤ 6 := pvok_r hok 114 (Int32.toNatClampNeg i1z432_) rfl
        obtain ⟨q439_, b438_⟩ : (Int32.toInt (i1z432_ + 1) = Int32.toInt i1z432_ + Int32.toInt 1) ∧ (1 ≤ Int32.toInt (i1z432_ + 1) ∧ Int32.toInt (i1z432_ + 1) ≤ 6) := zadd_r i1z432_ 1 1 6 b436_ (show 1 ≤ Int32.toInt 1 ∧ Int32.toInt 1 ≤ 1 from (by decide)) (by decide) (by decide) (by decide) (by decide)
        have u440_ : Int32.toInt 1 = 1 := by decide
        have b441_ : 0 ≤ Int32.toInt (M.1 114 (Int32.toNatClampNeg (i1z432_ + 1))) ∧ Int32.toInt (M.1 114 (Int32.toNatClampNeg (i1z432_ + 1))) ≤ 6 := pvok_r hok 114 (Int32.toNatClampNeg (i1z432_ + 1)) rfl
        refine pw_blk hT 10 (S' := (25, [some (pvR 106), some (pvI i1z432_), none, none, none], [pvI (M.1 114 (Int32.toNatClampNeg (i1z432_ + 1))), pvI (M.1 114 (Int32.toNatClampNeg i1z432_))], M)) rfl ⟨trivial, rfl, trivial, ⟨rfl, (zr_in (n := 7) b436_ (by decide) (by decide))⟩, trivial, rfl, trivial, trivial, trivial, ⟨rfl, (zr_in (n := 7) b438_ (by decide) (by decide))⟩, trivial⟩ ?_
        refine pw_ic hT (c := (M.1 114 (Int32.toNatClampNeg i1z432_)) < (M.1 114 (Int32.toNatClampNeg (i1z432_ + 1)))) rfl rfl (fun c442_ => ?_) (fun c442_ => ?_)
        · have b443_ : 0 ≤ Int32.toInt (M.1 114 (Int32.toNatClampNeg i1z432_)) ∧ Int32.toInt (M.1 114 (Int32.toNatClampNeg i1z432_)) ≤ 5 := zr_lt_l 5 c442_ b437_ b441_ (by decide)
          have b444_ : 1 ≤ Int32.toInt (M.1 114 (Int32.toNatClampNeg (i1z432_ + 1))) ∧ Int32.toInt (M.1 114 (Int32.toNatClampNeg (i1z432_ + 1))) ≤ 6 := zr_lt_r 1 c442_ b441_ b443_ (by decide)
          have d445_ : Int32.toInt (M.1 114 (Int32.toNatClampNeg i1z432_)) < Int32.toInt (M.1 114 (Int32.toNatClampNeg (i1z432_ + 1))) := (zi_lt _ _).mp c442_
          refine pw_blk hT 1 (S' := (35, [some (pvR 106), some (pvI i1z432_), none, none, none], [pvI i1z432_], M)) rfl ⟨trivial, trivial⟩ ?_
          refine pw_if hT (c := 0 ≤ i1z432_) rfl rfl (fun c446_ => ?_) (fun c446_ => absurd (by have z0 := (show 0 ≤ Int32.toInt 0 ∧ Int32.toInt 0 ≤ 0 from (by decide)); have z1 := b436_; rw [zi_le]; omega) c446_)
          obtain ⟨q448_, b447_⟩ : (Int32.toInt ((M.1 106 0) - 1) = Int32.toInt (M.1 106 0) - Int32.toInt 1) ∧ ((-1) ≤ Int32.toInt ((M.1 106 0) - 1) ∧ Int32.toInt ((M.1 106 0) - 1) ≤ 6) := zsub_r (M.1 106 0) 1 (-1) 6 b1_ (show 1 ≤ Int32.toInt 1 ∧ Int32.toInt 1 ≤ 1 from (by decide)) (by decide) (by decide) (by decide) (by decide)
          refine pw_blk hT 5 (S' := (47, [some (pvR 106), some (pvI i1z432_), some (pvI ((M.1 106 0) - 1)), none, none], [], M)) rfl ⟨trivial, rfl, trivial, trivial, trivial, trivial⟩ ?_
          have hlz719_ : ∀ (nz719_ : Nat) (i2z719_ : Int32), (0 ≤ Int32.toInt i2z719_ ∧ Int32.toInt i2z719_ ≤ 6) → (Int32.toInt i1z432_ ≤ Int32.toInt i2z719_) → ((Int32.toInt i2z719_ - (-1)).toNat < nz719_) → PW 156 d (47, [some (pvR 106), some (pvI i1z432_), some (pvI i2z719_), none, none], [], M) (fun r X => (∃ x : Int32, r = some (pvI x) ∧ 0 ≤ Int32.toInt x ∧ Int32.toInt x ≤ 1) ∧ pvOk X ∧ pvFr fp_X6_permute_106 M X) := by
            intro nz719_
            induction nz719_ with
            | zero => intro i2z719_ h2z719_ j0z719_ hmz719_; exact absurd hmz719_ (Nat.not_lt_zero _)
            | succ nz719_ ihz719_ =>
              intro i2z719_ h2z719_ j0z719_ hmz719_
              refine pw_blk hT 2 (S' := (49, [some (pvR 106), some (pvI i1z432_), some (pvI i2z719_), none, none], [pvI i1z432_, pvI i2z719_], M)) rfl ⟨trivial, trivial, trivial⟩ ?_
              refine pw_ic hT (c := i2z719_ ≤ i1z432_) rfl rfl (fun c720_ => ?_) (fun c720_ => ?_)
              · have b721_ : 0 ≤ Int32.toInt i2z719_ ∧ Int32.toInt i2z719_ ≤ 5 := zr_le_l 5 c720_ h2z719_ b436_ (by decide)
                have d722_ : Int32.toInt i2z719_ ≤ Int32.toInt i1z432_ := (zi_le _ _).mp c720_
                refine pw_blk hT 3 (S' := (76, [some (pvR 106), some (pvI i1z432_), some (pvI i2z719_), none, none], [pvI i2z719_, pvI i1z432_, pvR 106], M)) rfl ⟨trivial, trivial, trivial, trivial⟩ ?_
                refine pw_callV hT (as := [pvR 106, pvI i1z432_, pvI i2z719_]) (lo1 := [some (pvR 106), some (pvI i1z432_), some (pvI i2z719_), none]) (d1 := d) (rest := []) rfl rfl rfl rfl rfl (fun _ => rfl) (Nat.zero_le _) rfl rfl rfl (sf_X6_swap_106_x_x M hok i1z432_ i2z719_ (zr_wide b436_ (by decide) (by decide)) (zr_wide b721_ (by decide) (by decide)) d) (fun M724_ o726_ g727_ => ?_)
                have f728_ : pvFr fp_X6_permute_106 M M724_ := pvfr_t g727_ pvfr_0 fp_X6_permute_106_fp_X6_swap_106_x_x
                have b729_ : 0 ≤ Int32.toInt (M724_.1 106 0) ∧ Int32.toInt (M724_.1 106 0) ≤ 7 := pvok_r o726_ 106 0 rfl
                obtain ⟨q731_, b730_⟩ : (Int32.toInt ((M724_.1 106 0) - 1) = Int32.toInt (M724_.1 106 0) - Int32.toInt 1) ∧ ((-1) ≤ Int32.toInt ((M724_.1 106 0) - 1) ∧ Int32.toInt ((M724_.1 106 0) - 1) ≤ 6) := zsub_r (M724_.1 106 0) 1 (-1) 6 b729_ (show 1 ≤ Int32.toInt 1 ∧ Int32.toInt 1 ≤ 1 from (by decide)) (by decide) (by decide) (by decide) (by decide)
                refine pw_blk hT 9 (S' := (91, [some (pvR 106), some (pvI i1z432_), some (pvI i2z719_), some (pvI (i1z432_ + 1)), some (pvI ((M724_.1 106 0) - 1))], [], M724_)) rfl ⟨trivial, trivial, trivial, trivial, trivial, rfl, trivial, trivial, trivial, trivial⟩ ?_
                have hlz766_ : ∀ (nz766_ : Nat) (i3z766_ : Int32) (i4z766_ : Int32) (Mz766_ : pvM), (pvOk Mz766_) → (pvFr fp_X6_permute_106 M Mz766_) → (1 ≤ Int32.toInt i3z766_ ∧ Int32.toInt i3z766_ ≤ 6) → ((-1) ≤ Int32.toInt i4z766_ ∧ Int32.toInt i4z766_ ≤ 6) → ((7 - Int32.toInt i3z766_).toNat < nz766_) → PW 156 d (91, [some (pvR 106), some (pvI i1z432_), some (pvI i2z719_), some (pvI i3z766_), some (pvI i4z766_)], [], Mz766_) (fun r X => (∃ x : Int32, r = some (pvI x) ∧ 0 ≤ Int32.toInt x ∧ Int32.toInt x ≤ 1) ∧ pvOk X ∧ pvFr fp_X6_permute_106 M X) := by
                  intro nz766_
                  induction nz766_ with
                  | zero => intro i3z766_ i4z766_ Mz766_ oz766_ fz766_ h3z766_ h4z766_ hmz766_; exact absurd hmz766_ (Nat.not_lt_zero _)
                  | succ nz766_ ihz766_ =>
                    intro i3z766_ i4z766_ Mz766_ oz766_ fz766_ h3z766_ h4z766_ hmz766_
                    refine pw_blk hT 2 (S' := (94, [some (pvR 106), some (pvI i1z432_), some (pvI i2z719_), some (pvI i3z766_), some (pvI i4z766_)], [pvI i4z766_, pvI i3z766_], Mz766_)) rfl ⟨trivial, trivial, trivial⟩ ?_
                    refine pw_ic hT (c := i4z766_ ≤ i3z766_) rfl rfl (fun c767_ => ?_) (fun c767_ => ?_)
                    · have d768_ : Int32.toInt i4z766_ ≤ Int32.toInt i3z766_ := (zi_le _ _).mp c767_
                      refine pw_blk hT 1 (S' := (114, [some (pvR 106), some (pvI i1z432_), some (pvI i2z719_), some (pvI i3z766_), some (pvI i4z766_)], [pvI 1], Mz766_)) rfl ⟨trivial, trivial⟩ ?_
                      exact pw_ret hT rfl (r := some (pvI 1)) (M' := Mz766_) ⟨Or.inr rfl, rfl, rfl⟩ ⟨⟨_, rfl, (zr_wide (show 1 ≤ Int32.toInt 1 ∧ Int32.toInt 1 ≤ 1 from (by decide)) (by decide) (by decide))⟩, oz766_, fz766_⟩
                    · have b769_ : 2 ≤ Int32.toInt i4z766_ ∧ Int32.toInt i4z766_ ≤ 6 := zr_nle_l 2 c767_ h4z766_ h3z766_ (by decide)
                      have b770_ : 1 ≤ Int32.toInt i3z766_ ∧ Int32.toInt i3z766_ ≤ 5 := zr_nle_r 5 c767_ h3z766_ b769_ (by decide)
                      have d771_ : Int32.toInt i4z766_ > Int32.toInt i3z766_ := Int.not_le.mp ((not_congr (zi_le _ _)).mp c767_)
                      refine pw_blk hT 3 (S' := (101, [some (pvR 106), some (pvI i1z432_), some (pvI i2z719_), some (pvI i3z766_), some (pvI i4z766_)], [pvI i4z766_, pvI i3z766_, pvR 106], Mz766_)) rfl ⟨trivial, trivial, trivial, trivial⟩ ?_
                      refine pw_callV hT (as := [pvR 106, pvI i3z766_, pvI i4z766_]) (lo1 := [some (pvR 106), some (pvI i3z766_), some (pvI i4z766_), none]) (d1 := d) (rest := []) rfl rfl rfl rfl rfl (fun _ => rfl) (Nat.zero_le _) rfl rfl rfl (sf_X6_swap_106_x_x Mz766_ oz766_ i3z766_ i4z766_ (zr_wide b770_ (by decide) (by decide)) (zr_wide b769_ (by decide) (by decide)) d) (fun M773_ o775_ g776_ => ?_)
                      have f777_ : pvFr fp_X6_permute_106 M M773_ := pvfr_t g776_ fz766_ fp_X6_permute_106_fp_X6_swap_106_x_x
                      obtain ⟨q779_, b778_⟩ : (Int32.toInt (i3z766_ + 1) = Int32.toInt i3z766_ + Int32.toInt 1) ∧ (2 ≤ Int32.toInt (i3z766_ + 1) ∧ Int32.toInt (i3z766_ + 1) ≤ 6) := zadd_r i3z766_ 1 2 6 b770_ (show 1 ≤ Int32.toInt 1 ∧ Int32.toInt 1 ≤ 1 from (by decide)) (by decide) (by decide) (by decide) (by decide)
                      obtain ⟨q781_, b780_⟩ : (Int32.toInt (i4z766_ + (-1)) = Int32.toInt i4z766_ + Int32.toInt (-1)) ∧ (1 ≤ Int32.toInt (i4z766_ + (-1)) ∧ Int32.toInt (i4z766_ + (-1)) ≤ 5) := zadd_r i4z766_ (-1) 1 5 b769_ (show (-1) ≤ Int32.toInt (-1) ∧ Int32.toInt (-1) ≤ (-1) from (by decide)) (by decide) (by decide) (by decide) (by decide)
                      have u782_ : Int32.toInt (-1) = (-1) := by decide
                      refine pw_blk hT 3 (S' := (91, [some (pvR 106), some (pvI i1z432_), some (pvI i2z719_), some (pvI (i3z766_ + 1)), some (pvI (i4z766_ + (-1)))], [], M773_)) rfl ⟨trivial, trivial, trivial, trivial⟩ ?_
                      exact ihz766_ (i3z766_ + 1) (i4z766_ + (-1)) M773_ o775_ f777_ (zr_wide b778_ (by decide) (by decide)) (zr_wide b780_ (by decide) (by decide)) (by omega)
                exact hlz766_ _ (i1z432_ + 1) ((M724_.1 106 0) - 1) M724_ o726_ f728_ b438_ b730_ (Nat.lt_succ_self _)
              · have b783_ : 1 ≤ Int32.toInt i2z719_ ∧ Int32.toInt i2z719_ ≤ 6 := zr_nle_l 1 c720_ h2z719_ b436_ (by decide)
                have d784_ : Int32.toInt i2z719_ > Int32.toInt i1z432_ := Int.not_le.mp ((not_congr (zi_le _ _)).mp c720_)
                have b785_ : 0 ≤ Int32.toInt (M.1 114 (Int32.toNatClampNeg i2z719_)) ∧ Int32.toInt (M.1 114 (Int32.toNatClampNeg i2z719_)) ≤ 6 := pvok_r hok 114 (Int32.toNatClampNeg i2z719_) rfl
                refine pw_blk hT 8 (S' := (64, [some (pvR 106), some (pvI i1z432_), some (pvI i2z719_), none, none], [pvI (M.1 114 (Int32.toNatClampNeg i1z432_)), pvI (M.1 114 (Int32.toNatClampNeg i2z719_))], M)) rfl ⟨trivial, rfl, trivial, ⟨rfl, (zr_in (n := 7) b783_ (by decide) (by decide))⟩, trivial, rfl, trivial, ⟨rfl, (zr_in (n := 7) b436_ (by decide) (by decide))⟩, trivial⟩ ?_
                refine pw_ic hT (c := (M.1 114 (Int32.toNatClampNeg i1z432_)) < (M.1 114 (Int32.toNatClampNeg i2z719_))) rfl rfl (fun c786_ => ?_) (fun c786_ => ?_)
                · have b787_ : 1 ≤ Int32.toInt (M.1 114 (Int32.toNatClampNeg i2z719_)) ∧ Int32.toInt (M.1 114 (Int32.toNatClampNeg i2z719_)) ≤ 6 := zr_lt_r 1 c786_ b785_ b443_ (by decide)
                  have d788_ : Int32.toInt (M.1 114 (Int32.toNatClampNeg i1z432_)) < Int32.toInt (M.1 114 (Int32.toNatClampNeg i2z719_)) := (zi_lt _ _).mp c786_
                  refine pw_blk hT 3 (S' := (76, [some (pvR 106), some (pvI i1z432_), some (pvI i2z719_), none, none], [pvI i2z719_, pvI i1z432_, pvR 106], M)) rfl ⟨trivial, trivial, trivial, trivial⟩ ?_
                  refine pw_callV hT (as := [pvR 106, pvI i1z432_, pvI i2z719_]) (lo1 := [some (pvR 106), some (pvI i1z432_), some (pvI i2z719_), none]) (d1 := d) (rest := []) rfl rfl rfl rfl rfl (fun _ => rfl) (Nat.zero_le _) rfl rfl rfl (sf_X6_swap_106_x_x M hok i1z432_ i2z719_ (zr_wide b436_ (by decide) (by decide)) (zr_wide b783_ (by decide) (by decide)) d) (fun M790_ o792_ g793_ => ?_)
                  have f794_ : pvFr fp_X6_permute_106 M M790_ := pvfr_t g793_ pvfr_0 fp_X6_permute_106_fp_X6_swap_106_x_x
                  have b795_ : 0 ≤ Int32.toInt (M790_.1 106 0) ∧ Int32.toInt (M790_.1 106 0) ≤ 7 := pvok_r o792_ 106 0 rfl
                  obtain ⟨q797_, b796_⟩ : (Int32.toInt ((M790_.1 106 0) - 1) = Int32.toInt (M790_.1 106 0) - Int32.toInt 1) ∧ ((-1) ≤ Int32.toInt ((M790_.1 106 0) - 1) ∧ Int32.toInt ((M790_.1 106 0) - 1) ≤ 6) := zsub_r (M790_.1 106 0) 1 (-1) 6 b795_ (show 1 ≤ Int32.toInt 1 ∧ Int32.toInt 1 ≤ 1 from (by decide)) (by decide) (by decide) (by decide) (by decide)
                  refine pw_blk hT 9 (S' := (91, [some (pvR 106), some (pvI i1z432_), some (pvI i2z719_), some (pvI (i1z432_ + 1)), some (pvI ((M790_.1 106 0) - 1))], [], M790_)) rfl ⟨trivial, trivial, trivial, trivial, trivial, rfl, trivial, trivial, trivial, trivial⟩ ?_
                  have hlz832_ : ∀ (nz832_ : Nat) (i3z832_ : Int32) (i4z832_ : Int32) (Mz832_ : pvM), (pvOk Mz832_) → (pvFr fp_X6_permute_106 M Mz832_) → (1 ≤ Int32.toInt i3z832_ ∧ Int32.toInt i3z832_ ≤ 6) → ((-1) ≤ Int32.toInt i4z832_ ∧ Int32.toInt i4z832_ ≤ 6) → ((7 - Int32.toInt i3z832_).toNat < nz832_) → PW 156 d (91, [some (pvR 106), some (pvI i1z432_), some (pvI i2z719_), some (pvI i3z832_), some (pvI i4z832_)], [], Mz832_) (fun r X => (∃ x : Int32, r = some (pvI x) ∧ 0 ≤ Int32.toInt x ∧ Int32.toInt x ≤ 1) ∧ pvOk X ∧ pvFr fp_X6_permute_106 M X) := by
                    intro nz832_
                    induction nz832_ with
                    | zero => intro i3z832_ i4z832_ Mz832_ oz832_ fz832_ h3z832_ h4z832_ hmz832_; exact absurd hmz832_ (Nat.not_lt_zero _)
                    | succ nz832_ ihz832_ =>
                      intro i3z832_ i4z832_ Mz832_ oz832_ fz832_ h3z832_ h4z832_ hmz832_
                      refine pw_blk hT 2 (S' := (94, [some (pvR 106), some (pvI i1z432_), some (pvI i2z719_), some (pvI i3z832_), some (pvI i4z832_)], [pvI i4z832_, pvI i3z832_], Mz832_)) rfl ⟨trivial, trivial, trivial⟩ ?_
                      refine pw_ic hT (c := i4z832_ ≤ i3z832_) rfl rfl (fun c833_ => ?_) (fun c833_ => ?_)
                      · have d834_ : Int32.toInt i4z832_ ≤ Int32.toInt i3z832_ := (zi_le _ _).mp c833_
                        refine pw_blk hT 1 (S' := (114, [some (pvR 106), some (pvI i1z432_), some (pvI i2z719_), some (pvI i3z832_), some (pvI i4z832_)], [pvI 1], Mz832_)) rfl ⟨trivial, trivial⟩ ?_
                        exact pw_ret hT rfl (r := some (pvI 1)) (M' := Mz832_) ⟨Or.inr rfl, rfl, rfl⟩ ⟨⟨_, rfl, (zr_wide (show 1 ≤ Int32.toInt 1 ∧ Int32.toInt 1 ≤ 1 from (by decide)) (by decide) (by decide))⟩, oz832_, fz832_⟩
                      · have b835_ : 2 ≤ Int32.toInt i4z832_ ∧ Int32.toInt i4z832_ ≤ 6 := zr_nle_l 2 c833_ h4z832_ h3z832_ (by decide)
                        have b836_ : 1 ≤ Int32.toInt i3z832_ ∧ Int32.toInt i3z832_ ≤ 5 := zr_nle_r 5 c833_ h3z832_ b835_ (by decide)
                        have d837_ : Int32.toInt i4z832_ > Int32.toInt i3z832_ := Int.not_le.mp ((not_congr (zi_le _ _)).mp c833_)
                        refine pw_blk hT 3 (S' := (101, [some (pvR 106), some (pvI i1z432_), some (pvI i2z719_), some (pvI i3z832_), some (pvI i4z832_)], [pvI i4z832_, pvI i3z832_, pvR 106], Mz832_)) rfl ⟨trivial, trivial, trivial, trivial⟩ ?_
                        refine pw_callV hT (as := [pvR 106, pvI i3z832_, pvI i4z832_]) (lo1 := [some (pvR 106), some (pvI i3z832_), some (pvI i4z832_), none]) (d1 := d) (rest := []) rfl rfl rfl rfl rfl (fun _ => rfl) (Nat.zero_le _) rfl rfl rfl (sf_X6_swap_106_x_x Mz832_ oz832_ i3z832_ i4z832_ (zr_wide b836_ (by decide) (by decide)) (zr_wide b835_ (by decide) (by decide)) d) (fun M839_ o841_ g842_ => ?_)
                        have f843_ : pvFr fp_X6_permute_106 M M839_ := pvfr_t g842_ fz832_ fp_X6_permute_106_fp_X6_swap_106_x_x
                        obtain ⟨q845_, b844_⟩ : (Int32.toInt (i3z832_ + 1) = Int32.toInt i3z832_ + Int32.toInt 1) ∧ (2 ≤ Int32.toInt (i3z832_ + 1) ∧ Int32.toInt (i3z832_ + 1) ≤ 6) := zadd_r i3z832_ 1 2 6 b836_ (show 1 ≤ Int32.toInt 1 ∧ Int32.toInt 1 ≤ 1 from (by decide)) (by decide) (by decide) (by decide) (by decide)
                        obtain ⟨q847_, b846_⟩ : (Int32.toInt (i4z832_ + (-1)) = Int32.toInt i4z832_ + Int32.toInt (-1)) ∧ (1 ≤ Int32.toInt (i4z832_ + (-1)) ∧ Int32.toInt (i4z832_ + (-1)) ≤ 5) := zadd_r i4z832_ (-1) 1 5 b835_ (show (-1) ≤ Int32.toInt (-1) ∧ Int32.toInt (-1) ≤ (-1) from (by decide)) (by decide) (by decide) (by decide) (by decide)
                        have u848_ : Int32.toInt (-1) = (-1) := by decide
                        refine pw_blk hT 3 (S' := (91, [some (pvR 106), some (pvI i1z432_), some (pvI i2z719_), some (pvI (i3z832_ + 1)), some (pvI (i4z832_ + (-1)))], [], M839_)) rfl ⟨trivial, trivial, trivial, trivial⟩ ?_
                        exact ihz832_ (i3z832_ + 1) (i4z832_ + (-1)) M839_ o841_ f843_ (zr_wide b844_ (by decide) (by decide)) (zr_wide b846_ (by decide) (by decide)) (by omega)
                  exact hlz832_ _ (i1z432_ + 1) ((M790_.1 106 0) - 1) M790_ o792_ f794_ b438_ b796_ (Nat.lt_succ_self _)
                · have b849_ : 0 ≤ Int32.toInt (M.1 114 (Int32.toNatClampNeg i2z719_)) ∧ Int32.toInt (M.1 114 (Int32.toNatClampNeg i2z719_)) ≤ 5 := zr_nlt_r 5 c786_ b785_ b443_ (by decide)
                  have d850_ : Int32.toInt (M.1 114 (Int32.toNatClampNeg i1z432_)) ≥ Int32.toInt (M.1 114 (Int32.toNatClampNeg i2z719_)) := Int.not_lt.mp ((not_congr (zi_lt _ _)).mp c786_)
                  obtain ⟨q852_, b851_⟩ : (Int32.toInt (i2z719_ + (-1)) = Int32.toInt i2z719_ + Int32.toInt (-1)) ∧ (0 ≤ Int32.toInt (i2z719_ + (-1)) ∧ Int32.toInt (i2z719_ + (-1)) ≤ 5) := zadd_r i2z719_ (-1) 0 5 b783_ (show (-1) ≤ Int32.toInt (-1) ∧ Int32.toInt (-1) ≤ (-1) from (by decide)) (by decide) (by decide) (by decide) (by decide)
                  have u853_ : Int32.toInt (-1) = (-1) := by decide
                  refine pw_blk hT 2 (S' := (47, [some (pvR 106), some (pvI i1z432_), some (pvI (i2z719_ + (-1))), none, none], [], M)) rfl ⟨trivial, trivial, trivial⟩ ?_
                  have j854_ : Int32.toInt i1z432_ ≤ Int32.toInt (i2z719_ + (-1)) := by omega
                  exact ihz719_ (i2z719_ + (-1)) (zr_wide b851_ (by decide) (by decide)) j854_ (by omega)
          have j855_ : Int32.toInt i1z432_ ≤ Int32.toInt ((M.1 106 0) - 1) := by omega
          exact hlz719_ _ ((M.1 106 0) - 1) (by have u0 := b447_; omega) j855_ (Nat.lt_succ_self _)
        · have d856_ : Int32.toInt (M.1 114 (Int32.toNatClampNeg i1z432_)) ≥ Int32.toInt (M.1 114 (Int32.toNatClampNeg (i1z432_ + 1))) := Int.not_lt.mp ((not_congr (zi_lt _ _)).mp c442_)
          obtain ⟨q858_, b857_⟩ : (Int32.toInt (i1z432_ + (-1)) = Int32.toInt i1z432_ + Int32.toInt (-1)) ∧ ((-1) ≤ Int32.toInt (i1z432_ + (-1)) ∧ Int32.toInt (i1z432_ + (-1)) ≤ 4) := zadd_r i1z432_ (-1) (-1) 4 b436_ (show (-1) ≤ Int32.toInt (-1) ∧ Int32.toInt (-1) ≤ (-1) from (by decide)) (by decide) (by decide) (by decide) (by decide)
          have u859_ : Int32.toInt (-1) = (-1) := by decide
          refine pw_blk hT 2 (S' := (7, [some (pvR 106), some (pvI (i1z432_ + (-1))), none, none, none], [], M)) rfl ⟨trivial, trivial, trivial⟩ ?_
          have j860_ : Int32.toInt (i1z432_ + (-1)) ≤ Int32.toInt (M.1 106 0) - 2 := by omega
          exact ihz432_ (i1z432_ + (-1)) (zr_wide b857_ (by decide) (by decide)) j860_ (by omega)
  have j861_ : Int32.toInt ((M.1 106 0) - 2) ≤ Int32.toInt (M.1 106 0) - 2 := by omega
  exact hlz432_ _ ((M.1 106 0) - 2) b2_ j861_ (Nat.lt_succ_self _)
set_option maxHeartbeats 4000000 in
set_option maxRecDepth 10000 in
theorem sf_X6_isFull_106 (M : pvM) (hok : pvOk M) (d : Nat) : PW 154 d (0, [some (pvR 106)], [], M) (fun r X => r = some (pvI ((if (M.1 106 0) < (Int32.ofNat 7) then 0 else 1))) ∧ X = M) := by
  have hT : pvdom 154 = pvD_154 := rfl
  have b1_ : 0 ≤ Int32.toInt (M.1 106 0) ∧ Int32.toInt (M.1 106 0) ≤ 7 := pvok_r hok 106 0 rfl
  refine pw_blk hT 5 (S' := (9, [some (pvR 106)], [pvI (Int32.ofNat 7), pvI (M.1 106 0)], M)) rfl ⟨trivial, rfl, trivial, rfl, rfl, trivial⟩ ?_
  refine pw_ic hT (c := (M.1 106 0) < (Int32.ofNat 7)) rfl rfl (fun c2_ => ?_) (fun c2_ => ?_)
  · have b3_ : 0 ≤ Int32.toInt (M.1 106 0) ∧ Int32.toInt (M.1 106 0) ≤ 6 := zr_lt_l 6 c2_ b1_ (show 7 ≤ Int32.toInt (Int32.ofNat 7) ∧ Int32.toInt (Int32.ofNat 7) ≤ 7 from (by decide)) (by decide)
    refine pw_blk hT 1 (S' := (17, [some (pvR 106)], [pvI 0], M)) rfl ⟨trivial, trivial⟩ ?_
    exact pw_ret hT rfl (r := some (pvI 0)) (M' := M) ⟨Or.inl rfl, rfl, rfl⟩ ⟨(by rw [if_pos c2_]), rfl⟩
  · have b4_ : 7 ≤ Int32.toInt (M.1 106 0) ∧ Int32.toInt (M.1 106 0) ≤ 7 := zr_nlt_l 7 c2_ b1_ (show 7 ≤ Int32.toInt (Int32.ofNat 7) ∧ Int32.toInt (Int32.ofNat 7) ≤ 7 from (by decide)) (by decide)
    refine pw_blk hT 2 (S' := (17, [some (pvR 106)], [pvI 1], M)) rfl ⟨trivial, trivial, trivial⟩ ?_
    exact pw_ret hT rfl (r := some (pvI 1)) (M' := M) ⟨Or.inr rfl, rfl, rfl⟩ ⟨(by rw [if_neg c2_]), rfl⟩
def fpL_X6_append_106_x_x : List (Nat × Nat × Nat) := [(0, 106, 1), (0, 114, 0), (0, 122, 0)]
def fp_X6_append_106_x_x (q k : Nat) : Bool := pvfp fpL_X6_append_106_x_x q k
set_option maxHeartbeats 4000000 in
set_option maxRecDepth 10000 in
theorem sf_X6_append_106_x_x (M : pvM) (hok : pvOk M) (n1 : Int32) (n2 : Int32) (hn1 : 0 ≤ Int32.toInt n1 ∧ Int32.toInt n1 ≤ 6) (hn2 : 0 ≤ Int32.toInt n2 ∧ Int32.toInt n2 ≤ 9999) (d : Nat) : PW 151 d (0, [some (pvR 106), some (pvI n1), some (pvI n2)], [], M) (fun r X => (∃ x : Int32, r = some (pvI x) ∧ 1 ≤ Int32.toInt x ∧ Int32.toInt x ≤ 7) ∧ pvOk X ∧ pvFr fp_X6_append_106_x_x M X) := by
  have hT : pvdom 151 = pvD_151 := rfl
  refine pw_blk hT 1 (S' := (1, [some (pvR 106), some (pvI n1), some (pvI n2)], [pvR 106], M)) rfl ⟨trivial, trivial⟩ ?_
  refine pw_callT hT (as := [pvR 106]) (lo1 := [some (pvR 106)]) (d1 := d) (rest := []) rfl rfl rfl rfl rfl (fun _ => rfl) (Nat.zero_le _) rfl rfl rfl (sf_X6_isFull_106 M hok d) ?_
  have b6_ : 0 ≤ Int32.toInt (M.1 106 0) ∧ Int32.toInt (M.1 106 0) ≤ 7 := pvok_r hok 106 0 rfl
  by_cases c7_ : (M.1 106 0) < (Int32.ofNat 7)
  · refine pw_eqI (if_pos c7_) ?_
    have b8_ : 0 ≤ Int32.toInt (M.1 106 0) ∧ Int32.toInt (M.1 106 0) ≤ 6 := zr_lt_l 6 c7_ b6_ (show 7 ≤ Int32.toInt (Int32.ofNat 7) ∧ Int32.toInt (Int32.ofNat 7) ≤ 7 from (by decide)) (by decide)
    show PW 151 d (4, [some (pvR 106), some (pvI n1), some (pvI n2)], [pvI 0], M) _
    refine pw_if hT (c := 0 = 0) rfl rfl (fun c9_ => ?_) (fun c9_ => absurd (by decide) c9_)
    refine pw_blkw hT 6 (pc := 22) (lo := [some (pvR 106), some (pvI n1), some (pvI n2)]) (st := []) (M := pvu M 114 (Int32.toNatClampNeg (M.1 106 0)) n1) rfl ⟨trivial, rfl, trivial, rfl, trivial, ⟨rfl, (zr_in (n := 7) b8_ (by decide) (by decide))⟩, trivial⟩ (fun M10_ e11_ => ?_)
    have o12_ : pvOk M10_ := pvok_u2 e11_ hok rfl hn1
    have f13_ : pvFr fp_X6_append_106_x_x M M10_ := pvfr_u e11_ pvfr_0 rfl
    have e14_ : (M10_.1 106 0) = (M.1 106 0) := (pvu_n e11_ 106 0 (Or.inl (by decide)))
    have b15_ : 0 ≤ Int32.toInt (M10_.1 106 0) ∧ Int32.toInt (M10_.1 106 0) ≤ 6 := (by rw [e14_]; exact b8_)
    refine pw_blkw hT 6 (pc := 32) (lo := [some (pvR 106), some (pvI n1), some (pvI n2)]) (st := []) (M := pvu M10_ 122 (Int32.toNatClampNeg (M10_.1 106 0)) n2) rfl ⟨trivial, rfl, trivial, rfl, trivial, ⟨rfl, (zr_in (n := 7) b15_ (by decide) (by decide))⟩, trivial⟩ (fun M16_ e17_ => ?_)
    have o18_ : pvOk M16_ := pvok_u2 e17_ o12_ rfl hn2
    have f19_ : pvFr fp_X6_append_106_x_x M M16_ := pvfr_u e17_ f13_ rfl
    have e20_ : (M16_.1 106 0) = (M10_.1 106 0) := (pvu_n e17_ 106 0 (Or.inl (by decide)))
    have b21_ : 0 ≤ Int32.toInt (M16_.1 106 0) ∧ Int32.toInt (M16_.1 106 0) ≤ 6 := (by rw [e20_]; exact b15_)
    obtain ⟨q23_, b22_⟩ : (Int32.toInt ((M16_.1 106 0) + 1) = Int32.toInt (M16_.1 106 0) + Int32.toInt 1) ∧ (1 ≤ Int32.toInt ((M16_.1 106 0) + 1) ∧ Int32.toInt ((M16_.1 106 0) + 1) ≤ 7) := zadd_r (M16_.1 106 0) 1 1 7 b21_ (show 1 ≤ Int32.toInt 1 ∧ Int32.toInt 1 ≤ 1 from (by decide)) (by decide) (by decide) (by decide) (by decide)
    have u24_ : Int32.toInt 1 = 1 := by decide
    refine pw_blkw hT 6 (pc := 42) (lo := [some (pvR 106), some (pvI n1), some (pvI n2)]) (st := []) (M := pvu M16_ 106 0 ((M16_.1 106 0) + 1)) rfl ⟨trivial, trivial, rfl, trivial, trivial, rfl, trivial⟩ (fun M25_ e26_ => ?_)
    have o27_ : pvOk M25_ := pvok_u2 e26_ o18_ rfl (zr_wide b22_ (by decide) (by decide))
    have f28_ : pvFr fp_X6_append_106_x_x M M25_ := pvfr_u e26_ f19_ rfl
    have e29_ : (M25_.1 106 0) = ((M16_.1 106 0) + 1) := (pvu_s e26_)
    have b30_ : 1 ≤ Int32.toInt (M25_.1 106 0) ∧ Int32.toInt (M25_.1 106 0) ≤ 7 := (by rw [e29_]; exact b22_)
    refine pw_blk hT 2 (S' := (46, [some (pvR 106), some (pvI n1), some (pvI n2)], [pvI (M25_.1 106 0)], M25_)) rfl ⟨trivial, rfl, trivial⟩ ?_
    exact pw_ret hT rfl (r := some (pvI (M25_.1 106 0))) (M' := M25_) ⟨rfl, rfl⟩ ⟨⟨_, rfl, b30_⟩, o27_, f28_⟩
  · refine pw_eqI (if_neg c7_) ?_
    have b31_ : 7 ≤ Int32.toInt (M.1 106 0) ∧ Int32.toInt (M.1 106 0) ≤ 7 := zr_nlt_l 7 c7_ b6_ (show 7 ≤ Int32.toInt (Int32.ofNat 7) ∧ Int32.toInt (Int32.ofNat 7) ≤ 7 from (by decide)) (by decide)
    show PW 151 d (4, [some (pvR 106), some (pvI n1), some (pvI n2)], [pvI 1], M) _
    refine pw_if hT (c := 1 = 0) rfl rfl (fun c32_ => absurd c32_ (by decide)) (fun c32_ => ?_)
    refine pw_blk hT 2 (S' := (11, [some (pvR 106), some (pvI n1), some (pvI n2)], [pvI (M.1 106 0)], M)) rfl ⟨trivial, rfl, trivial⟩ ?_
    exact pw_ret hT rfl (r := some (pvI (M.1 106 0))) (M' := M) ⟨rfl, rfl⟩ ⟨⟨_, rfl, (zr_wide b31_ (by decide) (by decide))⟩, hok, pvfr_0⟩
def fpL_X1_seekBest_5 : List (Nat × Nat × Nat) := [(0, 106, 1), (0, 107, 1), (0, 114, 0), (0, 115, 0), (0, 12, 0), (0, 122, 0), (0, 123, 0), (0, 5, 7)]
def fp_X1_seekBest_5 (q k : Nat) : Bool := pvfp fpL_X1_seekBest_5 q k
theorem fp_X1_seekBest_5_fp_X1_costOfTried_5 (a b : Nat) (h : fp_X1_costOfTried_5 a b = true) : fp_X1_seekBest_5 a b = true := pvfp_sub (l1 := fpL_X1_costOfTried_5) (l2 := fpL_X1_seekBest_5) (by decide) a b h
theorem fp_X1_seekBest_5_fp_X6_append_106_x_x (a b : Nat) (h : fp_X6_append_106_x_x a b = true) : fp_X1_seekBest_5 a b = true := pvfp_sub (l1 := fpL_X6_append_106_x_x) (l2 := fpL_X1_seekBest_5) (by decide) a b h
theorem fp_X1_seekBest_5_fp_X6_becomeAs_107_106 (a b : Nat) (h : fp_X6_becomeAs_107_106 a b = true) : fp_X1_seekBest_5 a b = true := pvfp_sub (l1 := fpL_X6_becomeAs_107_106) (l2 := fpL_X1_seekBest_5) (by decide) a b h
theorem fp_X1_seekBest_5_fp_X6_clear_106 (a b : Nat) (h : fp_X6_clear_106 a b = true) : fp_X1_seekBest_5 a b = true := pvfp_sub (l1 := fpL_X6_clear_106) (l2 := fpL_X1_seekBest_5) (by decide) a b h
theorem fp_X1_seekBest_5_fp_X6_permute_106 (a b : Nat) (h : fp_X6_permute_106 a b = true) : fp_X1_seekBest_5 a b = true := pvfp_sub (l1 := fpL_X6_permute_106) (l2 := fpL_X1_seekBest_5) (by decide) a b h
set_option maxHeartbeats 4000000 in
set_option maxRecDepth 10000 in
theorem sf_X1_seekBest_5 (M : pvM) (hok : pvOk M) (d : Nat) : PW 117 d (0, [some (pvR 5), none, none], [], M) (fun r X => r = none ∧ pvOk X ∧ pvFr fp_X1_seekBest_5 M X) := by
  have hT : pvdom 117 = pvD_117 := rfl
  refine pw_blk hT 2 (S' := (4, [some (pvR 5), none, none], [pvR 106], M)) rfl ⟨trivial, rfl, trivial⟩ ?_
  refine pw_callG hT (as := [pvR 106]) (lo1 := [some (pvR 106)]) (d1 := d) (rest := []) rfl rfl rfl rfl rfl (fun _ => rfl) (Nat.zero_le _) rfl rfl rfl (sf_X6_clear_106 M hok d) (fun x1_ M2_ b3_ o4_ g5_ => ?_)
  have f6_ : pvFr fp_X1_seekBest_5 M M2_ := pvfr_t g5_ pvfr_0 fp_X1_seekBest_5_fp_X6_clear_106
  refine pw_blk hT 3 (S' := (10, [some (pvR 5), some (pvI 0), none], [], M2_)) rfl ⟨trivial, trivial, trivial, trivial⟩ ?_
  have hlz1419_ : ∀ (nz1419_ : Nat) (i1z1419_ : Int32) (Mz1419_ : pvM), (pvOk Mz1419_) → (pvFr fp_X1_seekBest_5 M Mz1419_) → (0 ≤ Int32.toInt i1z1419_ ∧ Int32.toInt i1z1419_ ≤ 7) → ((8 - Int32.toInt i1z1419_).toNat < nz1419_) → PW 117 d (10, [some (pvR 5), some (pvI i1z1419_), none], [], Mz1419_) (fun r X => r = none ∧ pvOk X ∧ pvFr fp_X1_seekBest_5 M X) := by
    intro nz1419_
    induction nz1419_ with
    | zero => intro i1z1419_ Mz1419_ oz1419_ fz1419_ h1z1419_ hmz1419_; exact absurd hmz1419_ (Nat.not_lt_zero _)
    | succ nz1419_ ihz1419_ =>
      intro i1z1419_ Mz1419_ oz1419_ fz1419_ h1z1419_ hmz1419_
      have b1420_ : 0 ≤ Int32.toInt (Mz1419_.1 8 1) ∧ Int32.toInt (Mz1419_.1 8 1) ≤ 7 := pvok_r oz1419_ 8 1 rfl
      refine pw_blk hT 4 (S' := (18, [some (pvR 5), some (pvI i1z1419_), none], [pvI (Mz1419_.1 8 1), pvI i1z1419_], Mz1419_)) rfl ⟨trivial, trivial, rfl, rfl, trivial⟩ ?_
      refine pw_ic hT (c := (Mz1419_.1 8 1) ≤ i1z1419_) rfl rfl (fun c1421_ => ?_) (fun c1421_ => ?_)
      · have d1422_ : Int32.toInt (Mz1419_.1 8 1) ≤ Int32.toInt i1z1419_ := (zi_le _ _).mp c1421_
        refine pw_blk hT 2 (S' := (54, [some (pvR 5), some (pvI 0), none], [], Mz1419_)) rfl ⟨trivial, trivial, trivial⟩ ?_
        have hlz1676_ : ∀ (nz1676_ : Nat) (i1z1676_ : Int32) (v2z1676_ : Option pvV) (Mz1676_ : pvM), (pvOk Mz1676_) → (pvFr fp_X1_seekBest_5 M Mz1676_) → (0 ≤ Int32.toInt i1z1676_ ∧ Int32.toInt i1z1676_ ≤ 120) → ((121 - Int32.toInt i1z1676_).toNat < nz1676_) → PW 117 d (54, [some (pvR 5), some (pvI i1z1676_), v2z1676_], [], Mz1676_) (fun r X => r = none ∧ pvOk X ∧ pvFr fp_X1_seekBest_5 M X) := by
          intro nz1676_
          induction nz1676_ with
          | zero => intro i1z1676_ v2z1676_ Mz1676_ oz1676_ fz1676_ h1z1676_ hmz1676_; exact absurd hmz1676_ (Nat.not_lt_zero _)
          | succ nz1676_ ihz1676_ =>
            intro i1z1676_ v2z1676_ Mz1676_ oz1676_ fz1676_ h1z1676_ hmz1676_
            refine pw_blk hT 2 (S' := (57, [some (pvR 5), some (pvI i1z1676_), v2z1676_], [pvI 120, pvI i1z1676_], Mz1676_)) rfl ⟨trivial, trivial, trivial⟩ ?_
            refine pw_ic hT (c := 120 ≤ i1z1676_) rfl rfl (fun c1677_ => ?_) (fun c1677_ => ?_)
            · have b1678_ : 120 ≤ Int32.toInt i1z1676_ ∧ Int32.toInt i1z1676_ ≤ 120 := zr_le_r 120 c1677_ h1z1676_ (show 120 ≤ Int32.toInt 120 ∧ Int32.toInt 120 ≤ 120 from (by decide)) (by decide)
              exact pw_ret hT rfl (r := none) (M' := Mz1676_) ⟨rfl, rfl⟩ ⟨rfl, oz1676_, fz1676_⟩
            · have b1679_ : 0 ≤ Int32.toInt i1z1676_ ∧ Int32.toInt i1z1676_ ≤ 119 := zr_nle_r 119 c1677_ h1z1676_ (show 120 ≤ Int32.toInt 120 ∧ Int32.toInt 120 ≤ 120 from (by decide)) (by decide)
              refine pw_blk hT 1 (S' := (61, [some (pvR 5), some (pvI i1z1676_), v2z1676_], [pvR 5], Mz1676_)) rfl ⟨trivial, trivial⟩ ?_
              refine pw_callG hT (as := [pvR 5]) (lo1 := [some (pvR 5)]) (d1 := d) (rest := []) rfl rfl rfl rfl rfl (fun _ => rfl) (Nat.zero_le _) rfl rfl rfl (sf_X1_costOfTried_5 Mz1676_ oz1676_ d) (fun x1680_ M1681_ b1682_ o1683_ g1684_ => ?_)
              have f1685_ : pvFr fp_X1_seekBest_5 M M1681_ := pvfr_t g1684_ fz1676_ fp_X1_seekBest_5_fp_X1_costOfTried_5
              refine pw_blk hT 2 (S' := (66, [some (pvR 5), some (pvI i1z1676_), some (pvI x1680_)], [pvI i1z1676_], M1681_)) rfl ⟨trivial, trivial, trivial⟩ ?_
              refine pw_if hT (c := i1z1676_ = 0) rfl rfl (fun c1686_ => ?_) (fun c1686_ => ?_)
              · have b1687_ : 0 ≤ Int32.toInt i1z1676_ ∧ Int32.toInt i1z1676_ ≤ 0 := (by have u0 := b1679_; have u1 := (zi_eq _ _).mp c1686_; have u2 := (show 0 ≤ Int32.toInt 0 ∧ Int32.toInt 0 ≤ 0 from (by decide)); omega)
                refine pw_blkw hT 3 (pc := 82) (lo := [some (pvR 5), some (pvI i1z1676_), some (pvI x1680_)]) (st := []) (M := pvu M1681_ 5 6 x1680_) rfl ⟨trivial, trivial, rfl, trivial⟩ (fun M1688_ e1689_ => ?_)
                have o1690_ : pvOk M1688_ := pvok_u2 e1689_ o1683_ rfl (zbnd x1680_)
                have f1691_ : pvFr fp_X1_seekBest_5 M M1688_ := pvfr_u e1689_ f1685_ rfl
                refine pw_blk hT 4 (S' := (90, [some (pvR 5), some (pvI i1z1676_), some (pvI x1680_)], [pvR 106, pvR 107], M1688_)) rfl ⟨trivial, rfl, trivial, rfl, trivial⟩ ?_
                refine pw_callV hT (as := [pvR 107, pvR 106]) (lo1 := [some (pvR 107), some (pvR 106), none]) (d1 := d) (rest := []) rfl rfl rfl rfl rfl (fun _ => rfl) (Nat.zero_le _) rfl rfl rfl (sf_X6_becomeAs_107_106 M1688_ o1690_ d) (fun M1693_ o1695_ g1696_ => ?_)
                have f1697_ : pvFr fp_X1_seekBest_5 M M1693_ := pvfr_t g1696_ f1691_ fp_X1_seekBest_5_fp_X6_becomeAs_107_106
                refine pw_blk hT 2 (S' := (97, [some (pvR 5), some (pvI i1z1676_), some (pvI x1680_)], [pvR 106], M1693_)) rfl ⟨trivial, rfl, trivial⟩ ?_
                refine pw_callG hT (as := [pvR 106]) (lo1 := [some (pvR 106), none, none, none, none]) (d1 := d) (rest := []) rfl rfl rfl rfl rfl (fun _ => rfl) (Nat.zero_le _) rfl rfl rfl (sf_X6_permute_106 M1693_ o1695_ d) (fun x1698_ M1699_ b1700_ o1701_ g1702_ => ?_)
                have f1703_ : pvFr fp_X1_seekBest_5 M M1699_ := pvfr_t g1702_ f1697_ fp_X1_seekBest_5_fp_X6_permute_106
                refine pw_ifn hT (c := x1698_ = 0) rfl rfl (fun c1704_ => ?_) (fun c1704_ => ?_)
                · have b1705_ : 1 ≤ Int32.toInt x1698_ ∧ Int32.toInt x1698_ ≤ 1 := (by have u0 := b1700_; have u1 := (not_congr (zi_eq _ _)).mp c1704_; have u2 := (show 0 ≤ Int32.toInt 0 ∧ Int32.toInt 0 ≤ 0 from (by decide)); omega)
                  obtain ⟨q1707_, b1706_⟩ : (Int32.toInt (i1z1676_ + 1) = Int32.toInt i1z1676_ + Int32.toInt 1) ∧ (1 ≤ Int32.toInt (i1z1676_ + 1) ∧ Int32.toInt (i1z1676_ + 1) ≤ 1) := zadd_r i1z1676_ 1 1 1 b1687_ (show 1 ≤ Int32.toInt 1 ∧ Int32.toInt 1 ≤ 1 from (by decide)) (by decide) (by decide) (by decide) (by decide)
                  have u1708_ : Int32.toInt 1 = 1 := by decide
                  refine pw_blk hT 2 (S' := (54, [some (pvR 5), some (pvI (i1z1676_ + 1)), some (pvI x1680_)], [], M1699_)) rfl ⟨trivial, trivial, trivial⟩ ?_
                  exact ihz1676_ (i1z1676_ + 1) (some (pvI x1680_)) M1699_ o1701_ f1703_ (zr_wide b1706_ (by decide) (by decide)) (by omega)
                · have b1709_ : 0 ≤ Int32.toInt x1698_ ∧ Int32.toInt x1698_ ≤ 0 := (by have u0 := b1700_; have u1 := (zi_eq _ _).mp c1704_; have u2 := (show 0 ≤ Int32.toInt 0 ∧ Int32.toInt 0 ≤ 0 from (by decide)); omega)
                  exact pw_ret hT rfl (r := none) (M' := M1699_) ⟨rfl, rfl⟩ ⟨rfl, o1701_, f1703_⟩
              · have b1710_ : 1 ≤ Int32.toInt i1z1676_ ∧ Int32.toInt i1z1676_ ≤ 119 := (by have u0 := b1679_; have u1 := (not_congr (zi_eq _ _)).mp c1686_; have u2 := (show 0 ≤ Int32.toInt 0 ∧ Int32.toInt 0 ≤ 0 from (by decide)); omega)
                refine pw_blk hT 3 (S' := (74, [some (pvR 5), some (pvI i1z1676_), some (pvI x1680_)], [pvI (M1681_.1 5 6), pvI x1680_], M1681_)) rfl ⟨trivial, trivial, rfl, trivial⟩ ?_
                refine pw_ic hT (c := (M1681_.1 5 6) ≤ x1680_) rfl rfl (fun c1711_ => ?_) (fun c1711_ => ?_)
                · have b1712_ : (-2147483648) ≤ Int32.toInt (M1681_.1 5 6) ∧ Int32.toInt (M1681_.1 5 6) ≤ 35000000 := zr_le_l 35000000 c1711_ (zbnd (M1681_.1 5 6)) b1682_ (by decide)
                  have d1713_ : Int32.toInt (M1681_.1 5 6) ≤ Int32.toInt x1680_ := (zi_le _ _).mp c1711_
                  refine pw_blk hT 2 (S' := (97, [some (pvR 5), some (pvI i1z1676_), some (pvI x1680_)], [pvR 106], M1681_)) rfl ⟨trivial, rfl, trivial⟩ ?_
                  refine pw_callG hT (as := [pvR 106]) (lo1 := [some (pvR 106), none, none, none, none]) (d1 := d) (rest := []) rfl rfl rfl rfl rfl (fun _ => rfl) (Nat.zero_le _) rfl rfl rfl (sf_X6_permute_106 M1681_ o1683_ d) (fun x1714_ M1715_ b1716_ o1717_ g1718_ => ?_)
                  have f1719_ : pvFr fp_X1_seekBest_5 M M1715_ := pvfr_t g1718_ f1685_ fp_X1_seekBest_5_fp_X6_permute_106
                  refine pw_ifn hT (c := x1714_ = 0) rfl rfl (fun c1720_ => ?_) (fun c1720_ => ?_)
                  · have b1721_ : 1 ≤ Int32.toInt x1714_ ∧ Int32.toInt x1714_ ≤ 1 := (by have u0 := b1716_; have u1 := (not_congr (zi_eq _ _)).mp c1720_; have u2 := (show 0 ≤ Int32.toInt 0 ∧ Int32.toInt 0 ≤ 0 from (by decide)); omega)
                    obtain ⟨q1723_, b1722_⟩ : (Int32.toInt (i1z1676_ + 1) = Int32.toInt i1z1676_ + Int32.toInt 1) ∧ (2 ≤ Int32.toInt (i1z1676_ + 1) ∧ Int32.toInt (i1z1676_ + 1) ≤ 120) := zadd_r i1z1676_ 1 2 120 b1710_ (show 1 ≤ Int32.toInt 1 ∧ Int32.toInt 1 ≤ 1 from (by decide)) (by decide) (by decide) (by decide) (by decide)
                    have u1724_ : Int32.toInt 1 = 1 := by decide
                    refine pw_blk hT 2 (S' := (54, [some (pvR 5), some (pvI (i1z1676_ + 1)), some (pvI x1680_)], [], M1715_)) rfl ⟨trivial, trivial, trivial⟩ ?_
                    exact ihz1676_ (i1z1676_ + 1) (some (pvI x1680_)) M1715_ o1717_ f1719_ (zr_wide b1722_ (by decide) (by decide)) (by omega)
                  · have b1725_ : 0 ≤ Int32.toInt x1714_ ∧ Int32.toInt x1714_ ≤ 0 := (by have u0 := b1716_; have u1 := (zi_eq _ _).mp c1720_; have u2 := (show 0 ≤ Int32.toInt 0 ∧ Int32.toInt 0 ≤ 0 from (by decide)); omega)
                    exact pw_ret hT rfl (r := none) (M' := M1715_) ⟨rfl, rfl⟩ ⟨rfl, o1717_, f1719_⟩
                · have b1726_ : 1 ≤ Int32.toInt (M1681_.1 5 6) ∧ Int32.toInt (M1681_.1 5 6) ≤ 2147483647 := zr_nle_l 1 c1711_ (zbnd (M1681_.1 5 6)) b1682_ (by decide)
                  have d1727_ : Int32.toInt (M1681_.1 5 6) > Int32.toInt x1680_ := Int.not_le.mp ((not_congr (zi_le _ _)).mp c1711_)
                  refine pw_blkw hT 3 (pc := 82) (lo := [some (pvR 5), some (pvI i1z1676_), some (pvI x1680_)]) (st := []) (M := pvu M1681_ 5 6 x1680_) rfl ⟨trivial, trivial, rfl, trivial⟩ (fun M1728_ e1729_ => ?_)
                  have o1730_ : pvOk M1728_ := pvok_u2 e1729_ o1683_ rfl (zbnd x1680_)
                  have f1731_ : pvFr fp_X1_seekBest_5 M M1728_ := pvfr_u e1729_ f1685_ rfl
                  refine pw_blk hT 4 (S' := (90, [some (pvR 5), some (pvI i1z1676_), some (pvI x1680_)], [pvR 106, pvR 107], M1728_)) rfl ⟨trivial, rfl, trivial, rfl, trivial⟩ ?_
                  refine pw_callV hT (as := [pvR 107, pvR 106]) (lo1 := [some (pvR 107), some (pvR 106), none]) (d1 := d) (rest := []) rfl rfl rfl rfl rfl (fun _ => rfl) (Nat.zero_le _) rfl rfl rfl (sf_X6_becomeAs_107_106 M1728_ o1730_ d) (fun M1733_ o1735_ g1736_ => ?_)
                  have f1737_ : pvFr fp_X1_seekBest_5 M M1733_ := pvfr_t g1736_ f1731_ fp_X1_seekBest_5_fp_X6_becomeAs_107_106
                  refine pw_blk hT 2 (S' := (97, [some (pvR 5), some (pvI i1z1676_), some (pvI x1680_)], [pvR 106], M1733_)) rfl ⟨trivial, rfl, trivial⟩ ?_
                  refine pw_callG hT (as := [pvR 106]) (lo1 := [some (pvR 106), none, none, none, none]) (d1 := d) (rest := []) rfl rfl rfl rfl rfl (fun _ => rfl) (Nat.zero_le _) rfl rfl rfl (sf_X6_permute_106 M1733_ o1735_ d) (fun x1738_ M1739_ b1740_ o1741_ g1742_ => ?_)
                  have f1743_ : pvFr fp_X1_seekBest_5 M M1739_ := pvfr_t g1742_ f1737_ fp_X1_seekBest_5_fp_X6_permute_106
                  refine pw_ifn hT (c := x1738_ = 0) rfl rfl (fun c1744_ => ?_) (fun c1744_ => ?_)
                  · have b1745_ : 1 ≤ Int32.toInt x1738_ ∧ Int32.toInt x1738_ ≤ 1 := (by have u0 := b1740_; have u1 := (not_congr (zi_eq _ _)).mp c1744_; have u2 := (show 0 ≤ Int32.toInt 0 ∧ Int32.toInt 0 ≤ 0 from (by decide)); omega)
                    obtain ⟨q1747_, b1746_⟩ : (Int32.toInt (i1z1676_ + 1) = Int32.toInt i1z1676_ + Int32.toInt 1) ∧ (2 ≤ Int32.toInt (i1z1676_ + 1) ∧ Int32.toInt (i1z1676_ + 1) ≤ 120) := zadd_r i1z1676_ 1 2 120 b1710_ (show 1 ≤ Int32.toInt 1 ∧ Int32.toInt 1 ≤ 1 from (by decide)) (by decide) (by decide) (by decide) (by decide)
                    have u1748_ : Int32.toInt 1 = 1 := by decide
                    refine pw_blk hT 2 (S' := (54, [some (pvR 5), some (pvI (i1z1676_ + 1)), some (pvI x1680_)], [], M1739_)) rfl ⟨trivial, trivial, trivial⟩ ?_
                    exact ihz1676_ (i1z1676_ + 1) (some (pvI x1680_)) M1739_ o1741_ f1743_ (zr_wide b1746_ (by decide) (by decide)) (by omega)
                  · have b1749_ : 0 ≤ Int32.toInt x1738_ ∧ Int32.toInt x1738_ ≤ 0 := (by have u0 := b1740_; have u1 := (zi_eq _ _).mp c1744_; have u2 := (show 0 ≤ Int32.toInt 0 ∧ Int32.toInt 0 ≤ 0 from (by decide)); omega)
                    exact pw_ret hT rfl (r := none) (M' := M1739_) ⟨rfl, rfl⟩ ⟨rfl, o1741_, f1743_⟩
        exact hlz1676_ _ 0 none Mz1419_ oz1419_ fz1419_ (zr_wide (show 0 ≤ Int32.toInt 0 ∧ Int32.toInt 0 ≤ 0 from (by decide)) (by decide) (by decide)) (Nat.lt_succ_self _)
      · have b1750_ : 1 ≤ Int32.toInt (Mz1419_.1 8 1) ∧ Int32.toInt (Mz1419_.1 8 1) ≤ 7 := zr_nle_l 1 c1421_ b1420_ h1z1419_ (by decide)
        have b1751_ : 0 ≤ Int32.toInt i1z1419_ ∧ Int32.toInt i1z1419_ ≤ 6 := zr_nle_r 6 c1421_ h1z1419_ b1750_ (by decide)
        have d1752_ : Int32.toInt (Mz1419_.1 8 1) > Int32.toInt i1z1419_ := Int.not_le.mp ((not_congr (zi_le _ _)).mp c1421_)
        refine pw_blkr hT 5 (pc := 30) (lo := [some (pvR 5), some (pvI i1z1419_), none]) (st := []) (M := Mz1419_) (z := (pvbs 10 + Int32.toNatClampNeg i1z1419_)) rfl ⟨trivial, rfl, rfl, trivial, ⟨rfl, (zr_in (n := 7) b1751_ (by decide) (by decide))⟩, trivial⟩ (fun q1753_ e1755_ => ?_)
        have k1754_ : pvkl q1753_ = 3 := pvel_10 (zr_in (n := 7) b1751_ (by decide) (by decide)) e1755_
        have b1756_ : 0 ≤ Int32.toInt (Mz1419_.1 q1753_ 5) ∧ Int32.toInt (Mz1419_.1 q1753_ 5) ≤ 1 := pvok_r oz1419_ q1753_ 5 ((pvrg_o 5 k1754_ (by decide) (by decide)).trans rfl)
        refine pw_blk hT 1 (S' := (33, [some (pvR 5), some (pvI i1z1419_), none], [pvI (Mz1419_.1 q1753_ 5)], Mz1419_)) rfl ⟨k1754_, trivial⟩ ?_
        refine pw_ifn hT (c := (Mz1419_.1 q1753_ 5) = 0) rfl rfl (fun c1757_ => ?_) (fun c1757_ => ?_)
        · have b1758_ : 1 ≤ Int32.toInt (Mz1419_.1 q1753_ 5) ∧ Int32.toInt (Mz1419_.1 q1753_ 5) ≤ 1 := (by have u0 := b1756_; have u1 := (not_congr (zi_eq _ _)).mp c1757_; have u2 := (show 0 ≤ Int32.toInt 0 ∧ Int32.toInt 0 ≤ 0 from (by decide)); omega)
          obtain ⟨q1760_, b1759_⟩ : (Int32.toInt (i1z1419_ + 1) = Int32.toInt i1z1419_ + Int32.toInt 1) ∧ (1 ≤ Int32.toInt (i1z1419_ + 1) ∧ Int32.toInt (i1z1419_ + 1) ≤ 7) := zadd_r i1z1419_ 1 1 7 b1751_ (show 1 ≤ Int32.toInt 1 ∧ Int32.toInt 1 ≤ 1 from (by decide)) (by decide) (by decide) (by decide) (by decide)
          have u1761_ : Int32.toInt 1 = 1 := by decide
          refine pw_blk hT 2 (S' := (10, [some (pvR 5), some (pvI (i1z1419_ + 1)), none], [], Mz1419_)) rfl ⟨trivial, trivial, trivial⟩ ?_
          exact ihz1419_ (i1z1419_ + 1) Mz1419_ oz1419_ fz1419_ (zr_wide b1759_ (by decide) (by decide)) (by omega)
        · have b1762_ : 0 ≤ Int32.toInt (Mz1419_.1 q1753_ 5) ∧ Int32.toInt (Mz1419_.1 q1753_ 5) ≤ 0 := (by have u0 := b1756_; have u1 := (zi_eq _ _).mp c1757_; have u2 := (show 0 ≤ Int32.toInt 0 ∧ Int32.toInt 0 ≤ 0 from (by decide)); omega)
          refine pw_blk hT 4 (S' := (42, [some (pvR 5), some (pvI i1z1419_), none], [pvI 0, pvI i1z1419_, pvR 106], Mz1419_)) rfl ⟨trivial, rfl, trivial, trivial, trivial⟩ ?_
          refine pw_callG hT (as := [pvR 106, pvI i1z1419_, pvI 0]) (lo1 := [some (pvR 106), some (pvI i1z1419_), some (pvI 0)]) (d1 := d) (rest := []) rfl rfl rfl rfl rfl (fun _ => rfl) (Nat.zero_le _) rfl rfl rfl (sf_X6_append_106_x_x Mz1419_ oz1419_ i1z1419_ 0 b1751_ (zr_wide (show 0 ≤ Int32.toInt 0 ∧ Int32.toInt 0 ≤ 0 from (by decide)) (by decide) (by decide)) d) (fun x1763_ M1764_ b1765_ o1766_ g1767_ => ?_)
          have f1768_ : pvFr fp_X1_seekBest_5 M M1764_ := pvfr_t g1767_ fz1419_ fp_X1_seekBest_5_fp_X6_append_106_x_x
          obtain ⟨q1770_, b1769_⟩ : (Int32.toInt (i1z1419_ + 1) = Int32.toInt i1z1419_ + Int32.toInt 1) ∧ (1 ≤ Int32.toInt (i1z1419_ + 1) ∧ Int32.toInt (i1z1419_ + 1) ≤ 7) := zadd_r i1z1419_ 1 1 7 b1751_ (show 1 ≤ Int32.toInt 1 ∧ Int32.toInt 1 ≤ 1 from (by decide)) (by decide) (by decide) (by decide) (by decide)
          have u1771_ : Int32.toInt 1 = 1 := by decide
          refine pw_blk hT 3 (S' := (10, [some (pvR 5), some (pvI (i1z1419_ + 1)), none], [], M1764_)) rfl ⟨trivial, trivial, trivial, trivial⟩ ?_
          exact ihz1419_ (i1z1419_ + 1) M1764_ o1766_ f1768_ (zr_wide b1769_ (by decide) (by decide)) (by omega)
  exact hlz1419_ _ 0 M2_ o4_ f6_ (zr_wide (show 0 ≤ Int32.toInt 0 ∧ Int32.toInt 0 ≤ 0 from (by decide)) (by decide) (by decide)) (Nat.lt_succ_self _)
