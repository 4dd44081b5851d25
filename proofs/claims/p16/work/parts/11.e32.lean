def fpL_eX9_sides_0_x : List (Nat × Nat × Nat) := [(0, 12, 0), (0, 13, 0), (0, 14, 0), (0, 5, 2), (0, 5, 3), (1, 112, 0)]
def fp_eX9_sides_0_x (q k : Nat) : Bool := pvfp fpL_eX9_sides_0_x q k
theorem fp_eX9_sides_0_x_fp_eX1_beginFromNow_5 (a b : Nat) (h : fp_eX1_beginFromNow_5 a b = true) : fp_eX9_sides_0_x a b = true := pvfp_sub (l1 := fpL_eX1_beginFromNow_5) (l2 := fpL_eX9_sides_0_x) (by decide) a b h
theorem fp_eX9_sides_0_x_fp_eX1_turnTo_5_x (a b : Nat) (h : fp_eX1_turnTo_5_x a b = true) : fp_eX9_sides_0_x a b = true := pvfp_sub (l1 := fpL_eX1_turnTo_5_x) (l2 := fpL_eX9_sides_0_x) (by decide) a b h
set_option maxHeartbeats 4000000 in
set_option maxRecDepth 10000 in
theorem se_X9_sides_0_x (M : pvM) (hok : pvOk M) (n1 : Int32) (d : Nat) : PW 200 d (0, [some (pvR 0), some (pvI n1), none, none, none, none], [], M) (fun r X => (∃ x : Int32, r = some (pvI x) ∧ (-1) ≤ Int32.toInt x ∧ Int32.toInt x ≤ 2147483647) ∧ pvOk X ∧ pvFr fp_eX9_sides_0_x M X ∧ yAn (yGsd n1) r M X) := by
  have hT : pvdom 200 = pvD_200 := rfl
  refine pw_blk hT 3 (S' := (3, [some (pvR 0), some (pvI n1), none, none, none, none], [pvI 1, pvI 0, pvI n1], M)) rfl ⟨trivial, trivial, trivial, trivial⟩ ?_
  refine pw_callT hT (as := [pvI n1, pvI 0, pvI 1]) (lo1 := [some (pvI n1), some (pvI 0), some (pvI 1)]) (d1 := d) (rest := []) rfl rfl rfl rfl rfl (fun h => absurd h (by decide)) (Nat.zero_le _) rfl rfl rfl (sf_X9_within_x_x_x M hok n1 0 1 d) ?_
  by_cases c6_ : n1 < 0
  · refine pw_eqI (if_pos c6_) ?_
    have b7_ : (-2147483648) ≤ Int32.toInt n1 ∧ Int32.toInt n1 ≤ (-1) := zr_lt_l (-1) c6_ (zbnd n1) (show 0 ≤ Int32.toInt 0 ∧ Int32.toInt 0 ≤ 0 from (by decide)) (by decide)
    show PW 200 d (6, [some (pvR 0), some (pvI n1), none, none, none, none], [pvI 0], M) _
    refine pw_ifn hT (c := 0 = 0) rfl rfl (fun c8_ => absurd (by decide) c8_) (fun c8_ => ?_)
    refine pw_blk hT 1 (S' := (10, [some (pvR 0), some (pvI n1), none, none, none, none], [pvI (-1)], M)) rfl ⟨trivial, trivial⟩ ?_
    exact pw_ret hT rfl (r := some (pvI (-1))) (M' := M) ⟨rfl, rfl⟩ ⟨⟨_, rfl, (zr_wide (show (-1) ≤ Int32.toInt (-1) ∧ Int32.toInt (-1) ≤ (-1) from (by decide)) (by decide) (by decide))⟩, hok, pvfr_0, (yGsd_n (by have u := b7_; omega) (by decide))⟩
  · refine pw_eqI (if_neg c6_) ?_
    have b9_ : 0 ≤ Int32.toInt n1 ∧ Int32.toInt n1 ≤ 2147483647 := zr_nlt_l 0 c6_ (zbnd n1) (show 0 ≤ Int32.toInt 0 ∧ Int32.toInt 0 ≤ 0 from (by decide)) (by decide)
    by_cases c10_ : 1 < n1
    · refine pw_eqI (if_pos c10_) ?_
      have b11_ : 2 ≤ Int32.toInt n1 ∧ Int32.toInt n1 ≤ 2147483647 := zr_lt_r 2 c10_ b9_ (show 1 ≤ Int32.toInt 1 ∧ Int32.toInt 1 ≤ 1 from (by decide)) (by decide)
      show PW 200 d (6, [some (pvR 0), some (pvI n1), none, none, none, none], [pvI 0], M) _
      refine pw_ifn hT (c := 0 = 0) rfl rfl (fun c12_ => absurd (by decide) c12_) (fun c12_ => ?_)
      refine pw_blk hT 1 (S' := (10, [some (pvR 0), some (pvI n1), none, none, none, none], [pvI (-1)], M)) rfl ⟨trivial, trivial⟩ ?_
      exact pw_ret hT rfl (r := some (pvI (-1))) (M' := M) ⟨rfl, rfl⟩ ⟨⟨_, rfl, (zr_wide (show (-1) ≤ Int32.toInt (-1) ∧ Int32.toInt (-1) ≤ (-1) from (by decide)) (by decide) (by decide))⟩, hok, pvfr_0, (yGsd_n (by have u := b11_; omega) (by decide))⟩
    · refine pw_eqI (if_neg c10_) ?_
      have b13_ : 0 ≤ Int32.toInt n1 ∧ Int32.toInt n1 ≤ 1 := zr_nlt_r 1 c10_ b9_ (show 1 ≤ Int32.toInt 1 ∧ Int32.toInt 1 ≤ 1 from (by decide)) (by decide)
      show PW 200 d (6, [some (pvR 0), some (pvI n1), none, none, none, none], [pvI 1], M) _
      refine pw_ifn hT (c := 1 = 0) rfl rfl (fun c14_ => ?_) (fun c14_ => absurd c14_ (by decide))
      refine pw_blk hT 2 (S' := (15, [some (pvR 0), some (pvI n1), none, none, none, none], [pvR 5], M)) rfl ⟨trivial, rfl, trivial⟩ ?_
      refine pw_callVd hT (as := [pvR 5]) (lo1 := [some (pvR 5)]) (d1 := d) (rest := []) rfl rfl rfl rfl rfl (fun _ => rfl) (Nat.zero_le _) rfl rfl rfl (se_X1_beginFromNow_5 M hok d) (fun M17_ o19_ g20_ d15_ => ?_)
      have f21_ : pvFr fp_eX9_sides_0_x M M17_ := pvfr_t g20_ pvfr_0 fp_eX9_sides_0_x_fp_eX1_beginFromNow_5
      refine pw_blk hT 6 (S' := (25, [some (pvR 0), some (pvI n1), some (pvI 0), some (pvI (-1)), some (pvI 0), none], [], M17_)) rfl ⟨trivial, trivial, trivial, trivial, trivial, trivial, trivial⟩ ?_
      have hlz137_ : ∀ (nz137_ : Nat) (i2z137_ : Int32) (i3z137_ : Int32) (i4z137_ : Int32) (v5z137_ : Option pvV) (Mz137_ : pvM), (pvOk Mz137_) → (pvFr fp_eX9_sides_0_x M Mz137_) → (0 ≤ Int32.toInt i2z137_ ∧ Int32.toInt i2z137_ ≤ 2147483647) → ((-1) ≤ Int32.toInt i3z137_ ∧ Int32.toInt i3z137_ ≤ 2147483647) → (0 ≤ Int32.toInt i4z137_ ∧ Int32.toInt i4z137_ ≤ 4) → (ySdI M Mz137_ i2z137_ i3z137_ i4z137_) → (zhide ((5 - Int32.toInt i4z137_).toNat < nz137_)) → PW 200 d (25, [some (pvR 0), some (pvI n1), some (pvI i2z137_), some (pvI i3z137_), some (pvI i4z137_), v5z137_], [], Mz137_) (fun r X => (∃ x : Int32, r = some (pvI x) ∧ (-1) ≤ Int32.toInt x ∧ Int32.toInt x ≤ 2147483647) ∧ pvOk X ∧ pvFr fp_eX9_sides_0_x M X ∧ yAn (yGsd n1) r M X) := by
        intro nz137_
        induction nz137_ with
        | zero => intro i2z137_ i3z137_ i4z137_ v5z137_ Mz137_ oz137_ fz137_ h2z137_ h3z137_ h4z137_ j0z137_ hmz137_; exact absurd (zshow hmz137_) (Nat.not_lt_zero _)
        | succ nz137_ ihz137_ =>
          intro i2z137_ i3z137_ i4z137_ v5z137_ Mz137_ oz137_ fz137_ h2z137_ h3z137_ h4z137_ j0z137_ hmz137_
          refine pw_blk hT 2 (S' := (28, [some (pvR 0), some (pvI n1), some (pvI i2z137_), some (pvI i3z137_), some (pvI i4z137_), v5z137_], [pvI 4, pvI i4z137_], Mz137_)) rfl ⟨trivial, trivial, trivial⟩ ?_
          refine pw_ic hT (c := 4 ≤ i4z137_) rfl rfl (fun c138_ => ?_) (fun c138_ => ?_)
          · have b139_ : 4 ≤ Int32.toInt i4z137_ ∧ Int32.toInt i4z137_ ≤ 4 := zr_le_r 4 c138_ h4z137_ (show 4 ≤ Int32.toInt 4 ∧ Int32.toInt 4 ≤ 4 from (by decide)) (by decide)
            refine pw_blk hT 1 (S' := (68, [some (pvR 0), some (pvI n1), some (pvI i2z137_), some (pvI i3z137_), some (pvI i4z137_), v5z137_], [pvI n1], Mz137_)) rfl ⟨trivial, trivial⟩ ?_
            refine pw_ifn hT (c := n1 = 0) rfl rfl (fun c140_ => ?_) (fun c140_ => ?_)
            · have b141_ : 1 ≤ Int32.toInt n1 ∧ Int32.toInt n1 ≤ 1 := (by have u0 := b13_; have u1 := (not_congr (zi_eq _ _)).mp c140_; have u2 := (show 0 ≤ Int32.toInt 0 ∧ Int32.toInt 0 ≤ 0 from (by decide)); omega)
              refine pw_blk hT 1 (S' := (76, [some (pvR 0), some (pvI n1), some (pvI i2z137_), some (pvI i3z137_), some (pvI i4z137_), v5z137_], [pvI i3z137_], Mz137_)) rfl ⟨trivial, trivial⟩ ?_
              exact pw_ret hT rfl (r := some (pvI i3z137_)) (M' := Mz137_) ⟨rfl, rfl⟩ ⟨⟨_, rfl, h3z137_⟩, oz137_, fz137_, ((yGsd_e j0z137_ (by have u := b139_; omega) (by have u := b141_; omega)).2 (by have u := b141_; omega))⟩
            · have b142_ : 0 ≤ Int32.toInt n1 ∧ Int32.toInt n1 ≤ 0 := (by have u0 := b13_; have u1 := (zi_eq _ _).mp c140_; have u2 := (show 0 ≤ Int32.toInt 0 ∧ Int32.toInt 0 ≤ 0 from (by decide)); omega)
              refine pw_blk hT 2 (S' := (76, [some (pvR 0), some (pvI n1), some (pvI i2z137_), some (pvI i3z137_), some (pvI i4z137_), v5z137_], [pvI i2z137_], Mz137_)) rfl ⟨trivial, trivial, trivial⟩ ?_
              exact pw_ret hT rfl (r := some (pvI i2z137_)) (M' := Mz137_) ⟨rfl, rfl⟩ ⟨⟨_, rfl, (zr_wide h2z137_ (by decide) (by decide))⟩, oz137_, fz137_, ((yGsd_e j0z137_ (by have u := b139_; omega) (by have u := b142_; omega)).1 (by have u := b142_; omega))⟩
          · have b143_ : 0 ≤ Int32.toInt i4z137_ ∧ Int32.toInt i4z137_ ≤ 3 := zr_nle_r 3 c138_ h4z137_ (show 4 ≤ Int32.toInt 4 ∧ Int32.toInt 4 ≤ 4 from (by decide)) (by decide)
            refine pw_blk hT 3 (S' := (37, [some (pvR 0), some (pvI n1), some (pvI i2z137_), some (pvI i3z137_), some (pvI i4z137_), v5z137_], [pvI i4z137_, pvR 5], Mz137_)) rfl ⟨trivial, rfl, trivial, trivial⟩ ?_
            refine pw_callVd hT (as := [pvR 5, pvI i4z137_]) (lo1 := [some (pvR 5), some (pvI i4z137_), none]) (d1 := d) (rest := []) rfl rfl rfl rfl rfl (fun _ => rfl) (Nat.zero_le _) rfl rfl rfl (se_X1_turnTo_5_x Mz137_ oz137_ i4z137_ d) (fun M146_ o148_ g149_ d144_ => ?_)
            have f150_ : pvFr fp_eX9_sides_0_x M M146_ := pvfr_t g149_ fz137_ fp_eX9_sides_0_x_fp_eX1_turnTo_5_x
            refine pw_blk hT 2 (S' := (44, [some (pvR 0), some (pvI n1), some (pvI i2z137_), some (pvI i3z137_), some (pvI i4z137_), v5z137_], [pvR 5], M146_)) rfl ⟨trivial, rfl, trivial⟩ ?_
            refine pw_callGp hT (as := [pvR 5]) (lo1 := [some (pvR 5)]) (d1 := d) (rest := []) rfl rfl rfl rfl rfl (fun _ => rfl) (Nat.zero_le _) rfl rfl rfl (se_X1_cost_5 M146_ o148_ d) (fun x151_ b153_ => ?_)
            obtain ⟨b156_, d157_⟩ := b153_
            refine pw_blk hT 3 (S' := (52, [some (pvR 0), some (pvI n1), some (pvI i2z137_), some (pvI i3z137_), some (pvI i4z137_), some (pvI x151_)], [pvI i3z137_, pvI x151_], M146_)) rfl ⟨trivial, trivial, trivial, trivial⟩ ?_
            refine pw_ic hT (c := x151_ ≤ i3z137_) rfl rfl (fun c158_ => ?_) (fun c158_ => ?_)
            · have d159_ : Int32.toInt x151_ ≤ Int32.toInt i3z137_ := (zi_le _ _).mp c158_
              obtain ⟨q161_, b160_⟩ : (Int32.toInt (i4z137_ + 1) = Int32.toInt i4z137_ + 1) ∧ (1 ≤ Int32.toInt (i4z137_ + 1) ∧ Int32.toInt (i4z137_ + 1) ≤ 4) := zadd_k i4z137_ 1 1 1 4 b143_ (by decide) (by decide) (by decide) (by decide) (by decide)
              refine pw_blk hT 2 (S' := (25, [some (pvR 0), some (pvI n1), some (pvI i2z137_), some (pvI i3z137_), some (pvI (i4z137_ + 1)), some (pvI x151_)], [], M146_)) rfl ⟨trivial, trivial, trivial⟩ ?_
              have j162_ : ySdI M M146_ i2z137_ i3z137_ (i4z137_ + 1) := (ySdI_n hok o148_ j0z137_ d144_ (by have u := b143_; omega) d157_ (by omega) c158_)
              exact ihz137_ i2z137_ i3z137_ (i4z137_ + 1) (some (pvI x151_)) M146_ o148_ f150_ h2z137_ h3z137_ (zr_wide b160_ (by decide) (by decide)) j162_ (zhid (pvms_up (zshow hmz137_) h4z137_ q161_ (by decide) (by decide)))
            · have b163_ : 0 ≤ Int32.toInt x151_ ∧ Int32.toInt x151_ ≤ 2147483647 := zr_nle_l 0 c158_ (zbnd x151_) h3z137_ (by decide)
              have b164_ : (-1) ≤ Int32.toInt i3z137_ ∧ Int32.toInt i3z137_ ≤ 2147483646 := zr_nle_r 2147483646 c158_ h3z137_ b163_ (by decide)
              have d165_ : Int32.toInt x151_ > Int32.toInt i3z137_ := Int.not_le.mp ((not_congr (zi_le _ _)).mp c158_)
              obtain ⟨q167_, b166_⟩ : (Int32.toInt (i4z137_ + 1) = Int32.toInt i4z137_ + 1) ∧ (1 ≤ Int32.toInt (i4z137_ + 1) ∧ Int32.toInt (i4z137_ + 1) ≤ 4) := zadd_k i4z137_ 1 1 1 4 b143_ (by decide) (by decide) (by decide) (by decide) (by decide)
              refine pw_blk hT 6 (S' := (25, [some (pvR 0), some (pvI n1), some (pvI i4z137_), some (pvI x151_), some (pvI (i4z137_ + 1)), some (pvI x151_)], [], M146_)) rfl ⟨trivial, trivial, trivial, trivial, trivial, trivial, trivial⟩ ?_
              have j168_ : ySdI M M146_ i4z137_ x151_ (i4z137_ + 1) := (ySdI_y hok o148_ j0z137_ d144_ (by have u := b143_; omega) d157_ (by omega) c158_)
              exact ihz137_ i4z137_ x151_ (i4z137_ + 1) (some (pvI x151_)) M146_ o148_ f150_ (zr_wide b143_ (by decide) (by decide)) (zr_wide b163_ (by decide) (by decide)) (zr_wide b166_ (by decide) (by decide)) j168_ (zhid (pvms_up (zshow hmz137_) h4z137_ q167_ (by decide) (by decide)))
      have u169_ : Int32.toInt 0 = 0 := by decide
      have u170_ : Int32.toInt (-1) = (-1) := by decide
      have j171_ : ySdI M M17_ 0 (-1) 0 := (ySdI_0 hok d15_ (by decide) (by decide) (by decide))
      exact hlz137_ _ 0 (-1) 0 none M17_ o19_ f21_ (zr_wide (show 0 ≤ Int32.toInt 0 ∧ Int32.toInt 0 ≤ 0 from (by decide)) (by decide) (by decide)) (zr_wide (show (-1) ≤ Int32.toInt (-1) ∧ Int32.toInt (-1) ≤ (-1) from (by decide)) (by decide) (by decide)) (zr_wide (show 0 ≤ Int32.toInt 0 ∧ Int32.toInt 0 ≤ 0 from (by decide)) (by decide) (by decide)) j171_ (zhid (Nat.lt_succ_self _))
def fpL_eX9_stand_0_x_x : List (Nat × Nat × Nat) := [(0, 8, 7), (0, 8, 8)]
def fp_eX9_stand_0_x_x (q k : Nat) : Bool := pvfp fpL_eX9_stand_0_x_x q k
set_option maxHeartbeats 4000000 in
set_option maxRecDepth 10000 in
theorem se_X9_stand_0_x_x (M : pvM) (hok : pvOk M) (n1 : Int32) (n2 : Int32) (d : Nat) : PW 201 d (0, [some (pvR 0), some (pvI n1), some (pvI n2)], [], M) (fun r X => (∃ x : Int32, r = some (pvI x) ∧ ((-2) ≤ Int32.toInt x ∧ Int32.toInt x ≤ 1) ∧ x = (if n1 < 0 then (-2) else (if 3 < n1 then (-2) else (if n2 < 0 then (-2) else (if 4 < n2 then (-2) else 1))))) ∧ pvOk X ∧ pvFr fp_eX9_stand_0_x_x M X ∧ zwS n1 n2 (zw9 8 60 M) (zw9 8 60 X)) := by
  have hT : pvdom 201 = pvD_201 := rfl
  refine pw_blk hT 2 (S' := (2, [some (pvR 0), some (pvI n1), some (pvI n2)], [pvI n2, pvI n1], M)) rfl ⟨trivial, trivial, trivial⟩ ?_
  refine pw_callT hT (as := [pvI n1, pvI n2]) (lo1 := [some (pvI n1), some (pvI n2)]) (d1 := d) (rest := []) rfl rfl rfl rfl rfl (fun h => absurd h (by decide)) (Nat.zero_le _) rfl rfl rfl (sf_X9_isPlace_x_x M hok n1 n2 d) ?_
  by_cases c6_ : n1 < 0
  · refine pw_eqI (if_pos c6_) ?_
    have b7_ : (-2147483648) ≤ Int32.toInt n1 ∧ Int32.toInt n1 ≤ (-1) := zr_lt_l (-1) c6_ (zbnd n1) (show 0 ≤ Int32.toInt 0 ∧ Int32.toInt 0 ≤ 0 from (by decide)) (by decide)
    show PW 201 d (5, [some (pvR 0), some (pvI n1), some (pvI n2)], [pvI 0], M) _
    refine pw_ifn hT (c := 0 = 0) rfl rfl (fun c8_ => absurd (by decide) c8_) (fun c8_ => ?_)
    refine pw_blk hT 1 (S' := (10, [some (pvR 0), some (pvI n1), some (pvI n2)], [pvI (-2)], M)) rfl ⟨trivial, trivial⟩ ?_
    exact pw_ret hT rfl (r := some (pvI (-2))) (M' := M) ⟨rfl, rfl⟩ ⟨⟨_, rfl, (zr_wide (show (-2) ≤ Int32.toInt (-2) ∧ Int32.toInt (-2) ≤ (-2) from (by decide)) (by decide) (by decide)), (by rw [if_pos c6_]; first | done | (rw [if_pos c6_]; done))⟩, hok, pvfr_0, (zwS_n (fun z => by have v := (zi_lt _ _).mp c6_; have w := z.1.1; have u0 : (0 : Int32).toInt = 0 := (by decide); have u3 : (3 : Int32).toInt = 3 := (by decide); have u4 : (4 : Int32).toInt = 4 := (by decide); omega))⟩
  · refine pw_eqI (if_neg c6_) ?_
    have b9_ : 0 ≤ Int32.toInt n1 ∧ Int32.toInt n1 ≤ 2147483647 := zr_nlt_l 0 c6_ (zbnd n1) (show 0 ≤ Int32.toInt 0 ∧ Int32.toInt 0 ≤ 0 from (by decide)) (by decide)
    by_cases c10_ : 3 < n1
    · refine pw_eqI (if_pos c10_) ?_
      have b11_ : 4 ≤ Int32.toInt n1 ∧ Int32.toInt n1 ≤ 2147483647 := zr_lt_r 4 c10_ b9_ (show 3 ≤ Int32.toInt 3 ∧ Int32.toInt 3 ≤ 3 from (by decide)) (by decide)
      show PW 201 d (5, [some (pvR 0), some (pvI n1), some (pvI n2)], [pvI 0], M) _
      refine pw_ifn hT (c := 0 = 0) rfl rfl (fun c12_ => absurd (by decide) c12_) (fun c12_ => ?_)
      refine pw_blk hT 1 (S' := (10, [some (pvR 0), some (pvI n1), some (pvI n2)], [pvI (-2)], M)) rfl ⟨trivial, trivial⟩ ?_
      exact pw_ret hT rfl (r := some (pvI (-2))) (M' := M) ⟨rfl, rfl⟩ ⟨⟨_, rfl, (zr_wide (show (-2) ≤ Int32.toInt (-2) ∧ Int32.toInt (-2) ≤ (-2) from (by decide)) (by decide) (by decide)), (by rw [if_neg c6_, if_pos c10_]; first | done | (rw [if_pos c10_]; done))⟩, hok, pvfr_0, (zwS_n (fun z => by have v := (zi_lt _ _).mp c10_; have w := z.1.2; have u0 : (0 : Int32).toInt = 0 := (by decide); have u3 : (3 : Int32).toInt = 3 := (by decide); have u4 : (4 : Int32).toInt = 4 := (by decide); omega))⟩
    · refine pw_eqI (if_neg c10_) ?_
      have b13_ : 0 ≤ Int32.toInt n1 ∧ Int32.toInt n1 ≤ 3 := zr_nlt_r 3 c10_ b9_ (show 3 ≤ Int32.toInt 3 ∧ Int32.toInt 3 ≤ 3 from (by decide)) (by decide)
      by_cases c14_ : n2 < 0
      · refine pw_eqI (if_pos c14_) ?_
        have b15_ : (-2147483648) ≤ Int32.toInt n2 ∧ Int32.toInt n2 ≤ (-1) := zr_lt_l (-1) c14_ (zbnd n2) (show 0 ≤ Int32.toInt 0 ∧ Int32.toInt 0 ≤ 0 from (by decide)) (by decide)
        show PW 201 d (5, [some (pvR 0), some (pvI n1), some (pvI n2)], [pvI 0], M) _
        refine pw_ifn hT (c := 0 = 0) rfl rfl (fun c16_ => absurd (by decide) c16_) (fun c16_ => ?_)
        refine pw_blk hT 1 (S' := (10, [some (pvR 0), some (pvI n1), some (pvI n2)], [pvI (-2)], M)) rfl ⟨trivial, trivial⟩ ?_
        exact pw_ret hT rfl (r := some (pvI (-2))) (M' := M) ⟨rfl, rfl⟩ ⟨⟨_, rfl, (zr_wide (show (-2) ≤ Int32.toInt (-2) ∧ Int32.toInt (-2) ≤ (-2) from (by decide)) (by decide) (by decide)), (by rw [if_neg c6_, if_neg c10_, if_pos c14_]; first | done | (rw [if_pos c14_]; done))⟩, hok, pvfr_0, (zwS_n (fun z => by have v := (zi_lt _ _).mp c14_; have w := z.2.1; have u0 : (0 : Int32).toInt = 0 := (by decide); have u3 : (3 : Int32).toInt = 3 := (by decide); have u4 : (4 : Int32).toInt = 4 := (by decide); omega))⟩
      · refine pw_eqI (if_neg c14_) ?_
        have b17_ : 0 ≤ Int32.toInt n2 ∧ Int32.toInt n2 ≤ 2147483647 := zr_nlt_l 0 c14_ (zbnd n2) (show 0 ≤ Int32.toInt 0 ∧ Int32.toInt 0 ≤ 0 from (by decide)) (by decide)
        by_cases c18_ : 4 < n2
        · refine pw_eqI (if_pos c18_) ?_
          have b19_ : 5 ≤ Int32.toInt n2 ∧ Int32.toInt n2 ≤ 2147483647 := zr_lt_r 5 c18_ b17_ (show 4 ≤ Int32.toInt 4 ∧ Int32.toInt 4 ≤ 4 from (by decide)) (by decide)
          show PW 201 d (5, [some (pvR 0), some (pvI n1), some (pvI n2)], [pvI 0], M) _
          refine pw_ifn hT (c := 0 = 0) rfl rfl (fun c20_ => absurd (by decide) c20_) (fun c20_ => ?_)
          refine pw_blk hT 1 (S' := (10, [some (pvR 0), some (pvI n1), some (pvI n2)], [pvI (-2)], M)) rfl ⟨trivial, trivial⟩ ?_
          exact pw_ret hT rfl (r := some (pvI (-2))) (M' := M) ⟨rfl, rfl⟩ ⟨⟨_, rfl, (zr_wide (show (-2) ≤ Int32.toInt (-2) ∧ Int32.toInt (-2) ≤ (-2) from (by decide)) (by decide) (by decide)), (by rw [if_neg c6_, if_neg c10_, if_neg c14_, if_pos c18_]; first | done | (rw [if_pos c18_]; done))⟩, hok, pvfr_0, (zwS_n (fun z => by have v := (zi_lt _ _).mp c18_; have w := z.2.2; have u0 : (0 : Int32).toInt = 0 := (by decide); have u3 : (3 : Int32).toInt = 3 := (by decide); have u4 : (4 : Int32).toInt = 4 := (by decide); omega))⟩
        · refine pw_eqI (if_neg c18_) ?_
          have b21_ : 0 ≤ Int32.toInt n2 ∧ Int32.toInt n2 ≤ 4 := zr_nlt_r 4 c18_ b17_ (show 4 ≤ Int32.toInt 4 ∧ Int32.toInt 4 ≤ 4 from (by decide)) (by decide)
          show PW 201 d (5, [some (pvR 0), some (pvI n1), some (pvI n2)], [pvI 1], M) _
          refine pw_ifn hT (c := 1 = 0) rfl rfl (fun c22_ => ?_) (fun c22_ => absurd c22_ (by decide))
          refine pw_blkw hT 4 (pc := 19) (lo := [some (pvR 0), some (pvI n1), some (pvI n2)]) (st := []) (M := pvu M 8 6 n1) rfl ⟨trivial, rfl, trivial, rfl, trivial⟩ (fun M23_ e24_ => ?_)
          have o25_ : pvOk M23_ := pvok_u2 e24_ hok rfl b13_
          have f26_ : pvFr fp_eX9_stand_0_x_x M M23_ := pvfr_u e24_ pvfr_0 rfl
          refine pw_blkw hT 4 (pc := 27) (lo := [some (pvR 0), some (pvI n1), some (pvI n2)]) (st := []) (M := pvu M23_ 8 7 n2) rfl ⟨trivial, rfl, trivial, rfl, trivial⟩ (fun M27_ e28_ => ?_)
          have o29_ : pvOk M27_ := pvok_u2 e28_ o25_ rfl b21_
          have f30_ : pvFr fp_eX9_stand_0_x_x M M27_ := pvfr_u e28_ f26_ rfl
          refine pw_blk hT 1 (S' := (28, [some (pvR 0), some (pvI n1), some (pvI n2)], [pvI 1], M27_)) rfl ⟨trivial, trivial⟩ ?_
          exact pw_ret hT rfl (r := some (pvI 1)) (M' := M27_) ⟨rfl, rfl⟩ ⟨⟨_, rfl, (zr_wide (show 1 ≤ Int32.toInt 1 ∧ Int32.toInt 1 ≤ 1 from (by decide)) (by decide) (by decide)), (by rw [if_neg c6_, if_neg c10_, if_neg c14_, if_neg c18_]; first | done | (rw [if_neg c18_]; done))⟩, o29_, f30_, (zwS_i ⟨b13_, b21_⟩ ((pvu_n e28_ 8 4 (Or.inr (by decide))).trans (pvu_n e24_ 8 4 (Or.inr (by decide)))) ((pvu_n e28_ 8 6 (Or.inr (by decide))).trans (pvu_s e24_)) (pvu_s e28_) (fun i _ => (pvu_n e28_ (60 + i) 5 (Or.inl (by omega))).trans (pvu_n e24_ (60 + i) 5 (Or.inl (by omega)))))⟩
def fpL_eX9_storm_0_x_x : List (Nat × Nat × Nat) := [(0, 8, 3), (0, 8, 4)]
def fp_eX9_storm_0_x_x (q k : Nat) : Bool := pvfp fpL_eX9_storm_0_x_x q k
set_option maxHeartbeats 4000000 in
set_option maxRecDepth 10000 in
theorem se_X9_storm_0_x_x (M : pvM) (hok : pvOk M) (n1 : Int32) (n2 : Int32) (d : Nat) : PW 202 d (0, [some (pvR 0), some (pvI n1), some (pvI n2), none], [], M) (fun r X => (∃ x : Int32, r = some (pvI x) ∧ ((-2) ≤ Int32.toInt x ∧ Int32.toInt x ≤ 99) ∧ x = (if n2 < 0 then (-1) else (if 3 < n2 then (-1) else (if n1 < 0 then (-2) else (if 99 < n1 then (-2) else (M.1 8 2)))))) ∧ pvOk X ∧ pvFr fp_eX9_storm_0_x_x M X ∧ X.1 8 2 = (if n2 < 0 then (M.1 8 2) else (if 3 < n2 then (M.1 8 2) else (if n1 < 0 then (M.1 8 2) else (if 99 < n1 then (M.1 8 2) else n1)))) ∧ X.1 8 3 = (if n2 < 0 then (M.1 8 3) else (if 3 < n2 then (M.1 8 3) else (if n1 < 0 then (M.1 8 3) else (if 99 < n1 then (M.1 8 3) else n2))))) := by
  have hT : pvdom 202 = pvD_202 := rfl
  refine pw_blk hT 3 (S' := (3, [some (pvR 0), some (pvI n1), some (pvI n2), none], [pvI 3, pvI 0, pvI n2], M)) rfl ⟨trivial, trivial, trivial, trivial⟩ ?_
  refine pw_callT hT (as := [pvI n2, pvI 0, pvI 3]) (lo1 := [some (pvI n2), some (pvI 0), some (pvI 3)]) (d1 := d) (rest := []) rfl rfl rfl rfl rfl (fun h => absurd h (by decide)) (Nat.zero_le _) rfl rfl rfl (sf_X9_within_x_x_x M hok n2 0 3 d) ?_
  by_cases c6_ : n2 < 0
  · refine pw_eqI (if_pos c6_) ?_
    have b7_ : (-2147483648) ≤ Int32.toInt n2 ∧ Int32.toInt n2 ≤ (-1) := zr_lt_l (-1) c6_ (zbnd n2) (show 0 ≤ Int32.toInt 0 ∧ Int32.toInt 0 ≤ 0 from (by decide)) (by decide)
    show PW 202 d (6, [some (pvR 0), some (pvI n1), some (pvI n2), none], [pvI 0], M) _
    refine pw_ifn hT (c := 0 = 0) rfl rfl (fun c8_ => absurd (by decide) c8_) (fun c8_ => ?_)
    refine pw_blk hT 1 (S' := (10, [some (pvR 0), some (pvI n1), some (pvI n2), none], [pvI (-1)], M)) rfl ⟨trivial, trivial⟩ ?_
    exact pw_ret hT rfl (r := some (pvI (-1))) (M' := M) ⟨rfl, rfl⟩ ⟨⟨_, rfl, (zr_wide (show (-1) ≤ Int32.toInt (-1) ∧ Int32.toInt (-1) ≤ (-1) from (by decide)) (by decide) (by decide)), (by rw [if_pos c6_]; first | done | (rw [if_pos c6_]; done))⟩, hok, pvfr_0, (by rw [if_pos c6_]; first | done | exact rfl | (rw [if_pos c6_]; done) | (rw [if_pos c6_]; exact rfl)), (by rw [if_pos c6_]; first | done | exact rfl | (rw [if_pos c6_]; done) | (rw [if_pos c6_]; exact rfl))⟩
  · refine pw_eqI (if_neg c6_) ?_
    have b9_ : 0 ≤ Int32.toInt n2 ∧ Int32.toInt n2 ≤ 2147483647 := zr_nlt_l 0 c6_ (zbnd n2) (show 0 ≤ Int32.toInt 0 ∧ Int32.toInt 0 ≤ 0 from (by decide)) (by decide)
    by_cases c10_ : 3 < n2
    · refine pw_eqI (if_pos c10_) ?_
      have b11_ : 4 ≤ Int32.toInt n2 ∧ Int32.toInt n2 ≤ 2147483647 := zr_lt_r 4 c10_ b9_ (show 3 ≤ Int32.toInt 3 ∧ Int32.toInt 3 ≤ 3 from (by decide)) (by decide)
      show PW 202 d (6, [some (pvR 0), some (pvI n1), some (pvI n2), none], [pvI 0], M) _
      refine pw_ifn hT (c := 0 = 0) rfl rfl (fun c12_ => absurd (by decide) c12_) (fun c12_ => ?_)
      refine pw_blk hT 1 (S' := (10, [some (pvR 0), some (pvI n1), some (pvI n2), none], [pvI (-1)], M)) rfl ⟨trivial, trivial⟩ ?_
      exact pw_ret hT rfl (r := some (pvI (-1))) (M' := M) ⟨rfl, rfl⟩ ⟨⟨_, rfl, (zr_wide (show (-1) ≤ Int32.toInt (-1) ∧ Int32.toInt (-1) ≤ (-1) from (by decide)) (by decide) (by decide)), (by rw [if_neg c6_, if_pos c10_]; first | done | (rw [if_pos c10_]; done))⟩, hok, pvfr_0, (by rw [if_neg c6_, if_pos c10_]; first | done | exact rfl | (rw [if_pos c10_]; done) | (rw [if_pos c10_]; exact rfl)), (by rw [if_neg c6_, if_pos c10_]; first | done | exact rfl | (rw [if_pos c10_]; done) | (rw [if_pos c10_]; exact rfl))⟩
    · refine pw_eqI (if_neg c10_) ?_
      have b13_ : 0 ≤ Int32.toInt n2 ∧ Int32.toInt n2 ≤ 3 := zr_nlt_r 3 c10_ b9_ (show 3 ≤ Int32.toInt 3 ∧ Int32.toInt 3 ≤ 3 from (by decide)) (by decide)
      show PW 202 d (6, [some (pvR 0), some (pvI n1), some (pvI n2), none], [pvI 1], M) _
      refine pw_ifn hT (c := 1 = 0) rfl rfl (fun c14_ => ?_) (fun c14_ => absurd c14_ (by decide))
      refine pw_blk hT 3 (S' := (15, [some (pvR 0), some (pvI n1), some (pvI n2), none], [pvI 99, pvI 0, pvI n1], M)) rfl ⟨trivial, trivial, trivial, trivial⟩ ?_
      refine pw_callT hT (as := [pvI n1, pvI 0, pvI 99]) (lo1 := [some (pvI n1), some (pvI 0), some (pvI 99)]) (d1 := d) (rest := []) rfl rfl rfl rfl rfl (fun h => absurd h (by decide)) (Nat.zero_le _) rfl rfl rfl (sf_X9_within_x_x_x M hok n1 0 99 d) ?_
      by_cases c20_ : n1 < 0
      · refine pw_eqI (if_pos c20_) ?_
        have b21_ : (-2147483648) ≤ Int32.toInt n1 ∧ Int32.toInt n1 ≤ (-1) := zr_lt_l (-1) c20_ (zbnd n1) (show 0 ≤ Int32.toInt 0 ∧ Int32.toInt 0 ≤ 0 from (by decide)) (by decide)
        show PW 202 d (18, [some (pvR 0), some (pvI n1), some (pvI n2), none], [pvI 0], M) _
        refine pw_ifn hT (c := 0 = 0) rfl rfl (fun c22_ => absurd (by decide) c22_) (fun c22_ => ?_)
        refine pw_blk hT 1 (S' := (23, [some (pvR 0), some (pvI n1), some (pvI n2), none], [pvI (-2)], M)) rfl ⟨trivial, trivial⟩ ?_
        exact pw_ret hT rfl (r := some (pvI (-2))) (M' := M) ⟨rfl, rfl⟩ ⟨⟨_, rfl, (zr_wide (show (-2) ≤ Int32.toInt (-2) ∧ Int32.toInt (-2) ≤ (-2) from (by decide)) (by decide) (by decide)), (by rw [if_neg c6_, if_neg c10_, if_pos c20_]; first | done | (rw [if_pos c20_]; done))⟩, hok, pvfr_0, (by rw [if_neg c6_, if_neg c10_, if_pos c20_]; first | done | exact rfl | (rw [if_pos c20_]; done) | (rw [if_pos c20_]; exact rfl)), (by rw [if_neg c6_, if_neg c10_, if_pos c20_]; first | done | exact rfl | (rw [if_pos c20_]; done) | (rw [if_pos c20_]; exact rfl))⟩
      · refine pw_eqI (if_neg c20_) ?_
        have b23_ : 0 ≤ Int32.toInt n1 ∧ Int32.toInt n1 ≤ 2147483647 := zr_nlt_l 0 c20_ (zbnd n1) (show 0 ≤ Int32.toInt 0 ∧ Int32.toInt 0 ≤ 0 from (by decide)) (by decide)
        by_cases c24_ : 99 < n1
        · refine pw_eqI (if_pos c24_) ?_
          have b25_ : 100 ≤ Int32.toInt n1 ∧ Int32.toInt n1 ≤ 2147483647 := zr_lt_r 100 c24_ b23_ (show 99 ≤ Int32.toInt 99 ∧ Int32.toInt 99 ≤ 99 from (by decide)) (by decide)
          show PW 202 d (18, [some (pvR 0), some (pvI n1), some (pvI n2), none], [pvI 0], M) _
          refine pw_ifn hT (c := 0 = 0) rfl rfl (fun c26_ => absurd (by decide) c26_) (fun c26_ => ?_)
          refine pw_blk hT 1 (S' := (23, [some (pvR 0), some (pvI n1), some (pvI n2), none], [pvI (-2)], M)) rfl ⟨trivial, trivial⟩ ?_
          exact pw_ret hT rfl (r := some (pvI (-2))) (M' := M) ⟨rfl, rfl⟩ ⟨⟨_, rfl, (zr_wide (show (-2) ≤ Int32.toInt (-2) ∧ Int32.toInt (-2) ≤ (-2) from (by decide)) (by decide) (by decide)), (by rw [if_neg c6_, if_neg c10_, if_neg c20_, if_pos c24_]; first | done | (rw [if_pos c24_]; done))⟩, hok, pvfr_0, (by rw [if_neg c6_, if_neg c10_, if_neg c20_, if_pos c24_]; first | done | exact rfl | (rw [if_pos c24_]; done) | (rw [if_pos c24_]; exact rfl)), (by rw [if_neg c6_, if_neg c10_, if_neg c20_, if_pos c24_]; first | done | exact rfl | (rw [if_pos c24_]; done) | (rw [if_pos c24_]; exact rfl))⟩
        · refine pw_eqI (if_neg c24_) ?_
          have b27_ : 0 ≤ Int32.toInt n1 ∧ Int32.toInt n1 ≤ 99 := zr_nlt_r 99 c24_ b23_ (show 99 ≤ Int32.toInt 99 ∧ Int32.toInt 99 ≤ 99 from (by decide)) (by decide)
          show PW 202 d (18, [some (pvR 0), some (pvI n1), some (pvI n2), none], [pvI 1], M) _
          refine pw_ifn hT (c := 1 = 0) rfl rfl (fun c28_ => ?_) (fun c28_ => absurd c28_ (by decide))
          have b29_ : 0 ≤ Int32.toInt (M.1 8 2) ∧ Int32.toInt (M.1 8 2) ≤ 99 := pvok_r hok 8 2 rfl
          refine pw_blkw hT 8 (pc := 40) (lo := [some (pvR 0), some (pvI n1), some (pvI n2), some (pvI (M.1 8 2))]) (st := []) (M := pvu M 8 2 n1) rfl ⟨trivial, rfl, rfl, trivial, trivial, rfl, trivial, rfl, trivial⟩ (fun M30_ e31_ => ?_)
          have o32_ : pvOk M30_ := pvok_u2 e31_ hok rfl b27_
          have f33_ : pvFr fp_eX9_storm_0_x_x M M30_ := pvfr_u e31_ pvfr_0 rfl
          refine pw_blkw hT 4 (pc := 48) (lo := [some (pvR 0), some (pvI n1), some (pvI n2), some (pvI (M.1 8 2))]) (st := []) (M := pvu M30_ 8 3 n2) rfl ⟨trivial, rfl, trivial, rfl, trivial⟩ (fun M34_ e35_ => ?_)
          have o36_ : pvOk M34_ := pvok_u2 e35_ o32_ rfl b13_
          have f37_ : pvFr fp_eX9_storm_0_x_x M M34_ := pvfr_u e35_ f33_ rfl
          refine pw_blk hT 1 (S' := (49, [some (pvR 0), some (pvI n1), some (pvI n2), some (pvI (M.1 8 2))], [pvI (M.1 8 2)], M34_)) rfl ⟨trivial, trivial⟩ ?_
          exact pw_ret hT rfl (r := some (pvI (M.1 8 2))) (M' := M34_) ⟨rfl, rfl⟩ ⟨⟨_, rfl, (zr_wide b29_ (by decide) (by decide)), (by rw [if_neg c6_, if_neg c10_, if_neg c20_, if_neg c24_]; first | done | (rw [if_neg c24_]; done))⟩, o36_, f37_, (by rw [if_neg c6_, if_neg c10_, if_neg c20_, if_neg c24_]; first | done | exact ((pvu_n e35_ 8 2 (Or.inr (by decide))).trans (pvu_s e31_)) | (rw [if_neg c24_]; done) | (rw [if_neg c24_]; exact ((pvu_n e35_ 8 2 (Or.inr (by decide))).trans (pvu_s e31_)))), (by rw [if_neg c6_, if_neg c10_, if_neg c20_, if_neg c24_]; first | done | exact (pvu_s e35_) | (rw [if_neg c24_]; done) | (rw [if_neg c24_]; exact (pvu_s e35_)))⟩
set_option maxHeartbeats 4000000 in
set_option maxRecDepth 10000 in
theorem se_X3_isUnder_0_0 (M : pvM) (hok : pvOk M) (d : Nat) : PW 132 d (0, [some (pvI 0), some (pvI 0), none, none], [], M) (fun r X => r = some (pvI (1)) ∧ X = M) := by
  have hT : pvdom 132 = pvD_132 := rfl
  refine pw_blk hT 4 (S' := (4, [some (pvI 0), some (pvI 0), some (pvI 0), some (pvI 0)], [], M)) rfl ⟨trivial, trivial, trivial, trivial, trivial⟩ ?_
  refine pw_blk hT 3 (S' := (9, [some (pvI 0), some (pvI 0), some (pvI 0), some (pvI 0)], [pvI (Int32.ofNat (pvstab 1040).length), pvI 0], M)) rfl ⟨trivial, trivial, (by decide), trivial⟩ ?_
  refine pw_ic hT (c := (Int32.ofNat (pvstab 1040).length) ≤ 0) rfl rfl (fun c1_ => absurd c1_ (by decide)) (fun c1_ => ?_)
  refine pw_blk hT 1 (S' := (13, [some (pvI 0), some (pvI 0), some (pvI 0), some (pvI 0)], [pvI 0], M)) rfl ⟨trivial, trivial⟩ ?_
  refine pw_if hT (c := 0 < 0) rfl rfl (fun c2_ => absurd c2_ (by decide)) (fun c2_ => ?_)
  refine pw_blk hT 2 (S' := (18, [some (pvI 0), some (pvI 0), some (pvI 0), some (pvI 0)], [pvI 0, pvI 0], M)) rfl ⟨trivial, trivial, trivial⟩ ?_
  refine pw_icn hT (c := 0 = 0) rfl rfl (fun c3_ => absurd (by decide) c3_) (fun c3_ => ?_)
  refine pw_blk hT 1 (S' := (22, [some (pvI 0), some (pvI 0), some (pvI 0), some (pvI 0)], [pvI 1], M)) rfl ⟨trivial, trivial⟩ ?_
  exact pw_ret hT rfl (r := some (pvI 1)) (M' := M) ⟨Or.inr rfl, rfl, rfl⟩ ⟨rfl, rfl⟩
set_option maxHeartbeats 4000000 in
set_option maxRecDepth 10000 in
theorem se_X3_above_0 (M : pvM) (hok : pvOk M) (d : Nat) : PW 131 d (0, [some (pvI 0)], [], M) (fun r X => r = some (pvI (((pvstab 1040).getD (Int32.toNatClampNeg 0) 0))) ∧ X = M) := by
  have hT : pvdom 131 = pvD_131 := rfl
  refine pw_blk hT 1 (S' := (1, [some (pvI 0)], [pvI 0], M)) rfl ⟨trivial, trivial⟩ ?_
  refine pw_if hT (c := 0 < 0) rfl rfl (fun c1_ => absurd c1_ (by decide)) (fun c1_ => ?_)
  refine pw_blk hT 3 (S' := (9, [some (pvI 0)], [pvI (Int32.ofNat (pvstab 1040).length), pvI 0], M)) rfl ⟨trivial, trivial, (by decide), trivial⟩ ?_
  refine pw_ic hT (c := 0 < (Int32.ofNat (pvstab 1040).length)) rfl rfl (fun c2_ => ?_) (fun c2_ => absurd (by decide) c2_)
  refine pw_blk hT 3 (S' := (21, [some (pvI 0)], [pvI ((pvstab 1040).getD (Int32.toNatClampNeg 0) 0)], M)) rfl ⟨trivial, trivial, ⟨by decide, (zr_in (n := 7) (show 0 ≤ Int32.toInt 0 ∧ Int32.toInt 0 ≤ 0 from (by decide)) (by decide) (by decide))⟩, trivial⟩ ?_
  exact pw_ret hT rfl (r := some (pvI ((pvstab 1040).getD (Int32.toNatClampNeg 0) 0))) (M' := M) ⟨rfl, rfl⟩ ⟨rfl, rfl⟩
set_option maxHeartbeats 4000000 in
set_option maxRecDepth 10000 in
theorem se_X3_isUnder_0_1 (M : pvM) (hok : pvOk M) (d : Nat) : PW 132 d (0, [some (pvI 0), some (pvI 1), none, none], [], M) (fun r X => r = some (pvI (0)) ∧ X = M) := by
  have hT : pvdom 132 = pvD_132 := rfl
  refine pw_blk hT 4 (S' := (4, [some (pvI 0), some (pvI 1), some (pvI 0), some (pvI 0)], [], M)) rfl ⟨trivial, trivial, trivial, trivial, trivial⟩ ?_
  refine pw_blk hT 3 (S' := (9, [some (pvI 0), some (pvI 1), some (pvI 0), some (pvI 0)], [pvI (Int32.ofNat (pvstab 1040).length), pvI 0], M)) rfl ⟨trivial, trivial, (by decide), trivial⟩ ?_
  refine pw_ic hT (c := (Int32.ofNat (pvstab 1040).length) ≤ 0) rfl rfl (fun c1_ => absurd c1_ (by decide)) (fun c1_ => ?_)
  refine pw_blk hT 1 (S' := (13, [some (pvI 0), some (pvI 1), some (pvI 0), some (pvI 0)], [pvI 0], M)) rfl ⟨trivial, trivial⟩ ?_
  refine pw_if hT (c := 0 < 0) rfl rfl (fun c2_ => absurd c2_ (by decide)) (fun c2_ => ?_)
  refine pw_blk hT 2 (S' := (18, [some (pvI 0), some (pvI 1), some (pvI 0), some (pvI 0)], [pvI 1, pvI 0], M)) rfl ⟨trivial, trivial, trivial⟩ ?_
  refine pw_icn hT (c := 0 = 1) rfl rfl (fun c3_ => ?_) (fun c3_ => absurd c3_ (by decide))
  refine pw_blk hT 1 (S' := (24, [some (pvI 0), some (pvI 1), some (pvI 0), some (pvI 0)], [pvI 0], M)) rfl ⟨trivial, trivial⟩ ?_
  refine pw_callT hT (as := [pvI 0]) (lo1 := [some (pvI 0)]) (d1 := d) (rest := []) rfl rfl rfl rfl rfl (fun h => absurd h (by decide)) (Nat.zero_le _) rfl rfl rfl (se_X3_above_0 M hok d) ?_
  refine pw_eqI (show ((pvstab 1040).getD (Int32.toNatClampNeg 0) 0) = (-1) from by decide) ?_
  show PW 132 d (27, [some (pvI 0), some (pvI 1), some (pvI 0), some (pvI 0)], [pvI (-1)], M) _
  refine pw_blk hT 3 (S' := (4, [some (pvI 0), some (pvI 1), some (pvI (-1)), some (pvI (0 + 1))], [], M)) rfl ⟨trivial, trivial, trivial, trivial⟩ ?_
  refine pw_blk hT 3 (S' := (9, [some (pvI 0), some (pvI 1), some (pvI (-1)), some (pvI (0 + 1))], [pvI (Int32.ofNat (pvstab 1040).length), pvI (0 + 1)], M)) rfl ⟨trivial, trivial, (by decide), trivial⟩ ?_
  refine pw_ic hT (c := (Int32.ofNat (pvstab 1040).length) ≤ (0 + 1)) rfl rfl (fun c9_ => absurd c9_ (by decide)) (fun c9_ => ?_)
  refine pw_blk hT 1 (S' := (13, [some (pvI 0), some (pvI 1), some (pvI (-1)), some (pvI (0 + 1))], [pvI (-1)], M)) rfl ⟨trivial, trivial⟩ ?_
  refine pw_if hT (c := (-1) < 0) rfl rfl (fun c10_ => ?_) (fun c10_ => absurd (by decide) c10_)
  refine pw_blk hT 1 (S' := (35, [some (pvI 0), some (pvI 1), some (pvI (-1)), some (pvI (0 + 1))], [pvI 0], M)) rfl ⟨trivial, trivial⟩ ?_
  exact pw_ret hT rfl (r := some (pvI 0)) (M' := M) ⟨Or.inl rfl, rfl, rfl⟩ ⟨rfl, rfl⟩
set_option maxHeartbeats 4000000 in
set_option maxRecDepth 10000 in
theorem se_X3_isUnder_0_2 (M : pvM) (hok : pvOk M) (d : Nat) : PW 132 d (0, [some (pvI 0), some (pvI 2), none, none], [], M) (fun r X => r = some (pvI (0)) ∧ X = M) := by
  have hT : pvdom 132 = pvD_132 := rfl
  refine pw_blk hT 4 (S' := (4, [some (pvI 0), some (pvI 2), some (pvI 0), some (pvI 0)], [], M)) rfl ⟨trivial, trivial, trivial, trivial, trivial⟩ ?_
  refine pw_blk hT 3 (S' := (9, [some (pvI 0), some (pvI 2), some (pvI 0), some (pvI 0)], [pvI (Int32.ofNat (pvstab 1040).length), pvI 0], M)) rfl ⟨trivial, trivial, (by decide), trivial⟩ ?_
  refine pw_ic hT (c := (Int32.ofNat (pvstab 1040).length) ≤ 0) rfl rfl (fun c1_ => absurd c1_ (by decide)) (fun c1_ => ?_)
  refine pw_blk hT 1 (S' := (13, [some (pvI 0), some (pvI 2), some (pvI 0), some (pvI 0)], [pvI 0], M)) rfl ⟨trivial, trivial⟩ ?_
  refine pw_if hT (c := 0 < 0) rfl rfl (fun c2_ => absurd c2_ (by decide)) (fun c2_ => ?_)
  refine pw_blk hT 2 (S' := (18, [some (pvI 0), some (pvI 2), some (pvI 0), some (pvI 0)], [pvI 2, pvI 0], M)) rfl ⟨trivial, trivial, trivial⟩ ?_
  refine pw_icn hT (c := 0 = 2) rfl rfl (fun c3_ => ?_) (fun c3_ => absurd c3_ (by decide))
  refine pw_blk hT 1 (S' := (24, [some (pvI 0), some (pvI 2), some (pvI 0), some (pvI 0)], [pvI 0], M)) rfl ⟨trivial, trivial⟩ ?_
  refine pw_callT hT (as := [pvI 0]) (lo1 := [some (pvI 0)]) (d1 := d) (rest := []) rfl rfl rfl rfl rfl (fun h => absurd h (by decide)) (Nat.zero_le _) rfl rfl rfl (se_X3_above_0 M hok d) ?_
  refine pw_eqI (show ((pvstab 1040).getD (Int32.toNatClampNeg 0) 0) = (-1) from by decide) ?_
  show PW 132 d (27, [some (pvI 0), some (pvI 2), some (pvI 0), some (pvI 0)], [pvI (-1)], M) _
  refine pw_blk hT 3 (S' := (4, [some (pvI 0), some (pvI 2), some (pvI (-1)), some (pvI (0 + 1))], [], M)) rfl ⟨trivial, trivial, trivial, trivial⟩ ?_
  refine pw_blk hT 3 (S' := (9, [some (pvI 0), some (pvI 2), some (pvI (-1)), some (pvI (0 + 1))], [pvI (Int32.ofNat (pvstab 1040).length), pvI (0 + 1)], M)) rfl ⟨trivial, trivial, (by decide), trivial⟩ ?_
  refine pw_ic hT (c := (Int32.ofNat (pvstab 1040).length) ≤ (0 + 1)) rfl rfl (fun c9_ => absurd c9_ (by decide)) (fun c9_ => ?_)
  refine pw_blk hT 1 (S' := (13, [some (pvI 0), some (pvI 2), some (pvI (-1)), some (pvI (0 + 1))], [pvI (-1)], M)) rfl ⟨trivial, trivial⟩ ?_
  refine pw_if hT (c := (-1) < 0) rfl rfl (fun c10_ => ?_) (fun c10_ => absurd (by decide) c10_)
  refine pw_blk hT 1 (S' := (35, [some (pvI 0), some (pvI 2), some (pvI (-1)), some (pvI (0 + 1))], [pvI 0], M)) rfl ⟨trivial, trivial⟩ ?_
  exact pw_ret hT rfl (r := some (pvI 0)) (M' := M) ⟨Or.inl rfl, rfl, rfl⟩ ⟨rfl, rfl⟩
set_option maxHeartbeats 4000000 in
set_option maxRecDepth 10000 in
theorem se_X3_isUnder_0_3 (M : pvM) (hok : pvOk M) (d : Nat) : PW 132 d (0, [some (pvI 0), some (pvI 3), none, none], [], M) (fun r X => r = some (pvI (0)) ∧ X = M) := by
  have hT : pvdom 132 = pvD_132 := rfl
  refine pw_blk hT 4 (S' := (4, [some (pvI 0), some (pvI 3), some (pvI 0), some (pvI 0)], [], M)) rfl ⟨trivial, trivial, trivial, trivial, trivial⟩ ?_
  refine pw_blk hT 3 (S' := (9, [some (pvI 0), some (pvI 3), some (pvI 0), some (pvI 0)], [pvI (Int32.ofNat (pvstab 1040).length), pvI 0], M)) rfl ⟨trivial, trivial, (by decide), trivial⟩ ?_
  refine pw_ic hT (c := (Int32.ofNat (pvstab 1040).length) ≤ 0) rfl rfl (fun c1_ => absurd c1_ (by decide)) (fun c1_ => ?_)
  refine pw_blk hT 1 (S' := (13, [some (pvI 0), some (pvI 3), some (pvI 0), some (pvI 0)], [pvI 0], M)) rfl ⟨trivial, trivial⟩ ?_
  refine pw_if hT (c := 0 < 0) rfl rfl (fun c2_ => absurd c2_ (by decide)) (fun c2_ => ?_)
  refine pw_blk hT 2 (S' := (18, [some (pvI 0), some (pvI 3), some (pvI 0), some (pvI 0)], [pvI 3, pvI 0], M)) rfl ⟨trivial, trivial, trivial⟩ ?_
  refine pw_icn hT (c := 0 = 3) rfl rfl (fun c3_ => ?_) (fun c3_ => absurd c3_ (by decide))
  refine pw_blk hT 1 (S' := (24, [some (pvI 0), some (pvI 3), some (pvI 0), some (pvI 0)], [pvI 0], M)) rfl ⟨trivial, trivial⟩ ?_
  refine pw_callT hT (as := [pvI 0]) (lo1 := [some (pvI 0)]) (d1 := d) (rest := []) rfl rfl rfl rfl rfl (fun h => absurd h (by decide)) (Nat.zero_le _) rfl rfl rfl (se_X3_above_0 M hok d) ?_
  refine pw_eqI (show ((pvstab 1040).getD (Int32.toNatClampNeg 0) 0) = (-1) from by decide) ?_
  show PW 132 d (27, [some (pvI 0), some (pvI 3), some (pvI 0), some (pvI 0)], [pvI (-1)], M) _
  refine pw_blk hT 3 (S' := (4, [some (pvI 0), some (pvI 3), some (pvI (-1)), some (pvI (0 + 1))], [], M)) rfl ⟨trivial, trivial, trivial, trivial⟩ ?_
  refine pw_blk hT 3 (S' := (9, [some (pvI 0), some (pvI 3), some (pvI (-1)), some (pvI (0 + 1))], [pvI (Int32.ofNat (pvstab 1040).length), pvI (0 + 1)], M)) rfl ⟨trivial, trivial, (by decide), trivial⟩ ?_
  refine pw_ic hT (c := (Int32.ofNat (pvstab 1040).length) ≤ (0 + 1)) rfl rfl (fun c9_ => absurd c9_ (by decide)) (fun c9_ => ?_)
  refine pw_blk hT 1 (S' := (13, [some (pvI 0), some (pvI 3), some (pvI (-1)), some (pvI (0 + 1))], [pvI (-1)], M)) rfl ⟨trivial, trivial⟩ ?_
  refine pw_if hT (c := (-1) < 0) rfl rfl (fun c10_ => ?_) (fun c10_ => absurd (by decide) c10_)
  refine pw_blk hT 1 (S' := (35, [some (pvI 0), some (pvI 3), some (pvI (-1)), some (pvI (0 + 1))], [pvI 0], M)) rfl ⟨trivial, trivial⟩ ?_
  exact pw_ret hT rfl (r := some (pvI 0)) (M' := M) ⟨Or.inl rfl, rfl, rfl⟩ ⟨rfl, rfl⟩
set_option maxHeartbeats 4000000 in
set_option maxRecDepth 10000 in
theorem se_X3_isUnder_0_4 (M : pvM) (hok : pvOk M) (d : Nat) : PW 132 d (0, [some (pvI 0), some (pvI 4), none, none], [], M) (fun r X => r = some (pvI (0)) ∧ X = M) := by
  have hT : pvdom 132 = pvD_132 := rfl
  refine pw_blk hT 4 (S' := (4, [some (pvI 0), some (pvI 4), some (pvI 0), some (pvI 0)], [], M)) rfl ⟨trivial, trivial, trivial, trivial, trivial⟩ ?_
  refine pw_blk hT 3 (S' := (9, [some (pvI 0), some (pvI 4), some (pvI 0), some (pvI 0)], [pvI (Int32.ofNat (pvstab 1040).length), pvI 0], M)) rfl ⟨trivial, trivial, (by decide), trivial⟩ ?_
  refine pw_ic hT (c := (Int32.ofNat (pvstab 1040).length) ≤ 0) rfl rfl (fun c1_ => absurd c1_ (by decide)) (fun c1_ => ?_)
  refine pw_blk hT 1 (S' := (13, [some (pvI 0), some (pvI 4), some (pvI 0), some (pvI 0)], [pvI 0], M)) rfl ⟨trivial, trivial⟩ ?_
  refine pw_if hT (c := 0 < 0) rfl rfl (fun c2_ => absurd c2_ (by decide)) (fun c2_ => ?_)
  refine pw_blk hT 2 (S' := (18, [some (pvI 0), some (pvI 4), some (pvI 0), some (pvI 0)], [pvI 4, pvI 0], M)) rfl ⟨trivial, trivial, trivial⟩ ?_
  refine pw_icn hT (c := 0 = 4) rfl rfl (fun c3_ => ?_) (fun c3_ => absurd c3_ (by decide))
  refine pw_blk hT 1 (S' := (24, [some (pvI 0), some (pvI 4), some (pvI 0), some (pvI 0)], [pvI 0], M)) rfl ⟨trivial, trivial⟩ ?_
  refine pw_callT hT (as := [pvI 0]) (lo1 := [some (pvI 0)]) (d1 := d) (rest := []) rfl rfl rfl rfl rfl (fun h => absurd h (by decide)) (Nat.zero_le _) rfl rfl rfl (se_X3_above_0 M hok d) ?_
  refine pw_eqI (show ((pvstab 1040).getD (Int32.toNatClampNeg 0) 0) = (-1) from by decide) ?_
  show PW 132 d (27, [some (pvI 0), some (pvI 4), some (pvI 0), some (pvI 0)], [pvI (-1)], M) _
  refine pw_blk hT 3 (S' := (4, [some (pvI 0), some (pvI 4), some (pvI (-1)), some (pvI (0 + 1))], [], M)) rfl ⟨trivial, trivial, trivial, trivial⟩ ?_
  refine pw_blk hT 3 (S' := (9, [some (pvI 0), some (pvI 4), some (pvI (-1)), some (pvI (0 + 1))], [pvI (Int32.ofNat (pvstab 1040).length), pvI (0 + 1)], M)) rfl ⟨trivial, trivial, (by decide), trivial⟩ ?_
  refine pw_ic hT (c := (Int32.ofNat (pvstab 1040).length) ≤ (0 + 1)) rfl rfl (fun c9_ => absurd c9_ (by decide)) (fun c9_ => ?_)
  refine pw_blk hT 1 (S' := (13, [some (pvI 0), some (pvI 4), some (pvI (-1)), some (pvI (0 + 1))], [pvI (-1)], M)) rfl ⟨trivial, trivial⟩ ?_
  refine pw_if hT (c := (-1) < 0) rfl rfl (fun c10_ => ?_) (fun c10_ => absurd (by decide) c10_)
  refine pw_blk hT 1 (S' := (35, [some (pvI 0), some (pvI 4), some (pvI (-1)), some (pvI (0 + 1))], [pvI 0], M)) rfl ⟨trivial, trivial⟩ ?_
  exact pw_ret hT rfl (r := some (pvI 0)) (M' := M) ⟨Or.inl rfl, rfl, rfl⟩ ⟨rfl, rfl⟩
set_option maxHeartbeats 4000000 in
set_option maxRecDepth 10000 in
theorem se_X3_isUnder_0_5 (M : pvM) (hok : pvOk M) (d : Nat) : PW 132 d (0, [some (pvI 0), some (pvI 5), none, none], [], M) (fun r X => r = some (pvI (0)) ∧ X = M) := by
  have hT : pvdom 132 = pvD_132 := rfl
  refine pw_blk hT 4 (S' := (4, [some (pvI 0), some (pvI 5), some (pvI 0), some (pvI 0)], [], M)) rfl ⟨trivial, trivial, trivial, trivial, trivial⟩ ?_
  refine pw_blk hT 3 (S' := (9, [some (pvI 0), some (pvI 5), some (pvI 0), some (pvI 0)], [pvI (Int32.ofNat (pvstab 1040).length), pvI 0], M)) rfl ⟨trivial, trivial, (by decide), trivial⟩ ?_
  refine pw_ic hT (c := (Int32.ofNat (pvstab 1040).length) ≤ 0) rfl rfl (fun c1_ => absurd c1_ (by decide)) (fun c1_ => ?_)
  refine pw_blk hT 1 (S' := (13, [some (pvI 0), some (pvI 5), some (pvI 0), some (pvI 0)], [pvI 0], M)) rfl ⟨trivial, trivial⟩ ?_
  refine pw_if hT (c := 0 < 0) rfl rfl (fun c2_ => absurd c2_ (by decide)) (fun c2_ => ?_)
  refine pw_blk hT 2 (S' := (18, [some (pvI 0), some (pvI 5), some (pvI 0), some (pvI 0)], [pvI 5, pvI 0], M)) rfl ⟨trivial, trivial, trivial⟩ ?_
  refine pw_icn hT (c := 0 = 5) rfl rfl (fun c3_ => ?_) (fun c3_ => absurd c3_ (by decide))
  refine pw_blk hT 1 (S' := (24, [some (pvI 0), some (pvI 5), some (pvI 0), some (pvI 0)], [pvI 0], M)) rfl ⟨trivial, trivial⟩ ?_
  refine pw_callT hT (as := [pvI 0]) (lo1 := [some (pvI 0)]) (d1 := d) (rest := []) rfl rfl rfl rfl rfl (fun h => absurd h (by decide)) (Nat.zero_le _) rfl rfl rfl (se_X3_above_0 M hok d) ?_
  refine pw_eqI (show ((pvstab 1040).getD (Int32.toNatClampNeg 0) 0) = (-1) from by decide) ?_
  show PW 132 d (27, [some (pvI 0), some (pvI 5), some (pvI 0), some (pvI 0)], [pvI (-1)], M) _
  refine pw_blk hT 3 (S' := (4, [some (pvI 0), some (pvI 5), some (pvI (-1)), some (pvI (0 + 1))], [], M)) rfl ⟨trivial, trivial, trivial, trivial⟩ ?_
  refine pw_blk hT 3 (S' := (9, [some (pvI 0), some (pvI 5), some (pvI (-1)), some (pvI (0 + 1))], [pvI (Int32.ofNat (pvstab 1040).length), pvI (0 + 1)], M)) rfl ⟨trivial, trivial, (by decide), trivial⟩ ?_
  refine pw_ic hT (c := (Int32.ofNat (pvstab 1040).length) ≤ (0 + 1)) rfl rfl (fun c9_ => absurd c9_ (by decide)) (fun c9_ => ?_)
  refine pw_blk hT 1 (S' := (13, [some (pvI 0), some (pvI 5), some (pvI (-1)), some (pvI (0 + 1))], [pvI (-1)], M)) rfl ⟨trivial, trivial⟩ ?_
  refine pw_if hT (c := (-1) < 0) rfl rfl (fun c10_ => ?_) (fun c10_ => absurd (by decide) c10_)
  refine pw_blk hT 1 (S' := (35, [some (pvI 0), some (pvI 5), some (pvI (-1)), some (pvI (0 + 1))], [pvI 0], M)) rfl ⟨trivial, trivial⟩ ?_
  exact pw_ret hT rfl (r := some (pvI 0)) (M' := M) ⟨Or.inl rfl, rfl, rfl⟩ ⟨rfl, rfl⟩
set_option maxHeartbeats 4000000 in
set_option maxRecDepth 10000 in
theorem se_X3_isUnder_0_6 (M : pvM) (hok : pvOk M) (d : Nat) : PW 132 d (0, [some (pvI 0), some (pvI 6), none, none], [], M) (fun r X => r = some (pvI (0)) ∧ X = M) := by
  have hT : pvdom 132 = pvD_132 := rfl
  refine pw_blk hT 4 (S' := (4, [some (pvI 0), some (pvI 6), some (pvI 0), some (pvI 0)], [], M)) rfl ⟨trivial, trivial, trivial, trivial, trivial⟩ ?_
  refine pw_blk hT 3 (S' := (9, [some (pvI 0), some (pvI 6), some (pvI 0), some (pvI 0)], [pvI (Int32.ofNat (pvstab 1040).length), pvI 0], M)) rfl ⟨trivial, trivial, (by decide), trivial⟩ ?_
  refine pw_ic hT (c := (Int32.ofNat (pvstab 1040).length) ≤ 0) rfl rfl (fun c1_ => absurd c1_ (by decide)) (fun c1_ => ?_)
  refine pw_blk hT 1 (S' := (13, [some (pvI 0), some (pvI 6), some (pvI 0), some (pvI 0)], [pvI 0], M)) rfl ⟨trivial, trivial⟩ ?_
  refine pw_if hT (c := 0 < 0) rfl rfl (fun c2_ => absurd c2_ (by decide)) (fun c2_ => ?_)
  refine pw_blk hT 2 (S' := (18, [some (pvI 0), some (pvI 6), some (pvI 0), some (pvI 0)], [pvI 6, pvI 0], M)) rfl ⟨trivial, trivial, trivial⟩ ?_
  refine pw_icn hT (c := 0 = 6) rfl rfl (fun c3_ => ?_) (fun c3_ => absurd c3_ (by decide))
  refine pw_blk hT 1 (S' := (24, [some (pvI 0), some (pvI 6), some (pvI 0), some (pvI 0)], [pvI 0], M)) rfl ⟨trivial, trivial⟩ ?_
  refine pw_callT hT (as := [pvI 0]) (lo1 := [some (pvI 0)]) (d1 := d) (rest := []) rfl rfl rfl rfl rfl (fun h => absurd h (by decide)) (Nat.zero_le _) rfl rfl rfl (se_X3_above_0 M hok d) ?_
  refine pw_eqI (show ((pvstab 1040).getD (Int32.toNatClampNeg 0) 0) = (-1) from by decide) ?_
  show PW 132 d (27, [some (pvI 0), some (pvI 6), some (pvI 0), some (pvI 0)], [pvI (-1)], M) _
  refine pw_blk hT 3 (S' := (4, [some (pvI 0), some (pvI 6), some (pvI (-1)), some (pvI (0 + 1))], [], M)) rfl ⟨trivial, trivial, trivial, trivial⟩ ?_
  refine pw_blk hT 3 (S' := (9, [some (pvI 0), some (pvI 6), some (pvI (-1)), some (pvI (0 + 1))], [pvI (Int32.ofNat (pvstab 1040).length), pvI (0 + 1)], M)) rfl ⟨trivial, trivial, (by decide), trivial⟩ ?_
  refine pw_ic hT (c := (Int32.ofNat (pvstab 1040).length) ≤ (0 + 1)) rfl rfl (fun c9_ => absurd c9_ (by decide)) (fun c9_ => ?_)
  refine pw_blk hT 1 (S' := (13, [some (pvI 0), some (pvI 6), some (pvI (-1)), some (pvI (0 + 1))], [pvI (-1)], M)) rfl ⟨trivial, trivial⟩ ?_
  refine pw_if hT (c := (-1) < 0) rfl rfl (fun c10_ => ?_) (fun c10_ => absurd (by decide) c10_)
  refine pw_blk hT 1 (S' := (35, [some (pvI 0), some (pvI 6), some (pvI (-1)), some (pvI (0 + 1))], [pvI 0], M)) rfl ⟨trivial, trivial⟩ ?_
  exact pw_ret hT rfl (r := some (pvI 0)) (M' := M) ⟨Or.inl rfl, rfl, rfl⟩ ⟨rfl, rfl⟩
set_option maxHeartbeats 4000000 in
set_option maxRecDepth 10000 in
theorem se_X3_isUnder_1_0 (M : pvM) (hok : pvOk M) (d : Nat) : PW 132 d (0, [some (pvI 1), some (pvI 0), none, none], [], M) (fun r X => r = some (pvI (1)) ∧ X = M) := by
  have hT : pvdom 132 = pvD_132 := rfl
  refine pw_blk hT 4 (S' := (4, [some (pvI 1), some (pvI 0), some (pvI 1), some (pvI 0)], [], M)) rfl ⟨trivial, trivial, trivial, trivial, trivial⟩ ?_
  refine pw_blk hT 3 (S' := (9, [some (pvI 1), some (pvI 0), some (pvI 1), some (pvI 0)], [pvI (Int32.ofNat (pvstab 1040).length), pvI 0], M)) rfl ⟨trivial, trivial, (by decide), trivial⟩ ?_
  refine pw_ic hT (c := (Int32.ofNat (pvstab 1040).length) ≤ 0) rfl rfl (fun c1_ => absurd c1_ (by decide)) (fun c1_ => ?_)
  refine pw_blk hT 1 (S' := (13, [some (pvI 1), some (pvI 0), some (pvI 1), some (pvI 0)], [pvI 1], M)) rfl ⟨trivial, trivial⟩ ?_
  refine pw_if hT (c := 1 < 0) rfl rfl (fun c2_ => absurd c2_ (by decide)) (fun c2_ => ?_)
  refine pw_blk hT 2 (S' := (18, [some (pvI 1), some (pvI 0), some (pvI 1), some (pvI 0)], [pvI 0, pvI 1], M)) rfl ⟨trivial, trivial, trivial⟩ ?_
  refine pw_icn hT (c := 1 = 0) rfl rfl (fun c3_ => ?_) (fun c3_ => absurd c3_ (by decide))
  refine pw_blk hT 1 (S' := (24, [some (pvI 1), some (pvI 0), some (pvI 1), some (pvI 0)], [pvI 1], M)) rfl ⟨trivial, trivial⟩ ?_
  refine pw_callT hT (as := [pvI 1]) (lo1 := [some (pvI 1)]) (d1 := d) (rest := []) rfl rfl rfl rfl rfl (fun h => absurd h (by decide)) (Nat.zero_le _) rfl rfl rfl (se_X3_above_1 M hok d) ?_
  refine pw_eqI (show ((pvstab 1040).getD (Int32.toNatClampNeg 1) 0) = 0 from by decide) ?_
  show PW 132 d (27, [some (pvI 1), some (pvI 0), some (pvI 1), some (pvI 0)], [pvI 0], M) _
  refine pw_blk hT 3 (S' := (4, [some (pvI 1), some (pvI 0), some (pvI 0), some (pvI (0 + 1))], [], M)) rfl ⟨trivial, trivial, trivial, trivial⟩ ?_
  refine pw_blk hT 3 (S' := (9, [some (pvI 1), some (pvI 0), some (pvI 0), some (pvI (0 + 1))], [pvI (Int32.ofNat (pvstab 1040).length), pvI (0 + 1)], M)) rfl ⟨trivial, trivial, (by decide), trivial⟩ ?_
  refine pw_ic hT (c := (Int32.ofNat (pvstab 1040).length) ≤ (0 + 1)) rfl rfl (fun c9_ => absurd c9_ (by decide)) (fun c9_ => ?_)
  refine pw_blk hT 1 (S' := (13, [some (pvI 1), some (pvI 0), some (pvI 0), some (pvI (0 + 1))], [pvI 0], M)) rfl ⟨trivial, trivial⟩ ?_
  refine pw_if hT (c := 0 < 0) rfl rfl (fun c10_ => absurd c10_ (by decide)) (fun c10_ => ?_)
  refine pw_blk hT 2 (S' := (18, [some (pvI 1), some (pvI 0), some (pvI 0), some (pvI (0 + 1))], [pvI 0, pvI 0], M)) rfl ⟨trivial, trivial, trivial⟩ ?_
  refine pw_icn hT (c := 0 = 0) rfl rfl (fun c11_ => absurd (by decide) c11_) (fun c11_ => ?_)
  refine pw_blk hT 1 (S' := (22, [some (pvI 1), some (pvI 0), some (pvI 0), some (pvI (0 + 1))], [pvI 1], M)) rfl ⟨trivial, trivial⟩ ?_
  exact pw_ret hT rfl (r := some (pvI 1)) (M' := M) ⟨Or.inr rfl, rfl, rfl⟩ ⟨rfl, rfl⟩
set_option maxHeartbeats 4000000 in
set_option maxRecDepth 10000 in
theorem se_X3_isUnder_1_1 (M : pvM) (hok : pvOk M) (d : Nat) : PW 132 d (0, [some (pvI 1), some (pvI 1), none, none], [], M) (fun r X => r = some (pvI (1)) ∧ X = M) := by
  have hT : pvdom 132 = pvD_132 := rfl
  refine pw_blk hT 4 (S' := (4, [some (pvI 1), some (pvI 1), some (pvI 1), some (pvI 0)], [], M)) rfl ⟨trivial, trivial, trivial, trivial, trivial⟩ ?_
  refine pw_blk hT 3 (S' := (9, [some (pvI 1), some (pvI 1), some (pvI 1), some (pvI 0)], [pvI (Int32.ofNat (pvstab 1040).length), pvI 0], M)) rfl ⟨trivial, trivial, (by decide), trivial⟩ ?_
  refine pw_ic hT (c := (Int32.ofNat (pvstab 1040).length) ≤ 0) rfl rfl (fun c1_ => absurd c1_ (by decide)) (fun c1_ => ?_)
  refine pw_blk hT 1 (S' := (13, [some (pvI 1), some (pvI 1), some (pvI 1), some (pvI 0)], [pvI 1], M)) rfl ⟨trivial, trivial⟩ ?_
  refine pw_if hT (c := 1 < 0) rfl rfl (fun c2_ => absurd c2_ (by decide)) (fun c2_ => ?_)
  refine pw_blk hT 2 (S' := (18, [some (pvI 1), some (pvI 1), some (pvI 1), some (pvI 0)], [pvI 1, pvI 1], M)) rfl ⟨trivial, trivial, trivial⟩ ?_
  refine pw_icn hT (c := 1 = 1) rfl rfl (fun c3_ => absurd (by decide) c3_) (fun c3_ => ?_)
  refine pw_blk hT 1 (S' := (22, [some (pvI 1), some (pvI 1), some (pvI 1), some (pvI 0)], [pvI 1], M)) rfl ⟨trivial, trivial⟩ ?_
  exact pw_ret hT rfl (r := some (pvI 1)) (M' := M) ⟨Or.inr rfl, rfl, rfl⟩ ⟨rfl, rfl⟩
set_option maxHeartbeats 4000000 in
set_option maxRecDepth 10000 in
theorem se_X3_isUnder_1_2 (M : pvM) (hok : pvOk M) (d : Nat) : PW 132 d (0, [some (pvI 1), some (pvI 2), none, none], [], M) (fun r X => r = some (pvI (0)) ∧ X = M) := by
  have hT : pvdom 132 = pvD_132 := rfl
  refine pw_blk hT 4 (S' := (4, [some (pvI 1), some (pvI 2), some (pvI 1), some (pvI 0)], [], M)) rfl ⟨trivial, trivial, trivial, trivial, trivial⟩ ?_
  refine pw_blk hT 3 (S' := (9, [some (pvI 1), some (pvI 2), some (pvI 1), some (pvI 0)], [pvI (Int32.ofNat (pvstab 1040).length), pvI 0], M)) rfl ⟨trivial, trivial, (by decide), trivial⟩ ?_
  refine pw_ic hT (c := (Int32.ofNat (pvstab 1040).length) ≤ 0) rfl rfl (fun c1_ => absurd c1_ (by decide)) (fun c1_ => ?_)
  refine pw_blk hT 1 (S' := (13, [some (pvI 1), some (pvI 2), some (pvI 1), some (pvI 0)], [pvI 1], M)) rfl ⟨trivial, trivial⟩ ?_
  refine pw_if hT (c := 1 < 0) rfl rfl (fun c2_ => absurd c2_ (by decide)) (fun c2_ => ?_)
  refine pw_blk hT 2 (S' := (18, [some (pvI 1), some (pvI 2), some (pvI 1), some (pvI 0)], [pvI 2, pvI 1], M)) rfl ⟨trivial, trivial, trivial⟩ ?_
  refine pw_icn hT (c := 1 = 2) rfl rfl (fun c3_ => ?_) (fun c3_ => absurd c3_ (by decide))
  refine pw_blk hT 1 (S' := (24, [some (pvI 1), some (pvI 2), some (pvI 1), some (pvI 0)], [pvI 1], M)) rfl ⟨trivial, trivial⟩ ?_
  refine pw_callT hT (as := [pvI 1]) (lo1 := [some (pvI 1)]) (d1 := d) (rest := []) rfl rfl rfl rfl rfl (fun h => absurd h (by decide)) (Nat.zero_le _) rfl rfl rfl (se_X3_above_1 M hok d) ?_
  refine pw_eqI (show ((pvstab 1040).getD (Int32.toNatClampNeg 1) 0) = 0 from by decide) ?_
  show PW 132 d (27, [some (pvI 1), some (pvI 2), some (pvI 1), some (pvI 0)], [pvI 0], M) _
  refine pw_blk hT 3 (S' := (4, [some (pvI 1), some (pvI 2), some (pvI 0), some (pvI (0 + 1))], [], M)) rfl ⟨trivial, trivial, trivial, trivial⟩ ?_
  refine pw_blk hT 3 (S' := (9, [some (pvI 1), some (pvI 2), some (pvI 0), some (pvI (0 + 1))], [pvI (Int32.ofNat (pvstab 1040).length), pvI (0 + 1)], M)) rfl ⟨trivial, trivial, (by decide), trivial⟩ ?_
  refine pw_ic hT (c := (Int32.ofNat (pvstab 1040).length) ≤ (0 + 1)) rfl rfl (fun c9_ => absurd c9_ (by decide)) (fun c9_ => ?_)
  refine pw_blk hT 1 (S' := (13, [some (pvI 1), some (pvI 2), some (pvI 0), some (pvI (0 + 1))], [pvI 0], M)) rfl ⟨trivial, trivial⟩ ?_
  refine pw_if hT (c := 0 < 0) rfl rfl (fun c10_ => absurd c10_ (by decide)) (fun c10_ => ?_)
  refine pw_blk hT 2 (S' := (18, [some (pvI 1), some (pvI 2), some (pvI 0), some (pvI (0 + 1))], [pvI 2, pvI 0], M)) rfl ⟨trivial, trivial, trivial⟩ ?_
  refine pw_icn hT (c := 0 = 2) rfl rfl (fun c11_ => ?_) (fun c11_ => absurd c11_ (by decide))
  refine pw_blk hT 1 (S' := (24, [some (pvI 1), some (pvI 2), some (pvI 0), some (pvI (0 + 1))], [pvI 0], M)) rfl ⟨trivial, trivial⟩ ?_
  refine pw_callT hT (as := [pvI 0]) (lo1 := [some (pvI 0)]) (d1 := d) (rest := []) rfl rfl rfl rfl rfl (fun h => absurd h (by decide)) (Nat.zero_le _) rfl rfl rfl (se_X3_above_0 M hok d) ?_
  refine pw_eqI (show ((pvstab 1040).getD (Int32.toNatClampNeg 0) 0) = (-1) from by decide) ?_
  show PW 132 d (27, [some (pvI 1), some (pvI 2), some (pvI 0), some (pvI (0 + 1))], [pvI (-1)], M) _
  refine pw_blk hT 3 (S' := (4, [some (pvI 1), some (pvI 2), some (pvI (-1)), some (pvI ((0 + 1) + 1))], [], M)) rfl ⟨trivial, trivial, trivial, trivial⟩ ?_
  refine pw_blk hT 3 (S' := (9, [some (pvI 1), some (pvI 2), some (pvI (-1)), some (pvI ((0 + 1) + 1))], [pvI (Int32.ofNat (pvstab 1040).length), pvI ((0 + 1) + 1)], M)) rfl ⟨trivial, trivial, (by decide), trivial⟩ ?_
  refine pw_ic hT (c := (Int32.ofNat (pvstab 1040).length) ≤ ((0 + 1) + 1)) rfl rfl (fun c17_ => absurd c17_ (by decide)) (fun c17_ => ?_)
  refine pw_blk hT 1 (S' := (13, [some (pvI 1), some (pvI 2), some (pvI (-1)), some (pvI ((0 + 1) + 1))], [pvI (-1)], M)) rfl ⟨trivial, trivial⟩ ?_
  refine pw_if hT (c := (-1) < 0) rfl rfl (fun c18_ => ?_) (fun c18_ => absurd (by decide) c18_)
  refine pw_blk hT 1 (S' := (35, [some (pvI 1), some (pvI 2), some (pvI (-1)), some (pvI ((0 + 1) + 1))], [pvI 0], M)) rfl ⟨trivial, trivial⟩ ?_
  exact pw_ret hT rfl (r := some (pvI 0)) (M' := M) ⟨Or.inl rfl, rfl, rfl⟩ ⟨rfl, rfl⟩
set_option maxHeartbeats 4000000 in
set_option maxRecDepth 10000 in
theorem se_X3_isUnder_1_3 (M : pvM) (hok : pvOk M) (d : Nat) : PW 132 d (0, [some (pvI 1), some (pvI 3), none, none], [], M) (fun r X => r = some (pvI (0)) ∧ X = M) := by
  have hT : pvdom 132 = pvD_132 := rfl
  refine pw_blk hT 4 (S' := (4, [some (pvI 1), some (pvI 3), some (pvI 1), some (pvI 0)], [], M)) rfl ⟨trivial, trivial, trivial, trivial, trivial⟩ ?_
  refine pw_blk hT 3 (S' := (9, [some (pvI 1), some (pvI 3), some (pvI 1), some (pvI 0)], [pvI (Int32.ofNat (pvstab 1040).length), pvI 0], M)) rfl ⟨trivial, trivial, (by decide), trivial⟩ ?_
  refine pw_ic hT (c := (Int32.ofNat (pvstab 1040).length) ≤ 0) rfl rfl (fun c1_ => absurd c1_ (by decide)) (fun c1_ => ?_)
  refine pw_blk hT 1 (S' := (13, [some (pvI 1), some (pvI 3), some (pvI 1), some (pvI 0)], [pvI 1], M)) rfl ⟨trivial, trivial⟩ ?_
  refine pw_if hT (c := 1 < 0) rfl rfl (fun c2_ => absurd c2_ (by decide)) (fun c2_ => ?_)
  refine pw_blk hT 2 (S' := (18, [some (pvI 1), some (pvI 3), some (pvI 1), some (pvI 0)], [pvI 3, pvI 1], M)) rfl ⟨trivial, trivial, trivial⟩ ?_
  refine pw_icn hT (c := 1 = 3) rfl rfl (fun c3_ => ?_) (fun c3_ => absurd c3_ (by decide))
  refine pw_blk hT 1 (S' := (24, [some (pvI 1), some (pvI 3), some (pvI 1), some (pvI 0)], [pvI 1], M)) rfl ⟨trivial, trivial⟩ ?_
  refine pw_callT hT (as := [pvI 1]) (lo1 := [some (pvI 1)]) (d1 := d) (rest := []) rfl rfl rfl rfl rfl (fun h => absurd h (by decide)) (Nat.zero_le _) rfl rfl rfl (se_X3_above_1 M hok d) ?_
  refine pw_eqI (show ((pvstab 1040).getD (Int32.toNatClampNeg 1) 0) = 0 from by decide) ?_
  show PW 132 d (27, [some (pvI 1), some (pvI 3), some (pvI 1), some (pvI 0)], [pvI 0], M) _
  refine pw_blk hT 3 (S' := (4, [some (pvI 1), some (pvI 3), some (pvI 0), some (pvI (0 + 1))], [], M)) rfl ⟨trivial, trivial, trivial, trivial⟩ ?_
  refine pw_blk hT 3 (S' := (9, [some (pvI 1), some (pvI 3), some (pvI 0), some (pvI (0 + 1))], [pvI (Int32.ofNat (pvstab 1040).length), pvI (0 + 1)], M)) rfl ⟨trivial, trivial, (by decide), trivial⟩ ?_
  refine pw_ic hT (c := (Int32.ofNat (pvstab 1040).length) ≤ (0 + 1)) rfl rfl (fun c9_ => absurd c9_ (by decide)) (fun c9_ => ?_)
  refine pw_blk hT 1 (S' := (13, [some (pvI 1), some (pvI 3), some (pvI 0), some (pvI (0 + 1))], [pvI 0], M)) rfl ⟨trivial, trivial⟩ ?_
  refine pw_if hT (c := 0 < 0) rfl rfl (fun c10_ => absurd c10_ (by decide)) (fun c10_ => ?_)
  refine pw_blk hT 2 (S' := (18, [some (pvI 1), some (pvI 3), some (pvI 0), some (pvI (0 + 1))], [pvI 3, pvI 0], M)) rfl ⟨trivial, trivial, trivial⟩ ?_
  refine pw_icn hT (c := 0 = 3) rfl rfl (fun c11_ => ?_) (fun c11_ => absurd c11_ (by decide))
  refine pw_blk hT 1 (S' := (24, [some (pvI 1), some (pvI 3), some (pvI 0), some (pvI (0 + 1))], [pvI 0], M)) rfl ⟨trivial, trivial⟩ ?_
  refine pw_callT hT (as := [pvI 0]) (lo1 := [some (pvI 0)]) (d1 := d) (rest := []) rfl rfl rfl rfl rfl (fun h => absurd h (by decide)) (Nat.zero_le _) rfl rfl rfl (se_X3_above_0 M hok d) ?_
  refine pw_eqI (show ((pvstab 1040).getD (Int32.toNatClampNeg 0) 0) = (-1) from by decide) ?_
  show PW 132 d (27, [some (pvI 1), some (pvI 3), some (pvI 0), some (pvI (0 + 1))], [pvI (-1)], M) _
  refine pw_blk hT 3 (S' := (4, [some (pvI 1), some (pvI 3), some (pvI (-1)), some (pvI ((0 + 1) + 1))], [], M)) rfl ⟨trivial, trivial, trivial, trivial⟩ ?_
  refine pw_blk hT 3 (S' := (9, [some (pvI 1), some (pvI 3), some (pvI (-1)), some (pvI ((0 + 1) + 1))], [pvI (Int32.ofNat (pvstab 1040).length), pvI ((0 + 1) + 1)], M)) rfl ⟨trivial, trivial, (by decide), trivial⟩ ?_
  refine pw_ic hT (c := (Int32.ofNat (pvstab 1040).length) ≤ ((0 + 1) + 1)) rfl rfl (fun c17_ => absurd c17_ (by decide)) (fun c17_ => ?_)
  refine pw_blk hT 1 (S' := (13, [some (pvI 1), some (pvI 3), some (pvI (-1)), some (pvI ((0 + 1) + 1))], [pvI (-1)], M)) rfl ⟨trivial, trivial⟩ ?_
  refine pw_if hT (c := (-1) < 0) rfl rfl (fun c18_ => ?_) (fun c18_ => absurd (by decide) c18_)
  refine pw_blk hT 1 (S' := (35, [some (pvI 1), some (pvI 3), some (pvI (-1)), some (pvI ((0 + 1) + 1))], [pvI 0], M)) rfl ⟨trivial, trivial⟩ ?_
  exact pw_ret hT rfl (r := some (pvI 0)) (M' := M) ⟨Or.inl rfl, rfl, rfl⟩ ⟨rfl, rfl⟩
set_option maxHeartbeats 4000000 in
set_option maxRecDepth 10000 in
theorem se_X3_isUnder_1_4 (M : pvM) (hok : pvOk M) (d : Nat) : PW 132 d (0, [some (pvI 1), some (pvI 4), none, none], [], M) (fun r X => r = some (pvI (0)) ∧ X = M) := by
  have hT : pvdom 132 = pvD_132 := rfl
  refine pw_blk hT 4 (S' := (4, [some (pvI 1), some (pvI 4), some (pvI 1), some (pvI 0)], [], M)) rfl ⟨trivial, trivial, trivial, trivial, trivial⟩ ?_
  refine pw_blk hT 3 (S' := (9, [some (pvI 1), some (pvI 4), some (pvI 1), some (pvI 0)], [pvI (Int32.ofNat (pvstab 1040).length), pvI 0], M)) rfl ⟨trivial, trivial, (by decide), trivial⟩ ?_
  refine pw_ic hT (c := (Int32.ofNat (pvstab 1040).length) ≤ 0) rfl rfl (fun c1_ => absurd c1_ (by decide)) (fun c1_ => ?_)
  refine pw_blk hT 1 (S' := (13, [some (pvI 1), some (pvI 4), some (pvI 1), some (pvI 0)], [pvI 1], M)) rfl ⟨trivial, trivial⟩ ?_
  refine pw_if hT (c := 1 < 0) rfl rfl (fun c2_ => absurd c2_ (by decide)) (fun c2_ => ?_)
  refine pw_blk hT 2 (S' := (18, [some (pvI 1), some (pvI 4), some (pvI 1), some (pvI 0)], [pvI 4, pvI 1], M)) rfl ⟨trivial, trivial, trivial⟩ ?_
  refine pw_icn hT (c := 1 = 4) rfl rfl (fun c3_ => ?_) (fun c3_ => absurd c3_ (by decide))
  refine pw_blk hT 1 (S' := (24, [some (pvI 1), some (pvI 4), some (pvI 1), some (pvI 0)], [pvI 1], M)) rfl ⟨trivial, trivial⟩ ?_
  refine pw_callT hT (as := [pvI 1]) (lo1 := [some (pvI 1)]) (d1 := d) (rest := []) rfl rfl rfl rfl rfl (fun h => absurd h (by decide)) (Nat.zero_le _) rfl rfl rfl (se_X3_above_1 M hok d) ?_
  refine pw_eqI (show ((pvstab 1040).getD (Int32.toNatClampNeg 1) 0) = 0 from by decide) ?_
  show PW 132 d (27, [some (pvI 1), some (pvI 4), some (pvI 1), some (pvI 0)], [pvI 0], M) _
  refine pw_blk hT 3 (S' := (4, [some (pvI 1), some (pvI 4), some (pvI 0), some (pvI (0 + 1))], [], M)) rfl ⟨trivial, trivial, trivial, trivial⟩ ?_
  refine pw_blk hT 3 (S' := (9, [some (pvI 1), some (pvI 4), some (pvI 0), some (pvI (0 + 1))], [pvI (Int32.ofNat (pvstab 1040).length), pvI (0 + 1)], M)) rfl ⟨trivial, trivial, (by decide), trivial⟩ ?_
  refine pw_ic hT (c := (Int32.ofNat (pvstab 1040).length) ≤ (0 + 1)) rfl rfl (fun c9_ => absurd c9_ (by decide)) (fun c9_ => ?_)
  refine pw_blk hT 1 (S' := (13, [some (pvI 1), some (pvI 4), some (pvI 0), some (pvI (0 + 1))], [pvI 0], M)) rfl ⟨trivial, trivial⟩ ?_
  refine pw_if hT (c := 0 < 0) rfl rfl (fun c10_ => absurd c10_ (by decide)) (fun c10_ => ?_)
  refine pw_blk hT 2 (S' := (18, [some (pvI 1), some (pvI 4), some (pvI 0), some (pvI (0 + 1))], [pvI 4, pvI 0], M)) rfl ⟨trivial, trivial, trivial⟩ ?_
  refine pw_icn hT (c := 0 = 4) rfl rfl (fun c11_ => ?_) (fun c11_ => absurd c11_ (by decide))
  refine pw_blk hT 1 (S' := (24, [some (pvI 1), some (pvI 4), some (pvI 0), some (pvI (0 + 1))], [pvI 0], M)) rfl ⟨trivial, trivial⟩ ?_
  refine pw_callT hT (as := [pvI 0]) (lo1 := [some (pvI 0)]) (d1 := d) (rest := []) rfl rfl rfl rfl rfl (fun h => absurd h (by decide)) (Nat.zero_le _) rfl rfl rfl (se_X3_above_0 M hok d) ?_
  refine pw_eqI (show ((pvstab 1040).getD (Int32.toNatClampNeg 0) 0) = (-1) from by decide) ?_
  show PW 132 d (27, [some (pvI 1), some (pvI 4), some (pvI 0), some (pvI (0 + 1))], [pvI (-1)], M) _
  refine pw_blk hT 3 (S' := (4, [some (pvI 1), some (pvI 4), some (pvI (-1)), some (pvI ((0 + 1) + 1))], [], M)) rfl ⟨trivial, trivial, trivial, trivial⟩ ?_
  refine pw_blk hT 3 (S' := (9, [some (pvI 1), some (pvI 4), some (pvI (-1)), some (pvI ((0 + 1) + 1))], [pvI (Int32.ofNat (pvstab 1040).length), pvI ((0 + 1) + 1)], M)) rfl ⟨trivial, trivial, (by decide), trivial⟩ ?_
  refine pw_ic hT (c := (Int32.ofNat (pvstab 1040).length) ≤ ((0 + 1) + 1)) rfl rfl (fun c17_ => absurd c17_ (by decide)) (fun c17_ => ?_)
  refine pw_blk hT 1 (S' := (13, [some (pvI 1), some (pvI 4), some (pvI (-1)), some (pvI ((0 + 1) + 1))], [pvI (-1)], M)) rfl ⟨trivial, trivial⟩ ?_
  refine pw_if hT (c := (-1) < 0) rfl rfl (fun c18_ => ?_) (fun c18_ => absurd (by decide) c18_)
  refine pw_blk hT 1 (S' := (35, [some (pvI 1), some (pvI 4), some (pvI (-1)), some (pvI ((0 + 1) + 1))], [pvI 0], M)) rfl ⟨trivial, trivial⟩ ?_
  exact pw_ret hT rfl (r := some (pvI 0)) (M' := M) ⟨Or.inl rfl, rfl, rfl⟩ ⟨rfl, rfl⟩
set_option maxHeartbeats 4000000 in
set_option maxRecDepth 10000 in
theorem se_X3_isUnder_1_5 (M : pvM) (hok : pvOk M) (d : Nat) : PW 132 d (0, [some (pvI 1), some (pvI 5), none, none], [], M) (fun r X => r = some (pvI (0)) ∧ X = M) := by
  have hT : pvdom 132 = pvD_132 := rfl
  refine pw_blk hT 4 (S' := (4, [some (pvI 1), some (pvI 5), some (pvI 1), some (pvI 0)], [], M)) rfl ⟨trivial, trivial, trivial, trivial, trivial⟩ ?_
  refine pw_blk hT 3 (S' := (9, [some (pvI 1), some (pvI 5), some (pvI 1), some (pvI 0)], [pvI (Int32.ofNat (pvstab 1040).length), pvI 0], M)) rfl ⟨trivial, trivial, (by decide), trivial⟩ ?_
  refine pw_ic hT (c := (Int32.ofNat (pvstab 1040).length) ≤ 0) rfl rfl (fun c1_ => absurd c1_ (by decide)) (fun c1_ => ?_)
  refine pw_blk hT 1 (S' := (13, [some (pvI 1), some (pvI 5), some (pvI 1), some (pvI 0)], [pvI 1], M)) rfl ⟨trivial, trivial⟩ ?_
  refine pw_if hT (c := 1 < 0) rfl rfl (fun c2_ => absurd c2_ (by decide)) (fun c2_ => ?_)
  refine pw_blk hT 2 (S' := (18, [some (pvI 1), some (pvI 5), some (pvI 1), some (pvI 0)], [pvI 5, pvI 1], M)) rfl ⟨trivial, trivial, trivial⟩ ?_
  refine pw_icn hT (c := 1 = 5) rfl rfl (fun c3_ => ?_) (fun c3_ => absurd c3_ (by decide))
  refine pw_blk hT 1 (S' := (24, [some (pvI 1), some (pvI 5), some (pvI 1), some (pvI 0)], [pvI 1], M)) rfl ⟨trivial, trivial⟩ ?_
  refine pw_callT hT (as := [pvI 1]) (lo1 := [some (pvI 1)]) (d1 := d) (rest := []) rfl rfl rfl rfl rfl (fun h => absurd h (by decide)) (Nat.zero_le _) rfl rfl rfl (se_X3_above_1 M hok d) ?_
  refine pw_eqI (show ((pvstab 1040).getD (Int32.toNatClampNeg 1) 0) = 0 from by decide) ?_
  show PW 132 d (27, [some (pvI 1), some (pvI 5), some (pvI 1), some (pvI 0)], [pvI 0], M) _
  refine pw_blk hT 3 (S' := (4, [some (pvI 1), some (pvI 5), some (pvI 0), some (pvI (0 + 1))], [], M)) rfl ⟨trivial, trivial, trivial, trivial⟩ ?_
  refine pw_blk hT 3 (S' := (9, [some (pvI 1), some (pvI 5), some (pvI 0), some (pvI (0 + 1))], [pvI (Int32.ofNat (pvstab 1040).length), pvI (0 + 1)], M)) rfl ⟨trivial, trivial, (by decide), trivial⟩ ?_
  refine pw_ic hT (c := (Int32.ofNat (pvstab 1040).length) ≤ (0 + 1)) rfl rfl (fun c9_ => absurd c9_ (by decide)) (fun c9_ => ?_)
  refine pw_blk hT 1 (S' := (13, [some (pvI 1), some (pvI 5), some (pvI 0), some (pvI (0 + 1))], [pvI 0], M)) rfl ⟨trivial, trivial⟩ ?_
  refine pw_if hT (c := 0 < 0) rfl rfl (fun c10_ => absurd c10_ (by decide)) (fun c10_ => ?_)
  refine pw_blk hT 2 (S' := (18, [some (pvI 1), some (pvI 5), some (pvI 0), some (pvI (0 + 1))], [pvI 5, pvI 0], M)) rfl ⟨trivial, trivial, trivial⟩ ?_
  refine pw_icn hT (c := 0 = 5) rfl rfl (fun c11_ => ?_) (fun c11_ => absurd c11_ (by decide))
  refine pw_blk hT 1 (S' := (24, [some (pvI 1), some (pvI 5), some (pvI 0), some (pvI (0 + 1))], [pvI 0], M)) rfl ⟨trivial, trivial⟩ ?_
  refine pw_callT hT (as := [pvI 0]) (lo1 := [some (pvI 0)]) (d1 := d) (rest := []) rfl rfl rfl rfl rfl (fun h => absurd h (by decide)) (Nat.zero_le _) rfl rfl rfl (se_X3_above_0 M hok d) ?_
  refine pw_eqI (show ((pvstab 1040).getD (Int32.toNatClampNeg 0) 0) = (-1) from by decide) ?_
  show PW 132 d (27, [some (pvI 1), some (pvI 5), some (pvI 0), some (pvI (0 + 1))], [pvI (-1)], M) _
  refine pw_blk hT 3 (S' := (4, [some (pvI 1), some (pvI 5), some (pvI (-1)), some (pvI ((0 + 1) + 1))], [], M)) rfl ⟨trivial, trivial, trivial, trivial⟩ ?_
  refine pw_blk hT 3 (S' := (9, [some (pvI 1), some (pvI 5), some (pvI (-1)), some (pvI ((0 + 1) + 1))], [pvI (Int32.ofNat (pvstab 1040).length), pvI ((0 + 1) + 1)], M)) rfl ⟨trivial, trivial, (by decide), trivial⟩ ?_
  refine pw_ic hT (c := (Int32.ofNat (pvstab 1040).length) ≤ ((0 + 1) + 1)) rfl rfl (fun c17_ => absurd c17_ (by decide)) (fun c17_ => ?_)
  refine pw_blk hT 1 (S' := (13, [some (pvI 1), some (pvI 5), some (pvI (-1)), some (pvI ((0 + 1) + 1))], [pvI (-1)], M)) rfl ⟨trivial, trivial⟩ ?_
  refine pw_if hT (c := (-1) < 0) rfl rfl (fun c18_ => ?_) (fun c18_ => absurd (by decide) c18_)
  refine pw_blk hT 1 (S' := (35, [some (pvI 1), some (pvI 5), some (pvI (-1)), some (pvI ((0 + 1) + 1))], [pvI 0], M)) rfl ⟨trivial, trivial⟩ ?_
  exact pw_ret hT rfl (r := some (pvI 0)) (M' := M) ⟨Or.inl rfl, rfl, rfl⟩ ⟨rfl, rfl⟩
set_option maxHeartbeats 4000000 in
set_option maxRecDepth 10000 in
theorem se_X3_isUnder_1_6 (M : pvM) (hok : pvOk M) (d : Nat) : PW 132 d (0, [some (pvI 1), some (pvI 6), none, none], [], M) (fun r X => r = some (pvI (0)) ∧ X = M) := by
  have hT : pvdom 132 = pvD_132 := rfl
  refine pw_blk hT 4 (S' := (4, [some (pvI 1), some (pvI 6), some (pvI 1), some (pvI 0)], [], M)) rfl ⟨trivial, trivial, trivial, trivial, trivial⟩ ?_
  refine pw_blk hT 3 (S' := (9, [some (pvI 1), some (pvI 6), some (pvI 1), some (pvI 0)], [pvI (Int32.ofNat (pvstab 1040).length), pvI 0], M)) rfl ⟨trivial, trivial, (by decide), trivial⟩ ?_
  refine pw_ic hT (c := (Int32.ofNat (pvstab 1040).length) ≤ 0) rfl rfl (fun c1_ => absurd c1_ (by decide)) (fun c1_ => ?_)
  refine pw_blk hT 1 (S' := (13, [some (pvI 1), some (pvI 6), some (pvI 1), some (pvI 0)], [pvI 1], M)) rfl ⟨trivial, trivial⟩ ?_
  refine pw_if hT (c := 1 < 0) rfl rfl (fun c2_ => absurd c2_ (by decide)) (fun c2_ => ?_)
  refine pw_blk hT 2 (S' := (18, [some (pvI 1), some (pvI 6), some (pvI 1), some (pvI 0)], [pvI 6, pvI 1], M)) rfl ⟨trivial, trivial, trivial⟩ ?_
  refine pw_icn hT (c := 1 = 6) rfl rfl (fun c3_ => ?_) (fun c3_ => absurd c3_ (by decide))
  refine pw_blk hT 1 (S' := (24, [some (pvI 1), some (pvI 6), some (pvI 1), some (pvI 0)], [pvI 1], M)) rfl ⟨trivial, trivial⟩ ?_
  refine pw_callT hT (as := [pvI 1]) (lo1 := [some (pvI 1)]) (d1 := d) (rest := []) rfl rfl rfl rfl rfl (fun h => absurd h (by decide)) (Nat.zero_le _) rfl rfl rfl (se_X3_above_1 M hok d) ?_
  refine pw_eqI (show ((pvstab 1040).getD (Int32.toNatClampNeg 1) 0) = 0 from by decide) ?_
  show PW 132 d (27, [some (pvI 1), some (pvI 6), some (pvI 1), some (pvI 0)], [pvI 0], M) _
  refine pw_blk hT 3 (S' := (4, [some (pvI 1), some (pvI 6), some (pvI 0), some (pvI (0 + 1))], [], M)) rfl ⟨trivial, trivial, trivial, trivial⟩ ?_
  refine pw_blk hT 3 (S' := (9, [some (pvI 1), some (pvI 6), some (pvI 0), some (pvI (0 + 1))], [pvI (Int32.ofNat (pvstab 1040).length), pvI (0 + 1)], M)) rfl ⟨trivial, trivial, (by decide), trivial⟩ ?_
  refine pw_ic hT (c := (Int32.ofNat (pvstab 1040).length) ≤ (0 + 1)) rfl rfl (fun c9_ => absurd c9_ (by decide)) (fun c9_ => ?_)
  refine pw_blk hT 1 (S' := (13, [some (pvI 1), some (pvI 6), some (pvI 0), some (pvI (0 + 1))], [pvI 0], M)) rfl ⟨trivial, trivial⟩ ?_
  refine pw_if hT (c := 0 < 0) rfl rfl (fun c10_ => absurd c10_ (by decide)) (fun c10_ => ?_)
  refine pw_blk hT 2 (S' := (18, [some (pvI 1), some (pvI 6), some (pvI 0), some (pvI (0 + 1))], [pvI 6, pvI 0], M)) rfl ⟨trivial, trivial, trivial⟩ ?_
  refine pw_icn hT (c := 0 = 6) rfl rfl (fun c11_ => ?_) (fun c11_ => absurd c11_ (by decide))
  refine pw_blk hT 1 (S' := (24, [some (pvI 1), some (pvI 6), some (pvI 0), some (pvI (0 + 1))], [pvI 0], M)) rfl ⟨trivial, trivial⟩ ?_
  refine pw_callT hT (as := [pvI 0]) (lo1 := [some (pvI 0)]) (d1 := d) (rest := []) rfl rfl rfl rfl rfl (fun h => absurd h (by decide)) (Nat.zero_le _) rfl rfl rfl (se_X3_above_0 M hok d) ?_
  refine pw_eqI (show ((pvstab 1040).getD (Int32.toNatClampNeg 0) 0) = (-1) from by decide) ?_
  show PW 132 d (27, [some (pvI 1), some (pvI 6), some (pvI 0), some (pvI (0 + 1))], [pvI (-1)], M) _
  refine pw_blk hT 3 (S' := (4, [some (pvI 1), some (pvI 6), some (pvI (-1)), some (pvI ((0 + 1) + 1))], [], M)) rfl ⟨trivial, trivial, trivial, trivial⟩ ?_
  refine pw_blk hT 3 (S' := (9, [some (pvI 1), some (pvI 6), some (pvI (-1)), some (pvI ((0 + 1) + 1))], [pvI (Int32.ofNat (pvstab 1040).length), pvI ((0 + 1) + 1)], M)) rfl ⟨trivial, trivial, (by decide), trivial⟩ ?_
  refine pw_ic hT (c := (Int32.ofNat (pvstab 1040).length) ≤ ((0 + 1) + 1)) rfl rfl (fun c17_ => absurd c17_ (by decide)) (fun c17_ => ?_)
  refine pw_blk hT 1 (S' := (13, [some (pvI 1), some (pvI 6), some (pvI (-1)), some (pvI ((0 + 1) + 1))], [pvI (-1)], M)) rfl ⟨trivial, trivial⟩ ?_
  refine pw_if hT (c := (-1) < 0) rfl rfl (fun c18_ => ?_) (fun c18_ => absurd (by decide) c18_)
  refine pw_blk hT 1 (S' := (35, [some (pvI 1), some (pvI 6), some (pvI (-1)), some (pvI ((0 + 1) + 1))], [pvI 0], M)) rfl ⟨trivial, trivial⟩ ?_
  exact pw_ret hT rfl (r := some (pvI 0)) (M' := M) ⟨Or.inl rfl, rfl, rfl⟩ ⟨rfl, rfl⟩
set_option maxHeartbeats 4000000 in
set_option maxRecDepth 10000 in
theorem se_X3_isUnder_2_0 (M : pvM) (hok : pvOk M) (d : Nat) : PW 132 d (0, [some (pvI 2), some (pvI 0), none, none], [], M) (fun r X => r = some (pvI (1)) ∧ X = M) := by
  have hT : pvdom 132 = pvD_132 := rfl
  refine pw_blk hT 4 (S' := (4, [some (pvI 2), some (pvI 0), some (pvI 2), some (pvI 0)], [], M)) rfl ⟨trivial, trivial, trivial, trivial, trivial⟩ ?_
  refine pw_blk hT 3 (S' := (9, [some (pvI 2), some (pvI 0), some (pvI 2), some (pvI 0)], [pvI (Int32.ofNat (pvstab 1040).length), pvI 0], M)) rfl ⟨trivial, trivial, (by decide), trivial⟩ ?_
  refine pw_ic hT (c := (Int32.ofNat (pvstab 1040).length) ≤ 0) rfl rfl (fun c1_ => absurd c1_ (by decide)) (fun c1_ => ?_)
  refine pw_blk hT 1 (S' := (13, [some (pvI 2), some (pvI 0), some (pvI 2), some (pvI 0)], [pvI 2], M)) rfl ⟨trivial, trivial⟩ ?_
  refine pw_if hT (c := 2 < 0) rfl rfl (fun c2_ => absurd c2_ (by decide)) (fun c2_ => ?_)
  refine pw_blk hT 2 (S' := (18, [some (pvI 2), some (pvI 0), some (pvI 2), some (pvI 0)], [pvI 0, pvI 2], M)) rfl ⟨trivial, trivial, trivial⟩ ?_
  refine pw_icn hT (c := 2 = 0) rfl rfl (fun c3_ => ?_) (fun c3_ => absurd c3_ (by decide))
  refine pw_blk hT 1 (S' := (24, [some (pvI 2), some (pvI 0), some (pvI 2), some (pvI 0)], [pvI 2], M)) rfl ⟨trivial, trivial⟩ ?_
  refine pw_callT hT (as := [pvI 2]) (lo1 := [some (pvI 2)]) (d1 := d) (rest := []) rfl rfl rfl rfl rfl (fun h => absurd h (by decide)) (Nat.zero_le _) rfl rfl rfl (se_X3_above_2 M hok d) ?_
  refine pw_eqI (show ((pvstab 1040).getD (Int32.toNatClampNeg 2) 0) = 0 from by decide) ?_
  show PW 132 d (27, [some (pvI 2), some (pvI 0), some (pvI 2), some (pvI 0)], [pvI 0], M) _
  refine pw_blk hT 3 (S' := (4, [some (pvI 2), some (pvI 0), some (pvI 0), some (pvI (0 + 1))], [], M)) rfl ⟨trivial, trivial, trivial, trivial⟩ ?_
  refine pw_blk hT 3 (S' := (9, [some (pvI 2), some (pvI 0), some (pvI 0), some (pvI (0 + 1))], [pvI (Int32.ofNat (pvstab 1040).length), pvI (0 + 1)], M)) rfl ⟨trivial, trivial, (by decide), trivial⟩ ?_
  refine pw_ic hT (c := (Int32.ofNat (pvstab 1040).length) ≤ (0 + 1)) rfl rfl (fun c9_ => absurd c9_ (by decide)) (fun c9_ => ?_)
  refine pw_blk hT 1 (S' := (13, [some (pvI 2), some (pvI 0), some (pvI 0), some (pvI (0 + 1))], [pvI 0], M)) rfl ⟨trivial, trivial⟩ ?_
  refine pw_if hT (c := 0 < 0) rfl rfl (fun c10_ => absurd c10_ (by decide)) (fun c10_ => ?_)
  refine pw_blk hT 2 (S' := (18, [some (pvI 2), some (pvI 0), some (pvI 0), some (pvI (0 + 1))], [pvI 0, pvI 0], M)) rfl ⟨trivial, trivial, trivial⟩ ?_
  refine pw_icn hT (c := 0 = 0) rfl rfl (fun c11_ => absurd (by decide) c11_) (fun c11_ => ?_)
  refine pw_blk hT 1 (S' := (22, [some (pvI 2), some (pvI 0), some (pvI 0), some (pvI (0 + 1))], [pvI 1], M)) rfl ⟨trivial, trivial⟩ ?_
  exact pw_ret hT rfl (r := some (pvI 1)) (M' := M) ⟨Or.inr rfl, rfl, rfl⟩ ⟨rfl, rfl⟩
set_option maxHeartbeats 4000000 in
set_option maxRecDepth 10000 in
theorem se_X3_isUnder_2_1 (M : pvM) (hok : pvOk M) (d : Nat) : PW 132 d (0, [some (pvI 2), some (pvI 1), none, none], [], M) (fun r X => r = some (pvI (0)) ∧ X = M) := by
  have hT : pvdom 132 = pvD_132 := rfl
  refine pw_blk hT 4 (S' := (4, [some (pvI 2), some (pvI 1), some (pvI 2), some (pvI 0)], [], M)) rfl ⟨trivial, trivial, trivial, trivial, trivial⟩ ?_
  refine pw_blk hT 3 (S' := (9, [some (pvI 2), some (pvI 1), some (pvI 2), some (pvI 0)], [pvI (Int32.ofNat (pvstab 1040).length), pvI 0], M)) rfl ⟨trivial, trivial, (by decide), trivial⟩ ?_
  refine pw_ic hT (c := (Int32.ofNat (pvstab 1040).length) ≤ 0) rfl rfl (fun c1_ => absurd c1_ (by decide)) (fun c1_ => ?_)
  refine pw_blk hT 1 (S' := (13, [some (pvI 2), some (pvI 1), some (pvI 2), some (pvI 0)], [pvI 2], M)) rfl ⟨trivial, trivial⟩ ?_
  refine pw_if hT (c := 2 < 0) rfl rfl (fun c2_ => absurd c2_ (by decide)) (fun c2_ => ?_)
  refine pw_blk hT 2 (S' := (18, [some (pvI 2), some (pvI 1), some (pvI 2), some (pvI 0)], [pvI 1, pvI 2], M)) rfl ⟨trivial, trivial, trivial⟩ ?_
  refine pw_icn hT (c := 2 = 1) rfl rfl (fun c3_ => ?_) (fun c3_ => absurd c3_ (by decide))
  refine pw_blk hT 1 (S' := (24, [some (pvI 2), some (pvI 1), some (pvI 2), some (pvI 0)], [pvI 2], M)) rfl ⟨trivial, trivial⟩ ?_
  refine pw_callT hT (as := [pvI 2]) (lo1 := [some (pvI 2)]) (d1 := d) (rest := []) rfl rfl rfl rfl rfl (fun h => absurd h (by decide)) (Nat.zero_le _) rfl rfl rfl (se_X3_above_2 M hok d) ?_
  refine pw_eqI (show ((pvstab 1040).getD (Int32.toNatClampNeg 2) 0) = 0 from by decide) ?_
  show PW 132 d (27, [some (pvI 2), some (pvI 1), some (pvI 2), some (pvI 0)], [pvI 0], M) _
  refine pw_blk hT 3 (S' := (4, [some (pvI 2), some (pvI 1), some (pvI 0), some (pvI (0 + 1))], [], M)) rfl ⟨trivial, trivial, trivial, trivial⟩ ?_
  refine pw_blk hT 3 (S' := (9, [some (pvI 2), some (pvI 1), some (pvI 0), some (pvI (0 + 1))], [pvI (Int32.ofNat (pvstab 1040).length), pvI (0 + 1)], M)) rfl ⟨trivial, trivial, (by decide), trivial⟩ ?_
  refine pw_ic hT (c := (Int32.ofNat (pvstab 1040).length) ≤ (0 + 1)) rfl rfl (fun c9_ => absurd c9_ (by decide)) (fun c9_ => ?_)
  refine pw_blk hT 1 (S' := (13, [some (pvI 2), some (pvI 1), some (pvI 0), some (pvI (0 + 1))], [pvI 0], M)) rfl ⟨trivial, trivial⟩ ?_
  refine pw_if hT (c := 0 < 0) rfl rfl (fun c10_ => absurd c10_ (by decide)) (fun c10_ => ?_)
  refine pw_blk hT 2 (S' := (18, [some (pvI 2), some (pvI 1), some (pvI 0), some (pvI (0 + 1))], [pvI 1, pvI 0], M)) rfl ⟨trivial, trivial, trivial⟩ ?_
  refine pw_icn hT (c := 0 = 1) rfl rfl (fun c11_ => ?_) (fun c11_ => absurd c11_ (by decide))
  refine pw_blk hT 1 (S' := (24, [some (pvI 2), some (pvI 1), some (pvI 0), some (pvI (0 + 1))], [pvI 0], M)) rfl ⟨trivial, trivial⟩ ?_
  refine pw_callT hT (as := [pvI 0]) (lo1 := [some (pvI 0)]) (d1 := d) (rest := []) rfl rfl rfl rfl rfl (fun h => absurd h (by decide)) (Nat.zero_le _) rfl rfl rfl (se_X3_above_0 M hok d) ?_
  refine pw_eqI (show ((pvstab 1040).getD (Int32.toNatClampNeg 0) 0) = (-1) from by decide) ?_
  show PW 132 d (27, [some (pvI 2), some (pvI 1), some (pvI 0), some (pvI (0 + 1))], [pvI (-1)], M) _
  refine pw_blk hT 3 (S' := (4, [some (pvI 2), some (pvI 1), some (pvI (-1)), some (pvI ((0 + 1) + 1))], [], M)) rfl ⟨trivial, trivial, trivial, trivial⟩ ?_
  refine pw_blk hT 3 (S' := (9, [some (pvI 2), some (pvI 1), some (pvI (-1)), some (pvI ((0 + 1) + 1))], [pvI (Int32.ofNat (pvstab 1040).length), pvI ((0 + 1) + 1)], M)) rfl ⟨trivial, trivial, (by decide), trivial⟩ ?_
  refine pw_ic hT (c := (Int32.ofNat (pvstab 1040).length) ≤ ((0 + 1) + 1)) rfl rfl (fun c17_ => absurd c17_ (by decide)) (fun c17_ => ?_)
  refine pw_blk hT 1 (S' := (13, [some (pvI 2), some (pvI 1), some (pvI (-1)), some (pvI ((0 + 1) + 1))], [pvI (-1)], M)) rfl ⟨trivial, trivial⟩ ?_
  refine pw_if hT (c := (-1) < 0) rfl rfl (fun c18_ => ?_) (fun c18_ => absurd (by decide) c18_)
  refine pw_blk hT 1 (S' := (35, [some (pvI 2), some (pvI 1), some (pvI (-1)), some (pvI ((0 + 1) + 1))], [pvI 0], M)) rfl ⟨trivial, trivial⟩ ?_
  exact pw_ret hT rfl (r := some (pvI 0)) (M' := M) ⟨Or.inl rfl, rfl, rfl⟩ ⟨rfl, rfl⟩
set_option maxHeartbeats 4000000 in
set_option maxRecDepth 10000 in
theorem se_X3_isUnder_2_2 (M : pvM) (hok : pvOk M) (d : Nat) : PW 132 d (0, [some (pvI 2), some (pvI 2), none, none], [], M) (fun r X => r = some (pvI (1)) ∧ X = M) := by
  have hT : pvdom 132 = pvD_132 := rfl
  refine pw_blk hT 4 (S' := (4, [some (pvI 2), some (pvI 2), some (pvI 2), some (pvI 0)], [], M)) rfl ⟨trivial, trivial, trivial, trivial, trivial⟩ ?_
  refine pw_blk hT 3 (S' := (9, [some (pvI 2), some (pvI 2), some (pvI 2), some (pvI 0)], [pvI (Int32.ofNat (pvstab 1040).length), pvI 0], M)) rfl ⟨trivial, trivial, (by decide), trivial⟩ ?_
  refine pw_ic hT (c := (Int32.ofNat (pvstab 1040).length) ≤ 0) rfl rfl (fun c1_ => absurd c1_ (by decide)) (fun c1_ => ?_)
  refine pw_blk hT 1 (S' := (13, [some (pvI 2), some (pvI 2), some (pvI 2), some (pvI 0)], [pvI 2], M)) rfl ⟨trivial, trivial⟩ ?_
  refine pw_if hT (c := 2 < 0) rfl rfl (fun c2_ => absurd c2_ (by decide)) (fun c2_ => ?_)
  refine pw_blk hT 2 (S' := (18, [some (pvI 2), some (pvI 2), some (pvI 2), some (pvI 0)], [pvI 2, pvI 2], M)) rfl ⟨trivial, trivial, trivial⟩ ?_
  refine pw_icn hT (c := 2 = 2) rfl rfl (fun c3_ => absurd (by decide) c3_) (fun c3_ => ?_)
  refine pw_blk hT 1 (S' := (22, [some (pvI 2), some (pvI 2), some (pvI 2), some (pvI 0)], [pvI 1], M)) rfl ⟨trivial, trivial⟩ ?_
  exact pw_ret hT rfl (r := some (pvI 1)) (M' := M) ⟨Or.inr rfl, rfl, rfl⟩ ⟨rfl, rfl⟩
set_option maxHeartbeats 4000000 in
set_option maxRecDepth 10000 in
theorem se_X3_isUnder_2_3 (M : pvM) (hok : pvOk M) (d : Nat) : PW 132 d (0, [some (pvI 2), some (pvI 3), none, none], [], M) (fun r X => r = some (pvI (0)) ∧ X = M) := by
  have hT : pvdom 132 = pvD_132 := rfl
  refine pw_blk hT 4 (S' := (4, [some (pvI 2), some (pvI 3), some (pvI 2), some (pvI 0)], [], M)) rfl ⟨trivial, trivial, trivial, trivial, trivial⟩ ?_
  refine pw_blk hT 3 (S' := (9, [some (pvI 2), some (pvI 3), some (pvI 2), some (pvI 0)], [pvI (Int32.ofNat (pvstab 1040).length), pvI 0], M)) rfl ⟨trivial, trivial, (by decide), trivial⟩ ?_
  refine pw_ic hT (c := (Int32.ofNat (pvstab 1040).length) ≤ 0) rfl rfl (fun c1_ => absurd c1_ (by decide)) (fun c1_ => ?_)
  refine pw_blk hT 1 (S' := (13, [some (pvI 2), some (pvI 3), some (pvI 2), some (pvI 0)], [pvI 2], M)) rfl ⟨trivial, trivial⟩ ?_
  refine pw_if hT (c := 2 < 0) rfl rfl (fun c2_ => absurd c2_ (by decide)) (fun c2_ => ?_)
  refine pw_blk hT 2 (S' := (18, [some (pvI 2), some (pvI 3), some (pvI 2), some (pvI 0)], [pvI 3, pvI 2], M)) rfl ⟨trivial, trivial, trivial⟩ ?_
  refine pw_icn hT (c := 2 = 3) rfl rfl (fun c3_ => ?_) (fun c3_ => absurd c3_ (by decide))
  refine pw_blk hT 1 (S' := (24, [some (pvI 2), some (pvI 3), some (pvI 2), some (pvI 0)], [pvI 2], M)) rfl ⟨trivial, trivial⟩ ?_
  refine pw_callT hT (as := [pvI 2]) (lo1 := [some (pvI 2)]) (d1 := d) (rest := []) rfl rfl rfl rfl rfl (fun h => absurd h (by decide)) (Nat.zero_le _) rfl rfl rfl (se_X3_above_2 M hok d) ?_
  refine pw_eqI (show ((pvstab 1040).getD (Int32.toNatClampNeg 2) 0) = 0 from by decide) ?_
  show PW 132 d (27, [some (pvI 2), some (pvI 3), some (pvI 2), some (pvI 0)], [pvI 0], M) _
  refine pw_blk hT 3 (S' := (4, [some (pvI 2), some (pvI 3), some (pvI 0), some (pvI (0 + 1))], [], M)) rfl ⟨trivial, trivial, trivial, trivial⟩ ?_
  refine pw_blk hT 3 (S' := (9, [some (pvI 2), some (pvI 3), some (pvI 0), some (pvI (0 + 1))], [pvI (Int32.ofNat (pvstab 1040).length), pvI (0 + 1)], M)) rfl ⟨trivial, trivial, (by decide), trivial⟩ ?_
  refine pw_ic hT (c := (Int32.ofNat (pvstab 1040).length) ≤ (0 + 1)) rfl rfl (fun c9_ => absurd c9_ (by decide)) (fun c9_ => ?_)
  refine pw_blk hT 1 (S' := (13, [some (pvI 2), some (pvI 3), some (pvI 0), some (pvI (0 + 1))], [pvI 0], M)) rfl ⟨trivial, trivial⟩ ?_
  refine pw_if hT (c := 0 < 0) rfl rfl (fun c10_ => absurd c10_ (by decide)) (fun c10_ => ?_)
  refine pw_blk hT 2 (S' := (18, [some (pvI 2), some (pvI 3), some (pvI 0), some (pvI (0 + 1))], [pvI 3, pvI 0], M)) rfl ⟨trivial, trivial, trivial⟩ ?_
  refine pw_icn hT (c := 0 = 3) rfl rfl (fun c11_ => ?_) (fun c11_ => absurd c11_ (by decide))
  refine pw_blk hT 1 (S' := (24, [some (pvI 2), some (pvI 3), some (pvI 0), some (pvI (0 + 1))], [pvI 0], M)) rfl ⟨trivial, trivial⟩ ?_
  refine pw_callT hT (as := [pvI 0]) (lo1 := [some (pvI 0)]) (d1 := d) (rest := []) rfl rfl rfl rfl rfl (fun h => absurd h (by decide)) (Nat.zero_le _) rfl rfl rfl (se_X3_above_0 M hok d) ?_
  refine pw_eqI (show ((pvstab 1040).getD (Int32.toNatClampNeg 0) 0) = (-1) from by decide) ?_
  show PW 132 d (27, [some (pvI 2), some (pvI 3), some (pvI 0), some (pvI (0 + 1))], [pvI (-1)], M) _
  refine pw_blk hT 3 (S' := (4, [some (pvI 2), some (pvI 3), some (pvI (-1)), some (pvI ((0 + 1) + 1))], [], M)) rfl ⟨trivial, trivial, trivial, trivial⟩ ?_
  refine pw_blk hT 3 (S' := (9, [some (pvI 2), some (pvI 3), some (pvI (-1)), some (pvI ((0 + 1) + 1))], [pvI (Int32.ofNat (pvstab 1040).length), pvI ((0 + 1) + 1)], M)) rfl ⟨trivial, trivial, (by decide), trivial⟩ ?_
  refine pw_ic hT (c := (Int32.ofNat (pvstab 1040).length) ≤ ((0 + 1) + 1)) rfl rfl (fun c17_ => absurd c17_ (by decide)) (fun c17_ => ?_)
  refine pw_blk hT 1 (S' := (13, [some (pvI 2), some (pvI 3), some (pvI (-1)), some (pvI ((0 + 1) + 1))], [pvI (-1)], M)) rfl ⟨trivial, trivial⟩ ?_
  refine pw_if hT (c := (-1) < 0) rfl rfl (fun c18_ => ?_) (fun c18_ => absurd (by decide) c18_)
  refine pw_blk hT 1 (S' := (35, [some (pvI 2), some (pvI 3), some (pvI (-1)), some (pvI ((0 + 1) + 1))], [pvI 0], M)) rfl ⟨trivial, trivial⟩ ?_
  exact pw_ret hT rfl (r := some (pvI 0)) (M' := M) ⟨Or.inl rfl, rfl, rfl⟩ ⟨rfl, rfl⟩
set_option maxHeartbeats 4000000 in
set_option maxRecDepth 10000 in
theorem se_X3_isUnder_2_4 (M : pvM) (hok : pvOk M) (d : Nat) : PW 132 d (0, [some (pvI 2), some (pvI 4), none, none], [], M) (fun r X => r = some (pvI (0)) ∧ X = M) := by
  have hT : pvdom 132 = pvD_132 := rfl
  refine pw_blk hT 4 (S' := (4, [some (pvI 2), some (pvI 4), some (pvI 2), some (pvI 0)], [], M)) rfl ⟨trivial, trivial, trivial, trivial, trivial⟩ ?_
  refine pw_blk hT 3 (S' := (9, [some (pvI 2), some (pvI 4), some (pvI 2), some (pvI 0)], [pvI (Int32.ofNat (pvstab 1040).length), pvI 0], M)) rfl ⟨trivial, trivial, (by decide), trivial⟩ ?_
  refine pw_ic hT (c := (Int32.ofNat (pvstab 1040).length) ≤ 0) rfl rfl (fun c1_ => absurd c1_ (by decide)) (fun c1_ => ?_)
  refine pw_blk hT 1 (S' := (13, [some (pvI 2), some (pvI 4), some (pvI 2), some (pvI 0)], [pvI 2], M)) rfl ⟨trivial, trivial⟩ ?_
  refine pw_if hT (c := 2 < 0) rfl rfl (fun c2_ => absurd c2_ (by decide)) (fun c2_ => ?_)
  refine pw_blk hT 2 (S' := (18, [some (pvI 2), some (pvI 4), some (pvI 2), some (pvI 0)], [pvI 4, pvI 2], M)) rfl ⟨trivial, trivial, trivial⟩ ?_
  refine pw_icn hT (c := 2 = 4) rfl rfl (fun c3_ => ?_) (fun c3_ => absurd c3_ (by decide))
  refine pw_blk hT 1 (S' := (24, [some (pvI 2), some (pvI 4), some (pvI 2), some (pvI 0)], [pvI 2], M)) rfl ⟨trivial, trivial⟩ ?_
  refine pw_callT hT (as := [pvI 2]) (lo1 := [some (pvI 2)]) (d1 := d) (rest := []) rfl rfl rfl rfl rfl (fun h => absurd h (by decide)) (Nat.zero_le _) rfl rfl rfl (se_X3_above_2 M hok d) ?_
  refine pw_eqI (show ((pvstab 1040).getD (Int32.toNatClampNeg 2) 0) = 0 from by decide) ?_
  show PW 132 d (27, [some (pvI 2), some (pvI 4), some (pvI 2), some (pvI 0)], [pvI 0], M) _
  refine pw_blk hT 3 (S' := (4, [some (pvI 2), some (pvI 4), some (pvI 0), some (pvI (0 + 1))], [], M)) rfl ⟨trivial, trivial, trivial, trivial⟩ ?_
  refine pw_blk hT 3 (S' := (9, [some (pvI 2), some (pvI 4), some (pvI 0), some (pvI (0 + 1))], [pvI (Int32.ofNat (pvstab 1040).length), pvI (0 + 1)], M)) rfl ⟨trivial, trivial, (by decide), trivial⟩ ?_
  refine pw_ic hT (c := (Int32.ofNat (pvstab 1040).length) ≤ (0 + 1)) rfl rfl (fun c9_ => absurd c9_ (by decide)) (fun c9_ => ?_)
  refine pw_blk hT 1 (S' := (13, [some (pvI 2), some (pvI 4), some (pvI 0), some (pvI (0 + 1))], [pvI 0], M)) rfl ⟨trivial, trivial⟩ ?_
  refine pw_if hT (c := 0 < 0) rfl rfl (fun c10_ => absurd c10_ (by decide)) (fun c10_ => ?_)
  refine pw_blk hT 2 (S' := (18, [some (pvI 2), some (pvI 4), some (pvI 0), some (pvI (0 + 1))], [pvI 4, pvI 0], M)) rfl ⟨trivial, trivial, trivial⟩ ?_
  refine pw_icn hT (c := 0 = 4) rfl rfl (fun c11_ => ?_) (fun c11_ => absurd c11_ (by decide))
  refine pw_blk hT 1 (S' := (24, [some (pvI 2), some (pvI 4), some (pvI 0), some (pvI (0 + 1))], [pvI 0], M)) rfl ⟨trivial, trivial⟩ ?_
  refine pw_callT hT (as := [pvI 0]) (lo1 := [some (pvI 0)]) (d1 := d) (rest := []) rfl rfl rfl rfl rfl (fun h => absurd h (by decide)) (Nat.zero_le _) rfl rfl rfl (se_X3_above_0 M hok d) ?_
  refine pw_eqI (show ((pvstab 1040).getD (Int32.toNatClampNeg 0) 0) = (-1) from by decide) ?_
  show PW 132 d (27, [some (pvI 2), some (pvI 4), some (pvI 0), some (pvI (0 + 1))], [pvI (-1)], M) _
  refine pw_blk hT 3 (S' := (4, [some (pvI 2), some (pvI 4), some (pvI (-1)), some (pvI ((0 + 1) + 1))], [], M)) rfl ⟨trivial, trivial, trivial, trivial⟩ ?_
  refine pw_blk hT 3 (S' := (9, [some (pvI 2), some (pvI 4), some (pvI (-1)), some (pvI ((0 + 1) + 1))], [pvI (Int32.ofNat (pvstab 1040).length), pvI ((0 + 1) + 1)], M)) rfl ⟨trivial, trivial, (by decide), trivial⟩ ?_
  refine pw_ic hT (c := (Int32.ofNat (pvstab 1040).length) ≤ ((0 + 1) + 1)) rfl rfl (fun c17_ => absurd c17_ (by decide)) (fun c17_ => ?_)
  refine pw_blk hT 1 (S' := (13, [some (pvI 2), some (pvI 4), some (pvI (-1)), some (pvI ((0 + 1) + 1))], [pvI (-1)], M)) rfl ⟨trivial, trivial⟩ ?_
  refine pw_if hT (c := (-1) < 0) rfl rfl (fun c18_ => ?_) (fun c18_ => absurd (by decide) c18_)
  refine pw_blk hT 1 (S' := (35, [some (pvI 2), some (pvI 4), some (pvI (-1)), some (pvI ((0 + 1) + 1))], [pvI 0], M)) rfl ⟨trivial, trivial⟩ ?_
  exact pw_ret hT rfl (r := some (pvI 0)) (M' := M) ⟨Or.inl rfl, rfl, rfl⟩ ⟨rfl, rfl⟩
set_option maxHeartbeats 4000000 in
set_option maxRecDepth 10000 in
theorem se_X3_isUnder_2_5 (M : pvM) (hok : pvOk M) (d : Nat) : PW 132 d (0, [some (pvI 2), some (pvI 5), none, none], [], M) (fun r X => r = some (pvI (0)) ∧ X = M) := by
  have hT : pvdom 132 = pvD_132 := rfl
  refine pw_blk hT 4 (S' := (4, [some (pvI 2), some (pvI 5), some (pvI 2), some (pvI 0)], [], M)) rfl ⟨trivial, trivial, trivial, trivial, trivial⟩ ?_
  refine pw_blk hT 3 (S' := (9, [some (pvI 2), some (pvI 5), some (pvI 2), some (pvI 0)], [pvI (Int32.ofNat (pvstab 1040).length), pvI 0], M)) rfl ⟨trivial, trivial, (by decide), trivial⟩ ?_
  refine pw_ic hT (c := (Int32.ofNat (pvstab 1040).length) ≤ 0) rfl rfl (fun c1_ => absurd c1_ (by decide)) (fun c1_ => ?_)
  refine pw_blk hT 1 (S' := (13, [some (pvI 2), some (pvI 5), some (pvI 2), some (pvI 0)], [pvI 2], M)) rfl ⟨trivial, trivial⟩ ?_
  refine pw_if hT (c := 2 < 0) rfl rfl (fun c2_ => absurd c2_ (by decide)) (fun c2_ => ?_)
  refine pw_blk hT 2 (S' := (18, [some (pvI 2), some (pvI 5), some (pvI 2), some (pvI 0)], [pvI 5, pvI 2], M)) rfl ⟨trivial, trivial, trivial⟩ ?_
  refine pw_icn hT (c := 2 = 5) rfl rfl (fun c3_ => ?_) (fun c3_ => absurd c3_ (by decide))
  refine pw_blk hT 1 (S' := (24, [some (pvI 2), some (pvI 5), some (pvI 2), some (pvI 0)], [pvI 2], M)) rfl ⟨trivial, trivial⟩ ?_
  refine pw_callT hT (as := [pvI 2]) (lo1 := [some (pvI 2)]) (d1 := d) (rest := []) rfl rfl rfl rfl rfl (fun h => absurd h (by decide)) (Nat.zero_le _) rfl rfl rfl (se_X3_above_2 M hok d) ?_
  refine pw_eqI (show ((pvstab 1040).getD (Int32.toNatClampNeg 2) 0) = 0 from by decide) ?_
  show PW 132 d (27, [some (pvI 2), some (pvI 5), some (pvI 2), some (pvI 0)], [pvI 0], M) _
  refine pw_blk hT 3 (S' := (4, [some (pvI 2), some (pvI 5), some (pvI 0), some (pvI (0 + 1))], [], M)) rfl ⟨trivial, trivial, trivial, trivial⟩ ?_
  refine pw_blk hT 3 (S' := (9, [some (pvI 2), some (pvI 5), some (pvI 0), some (pvI (0 + 1))], [pvI (Int32.ofNat (pvstab 1040).length), pvI (0 + 1)], M)) rfl ⟨trivial, trivial, (by decide), trivial⟩ ?_
  refine pw_ic hT (c := (Int32.ofNat (pvstab 1040).length) ≤ (0 + 1)) rfl rfl (fun c9_ => absurd c9_ (by decide)) (fun c9_ => ?_)
  refine pw_blk hT 1 (S' := (13, [some (pvI 2), some (pvI 5), some (pvI 0), some (pvI (0 + 1))], [pvI 0], M)) rfl ⟨trivial, trivial⟩ ?_
  refine pw_if hT (c := 0 < 0) rfl rfl (fun c10_ => absurd c10_ (by decide)) (fun c10_ => ?_)
  refine pw_blk hT 2 (S' := (18, [some (pvI 2), some (pvI 5), some (pvI 0), some (pvI (0 + 1))], [pvI 5, pvI 0], M)) rfl ⟨trivial, trivial, trivial⟩ ?_
  refine pw_icn hT (c := 0 = 5) rfl rfl (fun c11_ => ?_) (fun c11_ => absurd c11_ (by decide))
  refine pw_blk hT 1 (S' := (24, [some (pvI 2), some (pvI 5), some (pvI 0), some (pvI (0 + 1))], [pvI 0], M)) rfl ⟨trivial, trivial⟩ ?_
  refine pw_callT hT (as := [pvI 0]) (lo1 := [some (pvI 0)]) (d1 := d) (rest := []) rfl rfl rfl rfl rfl (fun h => absurd h (by decide)) (Nat.zero_le _) rfl rfl rfl (se_X3_above_0 M hok d) ?_
  refine pw_eqI (show ((pvstab 1040).getD (Int32.toNatClampNeg 0) 0) = (-1) from by decide) ?_
  show PW 132 d (27, [some (pvI 2), some (pvI 5), some (pvI 0), some (pvI (0 + 1))], [pvI (-1)], M) _
  refine pw_blk hT 3 (S' := (4, [some (pvI 2), some (pvI 5), some (pvI (-1)), some (pvI ((0 + 1) + 1))], [], M)) rfl ⟨trivial, trivial, trivial, trivial⟩ ?_
  refine pw_blk hT 3 (S' := (9, [some (pvI 2), some (pvI 5), some (pvI (-1)), some (pvI ((0 + 1) + 1))], [pvI (Int32.ofNat (pvstab 1040).length), pvI ((0 + 1) + 1)], M)) rfl ⟨trivial, trivial, (by decide), trivial⟩ ?_
  refine pw_ic hT (c := (Int32.ofNat (pvstab 1040).length) ≤ ((0 + 1) + 1)) rfl rfl (fun c17_ => absurd c17_ (by decide)) (fun c17_ => ?_)
  refine pw_blk hT 1 (S' := (13, [some (pvI 2), some (pvI 5), some (pvI (-1)), some (pvI ((0 + 1) + 1))], [pvI (-1)], M)) rfl ⟨trivial, trivial⟩ ?_
  refine pw_if hT (c := (-1) < 0) rfl rfl (fun c18_ => ?_) (fun c18_ => absurd (by decide) c18_)
  refine pw_blk hT 1 (S' := (35, [some (pvI 2), some (pvI 5), some (pvI (-1)), some (pvI ((0 + 1) + 1))], [pvI 0], M)) rfl ⟨trivial, trivial⟩ ?_
  exact pw_ret hT rfl (r := some (pvI 0)) (M' := M) ⟨Or.inl rfl, rfl, rfl⟩ ⟨rfl, rfl⟩
