set_option maxHeartbeats 4000000 in
set_option maxRecDepth 10000 in
theorem sf_X6_isFull_104 (M : pvM) (hok : pvOk M) (d : Nat) : PW 154 d (0, [some (pvR 104)], [], M) (fun r X => r = some (pvI ((if (M.1 104 0) < (Int32.ofNat 8) then 0 else 1))) ∧ X = M) := by
  have hT : pvdom 154 = pvD_154 := rfl
  have b1_ : 0 ≤ Int32.toInt (M.1 104 0) ∧ Int32.toInt (M.1 104 0) ≤ 8 := pvok_r hok 104 0 rfl
  refine pw_blk hT 5 (S' := (9, [some (pvR 104)], [pvI (Int32.ofNat 8), pvI (M.1 104 0)], M)) rfl ⟨trivial, rfl, trivial, rfl, rfl, trivial⟩ ?_
  refine pw_ic hT (c := (M.1 104 0) < (Int32.ofNat 8)) rfl rfl (fun c2_ => ?_) (fun c2_ => ?_)
  · have b3_ : 0 ≤ Int32.toInt (M.1 104 0) ∧ Int32.toInt (M.1 104 0) ≤ 7 := zr_lt_l 7 c2_ b1_ (show 8 ≤ Int32.toInt (Int32.ofNat 8) ∧ Int32.toInt (Int32.ofNat 8) ≤ 8 from (by decide)) (by decide)
    refine pw_blk hT 1 (S' := (17, [some (pvR 104)], [pvI 0], M)) rfl ⟨trivial, trivial⟩ ?_
    exact pw_ret hT rfl (r := some (pvI 0)) (M' := M) ⟨Or.inl rfl, rfl, rfl⟩ ⟨(by rw [if_pos c2_]), rfl⟩
  · have b4_ : 8 ≤ Int32.toInt (M.1 104 0) ∧ Int32.toInt (M.1 104 0) ≤ 8 := zr_nlt_l 8 c2_ b1_ (show 8 ≤ Int32.toInt (Int32.ofNat 8) ∧ Int32.toInt (Int32.ofNat 8) ≤ 8 from (by decide)) (by decide)
    refine pw_blk hT 2 (S' := (17, [some (pvR 104)], [pvI 1], M)) rfl ⟨trivial, trivial, trivial⟩ ?_
    exact pw_ret hT rfl (r := some (pvI 1)) (M' := M) ⟨Or.inr rfl, rfl, rfl⟩ ⟨(by rw [if_neg c2_]), rfl⟩
set_option maxHeartbeats 4000000 in
set_option maxRecDepth 10000 in
theorem sf_X1_isAsSeen_5 (M : pvM) (hok : pvOk M) (d : Nat) : PW 114 d (0, [some (pvR 5), none, none], [], M) (fun r X => (∃ x : Int32, r = some (pvI x) ∧ 0 ≤ Int32.toInt x ∧ Int32.toInt x ≤ 1) ∧ X = M) := by
  have hT : pvdom 114 = pvD_114 := rfl
  refine pw_blk hT 2 (S' := (2, [some (pvR 5), some (pvI 0), none], [], M)) rfl ⟨trivial, trivial, trivial⟩ ?_
  have hlz76_ : ∀ (nz76_ : Nat) (i1z76_ : Int32) (v2z76_ : Option pvV), (0 ≤ Int32.toInt i1z76_ ∧ Int32.toInt i1z76_ ≤ 6) → (zhide ((7 - Int32.toInt i1z76_).toNat < nz76_)) → PW 114 d (2, [some (pvR 5), some (pvI i1z76_), v2z76_], [], M) (fun r X => (∃ x : Int32, r = some (pvI x) ∧ 0 ≤ Int32.toInt x ∧ Int32.toInt x ≤ 1) ∧ X = M) := by
    intro nz76_
    induction nz76_ with
    | zero => intro i1z76_ v2z76_ h1z76_ hmz76_; exact absurd (zshow hmz76_) (Nat.not_lt_zero _)
    | succ nz76_ ihz76_ =>
      intro i1z76_ v2z76_ h1z76_ hmz76_
      have b77_ : 0 ≤ Int32.toInt (M.1 102 0) ∧ Int32.toInt (M.1 102 0) ≤ 6 := pvok_r hok 102 0 rfl
      refine pw_blk hT 5 (S' := (13, [some (pvR 5), some (pvI i1z76_), v2z76_], [pvI (M.1 102 0), pvI i1z76_], M)) rfl ⟨trivial, trivial, rfl, rfl, rfl, trivial⟩ ?_
      refine pw_ic hT (c := (M.1 102 0) ≤ i1z76_) rfl rfl (fun c78_ => ?_) (fun c78_ => ?_)
      · have d79_ : Int32.toInt (M.1 102 0) ≤ Int32.toInt i1z76_ := (zi_le _ _).mp c78_
        refine pw_blk hT 1 (S' := (69, [some (pvR 5), some (pvI i1z76_), v2z76_], [pvI 1], M)) rfl ⟨trivial, trivial⟩ ?_
        exact pw_ret hT rfl (r := some (pvI 1)) (M' := M) ⟨Or.inr rfl, rfl, rfl⟩ ⟨⟨_, rfl, (zr_wide (show 1 ≤ Int32.toInt 1 ∧ Int32.toInt 1 ≤ 1 from (by decide)) (by decide) (by decide))⟩, rfl⟩
      · have b80_ : 1 ≤ Int32.toInt (M.1 102 0) ∧ Int32.toInt (M.1 102 0) ≤ 6 := zr_nle_l 1 c78_ b77_ h1z76_ (by decide)
        have b81_ : 0 ≤ Int32.toInt i1z76_ ∧ Int32.toInt i1z76_ ≤ 5 := zr_nle_r 5 c78_ h1z76_ b80_ (by decide)
        have d82_ : Int32.toInt (M.1 102 0) > Int32.toInt i1z76_ := Int.not_le.mp ((not_congr (zi_le _ _)).mp c78_)
        have b83_ : 0 ≤ Int32.toInt (M.1 110 (Int32.toNatClampNeg i1z76_)) ∧ Int32.toInt (M.1 110 (Int32.toNatClampNeg i1z76_)) ≤ 6 := pvok_r hok 110 (Int32.toNatClampNeg i1z76_) rfl
        have b84_ : 0 ≤ Int32.toInt (M.1 8 4) ∧ Int32.toInt (M.1 8 4) ≤ 9999 := pvok_r hok 8 4 rfl
        refine pw_blk hT 11 (S' := (37, [some (pvR 5), some (pvI i1z76_), v2z76_], [pvR 5, pvI (M.1 8 4), pvI (M.1 110 (Int32.toNatClampNeg i1z76_)), pvR 5], M)) rfl ⟨trivial, trivial, rfl, rfl, rfl, trivial, ⟨rfl, (zr_in (n := 6) b81_ (by decide) (by decide))⟩, trivial, rfl, rfl, trivial, trivial⟩ ?_
        refine pw_callGp hT (as := [pvR 5]) (lo1 := [some (pvR 5)]) (d1 := d) (rest := [pvI (M.1 8 4), pvI (M.1 110 (Int32.toNatClampNeg i1z76_)), pvR 5]) rfl rfl rfl rfl rfl (fun _ => rfl) (Nat.zero_le _) rfl rfl rfl (sf_X1_stormEnd_5 M hok d) (fun x85_ b87_ => ?_)
        refine pw_callGp hT (as := [pvR 5, pvI (M.1 110 (Int32.toNatClampNeg i1z76_)), pvI (M.1 8 4), pvI x85_]) (lo1 := [some (pvR 5), some (pvI (M.1 110 (Int32.toNatClampNeg i1z76_))), some (pvI (M.1 8 4)), some (pvI x85_), none, none, none, none]) (d1 := d) (rest := []) rfl rfl rfl rfl rfl (fun _ => rfl) (Nat.zero_le _) rfl rfl rfl (sf_X1_harmOf_5_x_x_x M hok (M.1 110 (Int32.toNatClampNeg i1z76_)) (M.1 8 4) x85_ b83_ (zr_wide b84_ (by decide) (by decide)) (zr_wide b87_ (by decide) (by decide)) d) (fun x90_ b92_ => ?_)
        have b95_ : 0 ≤ Int32.toInt (M.1 118 (Int32.toNatClampNeg i1z76_)) ∧ Int32.toInt (M.1 118 (Int32.toNatClampNeg i1z76_)) ≤ 9999 := pvok_r hok 118 (Int32.toNatClampNeg i1z76_) rfl
        refine pw_blk hT 8 (S' := (57, [some (pvR 5), some (pvI i1z76_), some (pvI x90_)], [pvI (M.1 118 (Int32.toNatClampNeg i1z76_)), pvI x90_], M)) rfl ⟨trivial, trivial, trivial, rfl, rfl, rfl, trivial, ⟨rfl, (zr_in (n := 6) b81_ (by decide) (by decide))⟩, trivial⟩ ?_
        refine pw_ic hT (c := x90_ = (M.1 118 (Int32.toNatClampNeg i1z76_))) rfl rfl (fun c96_ => ?_) (fun c96_ => ?_)
        · have b97_ : 0 ≤ Int32.toInt x90_ ∧ Int32.toInt x90_ ≤ 9999 := (by have u0 := (zbnd x90_); have u1 := (zi_eq _ _).mp c96_; have u2 := b95_; omega)
          have d98_ : Int32.toInt x90_ = Int32.toInt (M.1 118 (Int32.toNatClampNeg i1z76_)) := (zi_eq _ _).mp c96_
          obtain ⟨q100_, b99_⟩ : (Int32.toInt (i1z76_ + 1) = Int32.toInt i1z76_ + 1) ∧ (1 ≤ Int32.toInt (i1z76_ + 1) ∧ Int32.toInt (i1z76_ + 1) ≤ 6) := zadd_k i1z76_ 1 1 1 6 b81_ (by decide) (by decide) (by decide) (by decide) (by decide)
          refine pw_blk hT 2 (S' := (2, [some (pvR 5), some (pvI (i1z76_ + 1)), some (pvI x90_)], [], M)) rfl ⟨trivial, trivial, trivial⟩ ?_
          exact ihz76_ (i1z76_ + 1) (some (pvI x90_)) (zr_wide b99_ (by decide) (by decide)) (zhid (pvms_up (zshow hmz76_) h1z76_ q100_ (by decide) (by decide)))
        · refine pw_blk hT 1 (S' := (61, [some (pvR 5), some (pvI i1z76_), some (pvI x90_)], [pvI 0], M)) rfl ⟨trivial, trivial⟩ ?_
          exact pw_ret hT rfl (r := some (pvI 0)) (M' := M) ⟨Or.inl rfl, rfl, rfl⟩ ⟨⟨_, rfl, (zr_wide (show 0 ≤ Int32.toInt 0 ∧ Int32.toInt 0 ≤ 0 from (by decide)) (by decide) (by decide))⟩, rfl⟩
  exact hlz76_ _ 0 none (zr_wide (show 0 ≤ Int32.toInt 0 ∧ Int32.toInt 0 ≤ 0 from (by decide)) (by decide) (by decide)) (zhid (Nat.lt_succ_self _))
def fpL_X9_from_0 : List (Nat × Nat × Nat) := [(0, 12, 0), (0, 13, 0), (0, 14, 0), (0, 5, 2), (0, 5, 3), (1, 112, 0)]
def fp_X9_from_0 (q k : Nat) : Bool := pvfp fpL_X9_from_0 q k
theorem fp_X9_from_0_fp_X1_beginFromNow_5 (a b : Nat) (h : fp_X1_beginFromNow_5 a b = true) : fp_X9_from_0 a b = true := pvfp_sub (l1 := fpL_X1_beginFromNow_5) (l2 := fpL_X9_from_0) (by decide) a b h
theorem fp_X9_from_0_fp_X1_turnTo_5_x (a b : Nat) (h : fp_X1_turnTo_5_x a b = true) : fp_X9_from_0 a b = true := pvfp_sub (l1 := fpL_X1_turnTo_5_x) (l2 := fpL_X9_from_0) (by decide) a b h
set_option maxHeartbeats 4000000 in
set_option maxRecDepth 10000 in
theorem sf_X9_from_0 (M : pvM) (hok : pvOk M) (d : Nat) : PW 174 d (0, [some (pvR 0), none, none], [], M) (fun r X => (∃ x : Int32, r = some (pvI x) ∧ True) ∧ pvOk X ∧ pvFr fp_X9_from_0 M X) := by
  have hT : pvdom 174 = pvD_174 := rfl
  refine pw_blk hT 2 (S' := (4, [some (pvR 0), none, none], [pvR 5], M)) rfl ⟨trivial, rfl, trivial⟩ ?_
  refine pw_callV hT (as := [pvR 5]) (lo1 := [some (pvR 5)]) (d1 := d) (rest := []) rfl rfl rfl rfl rfl (fun _ => rfl) (Nat.zero_le _) rfl rfl rfl (sf_X1_beginFromNow_5 M hok d) (fun M2_ o4_ g5_ => ?_)
  have f6_ : pvFr fp_X9_from_0 M M2_ := pvfr_t g5_ pvfr_0 fp_X9_from_0_fp_X1_beginFromNow_5
  refine pw_blk hT 4 (S' := (11, [some (pvR 0), some (pvI 0), some (pvI 0)], [], M2_)) rfl ⟨trivial, trivial, trivial, trivial, trivial⟩ ?_
  have hlz93_ : ∀ (nz93_ : Nat) (i1z93_ : Int32) (i2z93_ : Int32) (Mz93_ : pvM), (pvOk Mz93_) → (pvFr fp_X9_from_0 M Mz93_) → (0 ≤ Int32.toInt i2z93_ ∧ Int32.toInt i2z93_ ≤ 4) → (zhide ((5 - Int32.toInt i2z93_).toNat < nz93_)) → PW 174 d (11, [some (pvR 0), some (pvI i1z93_), some (pvI i2z93_)], [], Mz93_) (fun r X => (∃ x : Int32, r = some (pvI x) ∧ True) ∧ pvOk X ∧ pvFr fp_X9_from_0 M X) := by
    intro nz93_
    induction nz93_ with
    | zero => intro i1z93_ i2z93_ Mz93_ oz93_ fz93_ h2z93_ hmz93_; exact absurd (zshow hmz93_) (Nat.not_lt_zero _)
    | succ nz93_ ihz93_ =>
      intro i1z93_ i2z93_ Mz93_ oz93_ fz93_ h2z93_ hmz93_
      refine pw_blk hT 2 (S' := (13, [some (pvR 0), some (pvI i1z93_), some (pvI i2z93_)], [pvI 4, pvI i2z93_], Mz93_)) rfl ⟨trivial, trivial, trivial⟩ ?_
      refine pw_ic hT (c := 4 ≤ i2z93_) rfl rfl (fun c94_ => ?_) (fun c94_ => ?_)
      · have b95_ : 4 ≤ Int32.toInt i2z93_ ∧ Int32.toInt i2z93_ ≤ 4 := zr_le_r 4 c94_ h2z93_ (show 4 ≤ Int32.toInt 4 ∧ Int32.toInt 4 ≤ 4 from (by decide)) (by decide)
        refine pw_blk hT 1 (S' := (47, [some (pvR 0), some (pvI i1z93_), some (pvI i2z93_)], [pvI i1z93_], Mz93_)) rfl ⟨trivial, trivial⟩ ?_
        exact pw_ret hT rfl (r := some (pvI i1z93_)) (M' := Mz93_) ⟨rfl, rfl⟩ ⟨⟨_, rfl, trivial⟩, oz93_, fz93_⟩
      · have b96_ : 0 ≤ Int32.toInt i2z93_ ∧ Int32.toInt i2z93_ ≤ 3 := zr_nle_r 3 c94_ h2z93_ (show 4 ≤ Int32.toInt 4 ∧ Int32.toInt 4 ≤ 4 from (by decide)) (by decide)
        refine pw_blk hT 3 (S' := (21, [some (pvR 0), some (pvI i1z93_), some (pvI i2z93_)], [pvI i2z93_, pvR 5], Mz93_)) rfl ⟨trivial, rfl, trivial, trivial⟩ ?_
        refine pw_callV hT (as := [pvR 5, pvI i2z93_]) (lo1 := [some (pvR 5), some (pvI i2z93_), none]) (d1 := d) (rest := []) rfl rfl rfl rfl rfl (fun _ => rfl) (Nat.zero_le _) rfl rfl rfl (sf_X1_turnTo_5_x Mz93_ oz93_ i2z93_ d) (fun M98_ o100_ g101_ => ?_)
        have f102_ : pvFr fp_X9_from_0 M M98_ := pvfr_t g101_ fz93_ fp_X9_from_0_fp_X1_turnTo_5_x
        refine pw_blk hT 2 (S' := (28, [some (pvR 0), some (pvI i1z93_), some (pvI i2z93_)], [pvR 5], M98_)) rfl ⟨trivial, rfl, trivial⟩ ?_
        refine pw_callGp hT (as := [pvR 5]) (lo1 := [some (pvR 5), none, none]) (d1 := d) (rest := []) rfl rfl rfl rfl rfl (fun _ => rfl) (Nat.zero_le _) rfl rfl rfl (sf_X1_isAsSeen_5 M98_ o100_ d) (fun x103_ b105_ => ?_)
        refine pw_if hT (c := x103_ = 0) rfl rfl (fun c108_ => ?_) (fun c108_ => ?_)
        · have b109_ : 0 ≤ Int32.toInt x103_ ∧ Int32.toInt x103_ ≤ 0 := (by have u0 := b105_; have u1 := (zi_eq _ _).mp c108_; have u2 := (show 0 ≤ Int32.toInt 0 ∧ Int32.toInt 0 ≤ 0 from (by decide)); omega)
          obtain ⟨q111_, b110_⟩ : (Int32.toInt (i2z93_ + 1) = Int32.toInt i2z93_ + 1) ∧ (1 ≤ Int32.toInt (i2z93_ + 1) ∧ Int32.toInt (i2z93_ + 1) ≤ 4) := zadd_k i2z93_ 1 1 1 4 b96_ (by decide) (by decide) (by decide) (by decide) (by decide)
          refine pw_blk hT 2 (S' := (11, [some (pvR 0), some (pvI i1z93_), some (pvI (i2z93_ + 1))], [], M98_)) rfl ⟨trivial, trivial, trivial⟩ ?_
          exact ihz93_ i1z93_ (i2z93_ + 1) M98_ o100_ f102_ (zr_wide b110_ (by decide) (by decide)) (zhid (pvms_up (zshow hmz93_) h2z93_ q111_ (by decide) (by decide)))
        · have b112_ : 1 ≤ Int32.toInt x103_ ∧ Int32.toInt x103_ ≤ 1 := (by have u0 := b105_; have u1 := (not_congr (zi_eq _ _)).mp c108_; have u2 := (show 0 ≤ Int32.toInt 0 ∧ Int32.toInt 0 ≤ 0 from (by decide)); omega)
          obtain ⟨q114_, b113_⟩ : (Int32.toInt (i2z93_ + 1) = Int32.toInt i2z93_ + 1) ∧ (1 ≤ Int32.toInt (i2z93_ + 1) ∧ Int32.toInt (i2z93_ + 1) ≤ 4) := zadd_k i2z93_ 1 1 1 4 b96_ (by decide) (by decide) (by decide) (by decide) (by decide)
          refine pw_blk hT 8 (S' := (11, [some (pvR 0), some (pvI (i1z93_ ||| (1 <<< (i2z93_ &&& 31)))), some (pvI (i2z93_ + 1))], [], M98_)) rfl ⟨trivial, trivial, trivial, trivial, trivial, trivial, trivial, trivial, trivial⟩ ?_
          exact ihz93_ (i1z93_ ||| (1 <<< (i2z93_ &&& 31))) (i2z93_ + 1) M98_ o100_ f102_ (zr_wide b113_ (by decide) (by decide)) (zhid (pvms_up (zshow hmz93_) h2z93_ q114_ (by decide) (by decide)))
  exact hlz93_ _ 0 0 M2_ o4_ f6_ (zr_wide (show 0 ≤ Int32.toInt 0 ∧ Int32.toInt 0 ≤ 0 from (by decide)) (by decide) (by decide)) (zhid (Nat.lt_succ_self _))
set_option maxHeartbeats 4000000 in
set_option maxRecDepth 10000 in
theorem sf_X6_isFull_101 (M : pvM) (hok : pvOk M) (d : Nat) : PW 154 d (0, [some (pvR 101)], [], M) (fun r X => r = some (pvI ((if (M.1 101 0) < (Int32.ofNat 7) then 0 else 1))) ∧ X = M) := by
  have hT : pvdom 154 = pvD_154 := rfl
  have b1_ : 0 ≤ Int32.toInt (M.1 101 0) ∧ Int32.toInt (M.1 101 0) ≤ 7 := pvok_r hok 101 0 rfl
  refine pw_blk hT 5 (S' := (9, [some (pvR 101)], [pvI (Int32.ofNat 7), pvI (M.1 101 0)], M)) rfl ⟨trivial, rfl, trivial, rfl, rfl, trivial⟩ ?_
  refine pw_ic hT (c := (M.1 101 0) < (Int32.ofNat 7)) rfl rfl (fun c2_ => ?_) (fun c2_ => ?_)
  · have b3_ : 0 ≤ Int32.toInt (M.1 101 0) ∧ Int32.toInt (M.1 101 0) ≤ 6 := zr_lt_l 6 c2_ b1_ (show 7 ≤ Int32.toInt (Int32.ofNat 7) ∧ Int32.toInt (Int32.ofNat 7) ≤ 7 from (by decide)) (by decide)
    refine pw_blk hT 1 (S' := (17, [some (pvR 101)], [pvI 0], M)) rfl ⟨trivial, trivial⟩ ?_
    exact pw_ret hT rfl (r := some (pvI 0)) (M' := M) ⟨Or.inl rfl, rfl, rfl⟩ ⟨(by rw [if_pos c2_]), rfl⟩
  · have b4_ : 7 ≤ Int32.toInt (M.1 101 0) ∧ Int32.toInt (M.1 101 0) ≤ 7 := zr_nlt_l 7 c2_ b1_ (show 7 ≤ Int32.toInt (Int32.ofNat 7) ∧ Int32.toInt (Int32.ofNat 7) ≤ 7 from (by decide)) (by decide)
    refine pw_blk hT 2 (S' := (17, [some (pvR 101)], [pvI 1], M)) rfl ⟨trivial, trivial, trivial⟩ ?_
    exact pw_ret hT rfl (r := some (pvI 1)) (M' := M) ⟨Or.inr rfl, rfl, rfl⟩ ⟨(by rw [if_neg c2_]), rfl⟩
set_option maxHeartbeats 4000000 in
set_option maxRecDepth 10000 in
theorem sf_X6_isFull_103 (M : pvM) (hok : pvOk M) (d : Nat) : PW 154 d (0, [some (pvR 103)], [], M) (fun r X => r = some (pvI ((if (M.1 103 0) < (Int32.ofNat 6) then 0 else 1))) ∧ X = M) := by
  have hT : pvdom 154 = pvD_154 := rfl
  have b1_ : 0 ≤ Int32.toInt (M.1 103 0) ∧ Int32.toInt (M.1 103 0) ≤ 6 := pvok_r hok 103 0 rfl
  refine pw_blk hT 5 (S' := (9, [some (pvR 103)], [pvI (Int32.ofNat 6), pvI (M.1 103 0)], M)) rfl ⟨trivial, rfl, trivial, rfl, rfl, trivial⟩ ?_
  refine pw_ic hT (c := (M.1 103 0) < (Int32.ofNat 6)) rfl rfl (fun c2_ => ?_) (fun c2_ => ?_)
  · have b3_ : 0 ≤ Int32.toInt (M.1 103 0) ∧ Int32.toInt (M.1 103 0) ≤ 5 := zr_lt_l 5 c2_ b1_ (show 6 ≤ Int32.toInt (Int32.ofNat 6) ∧ Int32.toInt (Int32.ofNat 6) ≤ 6 from (by decide)) (by decide)
    refine pw_blk hT 1 (S' := (17, [some (pvR 103)], [pvI 0], M)) rfl ⟨trivial, trivial⟩ ?_
    exact pw_ret hT rfl (r := some (pvI 0)) (M' := M) ⟨Or.inl rfl, rfl, rfl⟩ ⟨(by rw [if_pos c2_]), rfl⟩
  · have b4_ : 6 ≤ Int32.toInt (M.1 103 0) ∧ Int32.toInt (M.1 103 0) ≤ 6 := zr_nlt_l 6 c2_ b1_ (show 6 ≤ Int32.toInt (Int32.ofNat 6) ∧ Int32.toInt (Int32.ofNat 6) ≤ 6 from (by decide)) (by decide)
    refine pw_blk hT 2 (S' := (17, [some (pvR 103)], [pvI 1], M)) rfl ⟨trivial, trivial, trivial⟩ ?_
    exact pw_ret hT rfl (r := some (pvI 1)) (M' := M) ⟨Or.inr rfl, rfl, rfl⟩ ⟨(by rw [if_neg c2_]), rfl⟩
set_option maxHeartbeats 4000000 in
set_option maxRecDepth 10000 in
theorem sf_X6_isFull_105 (M : pvM) (hok : pvOk M) (d : Nat) : PW 154 d (0, [some (pvR 105)], [], M) (fun r X => r = some (pvI ((if (M.1 105 0) < (Int32.ofNat 8) then 0 else 1))) ∧ X = M) := by
  have hT : pvdom 154 = pvD_154 := rfl
  have b1_ : 0 ≤ Int32.toInt (M.1 105 0) ∧ Int32.toInt (M.1 105 0) ≤ 8 := pvok_r hok 105 0 rfl
  refine pw_blk hT 5 (S' := (9, [some (pvR 105)], [pvI (Int32.ofNat 8), pvI (M.1 105 0)], M)) rfl ⟨trivial, rfl, trivial, rfl, rfl, trivial⟩ ?_
  refine pw_ic hT (c := (M.1 105 0) < (Int32.ofNat 8)) rfl rfl (fun c2_ => ?_) (fun c2_ => ?_)
  · have b3_ : 0 ≤ Int32.toInt (M.1 105 0) ∧ Int32.toInt (M.1 105 0) ≤ 7 := zr_lt_l 7 c2_ b1_ (show 8 ≤ Int32.toInt (Int32.ofNat 8) ∧ Int32.toInt (Int32.ofNat 8) ≤ 8 from (by decide)) (by decide)
    refine pw_blk hT 1 (S' := (17, [some (pvR 105)], [pvI 0], M)) rfl ⟨trivial, trivial⟩ ?_
    exact pw_ret hT rfl (r := some (pvI 0)) (M' := M) ⟨Or.inl rfl, rfl, rfl⟩ ⟨(by rw [if_pos c2_]), rfl⟩
  · have b4_ : 8 ≤ Int32.toInt (M.1 105 0) ∧ Int32.toInt (M.1 105 0) ≤ 8 := zr_nlt_l 8 c2_ b1_ (show 8 ≤ Int32.toInt (Int32.ofNat 8) ∧ Int32.toInt (Int32.ofNat 8) ≤ 8 from (by decide)) (by decide)
    refine pw_blk hT 2 (S' := (17, [some (pvR 105)], [pvI 1], M)) rfl ⟨trivial, trivial, trivial⟩ ?_
    exact pw_ret hT rfl (r := some (pvI 1)) (M' := M) ⟨Or.inr rfl, rfl, rfl⟩ ⟨(by rw [if_neg c2_]), rfl⟩
set_option maxHeartbeats 4000000 in
set_option maxRecDepth 10000 in
theorem sf_X9_isPlace_x_x (M : pvM) (hok : pvOk M) (n0 : Int32) (n1 : Int32) (d : Nat) : PW 179 d (0, [some (pvI n0), some (pvI n1)], [], M) (fun r X => r = some (pvI ((if n0 < 0 then 0 else (if 3 < n0 then 0 else (if n1 < 0 then 0 else (if 4 < n1 then 0 else 1)))))) ∧ X = M) := by
  have hT : pvdom 179 = pvD_179 := rfl
  refine pw_blk hT 3 (S' := (3, [some (pvI n0), some (pvI n1)], [pvI 3, pvI 0, pvI n0], M)) rfl ⟨trivial, trivial, trivial, trivial⟩ ?_
  refine pw_callT hT (as := [pvI n0, pvI 0, pvI 3]) (lo1 := [some (pvI n0), some (pvI 0), some (pvI 3)]) (d1 := d) (rest := []) rfl rfl rfl rfl rfl (fun h => absurd h (by decide)) (Nat.zero_le _) rfl rfl rfl (sf_X9_within_x_x_x M hok n0 0 3 d) ?_
  by_cases c6_ : n0 < 0
  · refine pw_eqI (if_pos c6_) ?_
    have b7_ : (-2147483648) ≤ Int32.toInt n0 ∧ Int32.toInt n0 ≤ (-1) := zr_lt_l (-1) c6_ (zbnd n0) (show 0 ≤ Int32.toInt 0 ∧ Int32.toInt 0 ≤ 0 from (by decide)) (by decide)
    show PW 179 d (6, [some (pvI n0), some (pvI n1)], [pvI 0], M) _
    refine pw_if hT (c := 0 = 0) rfl rfl (fun c8_ => ?_) (fun c8_ => absurd (by decide) c8_)
    refine pw_blk hT 1 (S' := (23, [some (pvI n0), some (pvI n1)], [pvI 0], M)) rfl ⟨trivial, trivial⟩ ?_
    exact pw_ret hT rfl (r := some (pvI 0)) (M' := M) ⟨Or.inl rfl, rfl, rfl⟩ ⟨(by rw [if_pos c6_]), rfl⟩
  · refine pw_eqI (if_neg c6_) ?_
    have b9_ : 0 ≤ Int32.toInt n0 ∧ Int32.toInt n0 ≤ 2147483647 := zr_nlt_l 0 c6_ (zbnd n0) (show 0 ≤ Int32.toInt 0 ∧ Int32.toInt 0 ≤ 0 from (by decide)) (by decide)
    by_cases c10_ : 3 < n0
    · refine pw_eqI (if_pos c10_) ?_
      have b11_ : 4 ≤ Int32.toInt n0 ∧ Int32.toInt n0 ≤ 2147483647 := zr_lt_r 4 c10_ b9_ (show 3 ≤ Int32.toInt 3 ∧ Int32.toInt 3 ≤ 3 from (by decide)) (by decide)
      show PW 179 d (6, [some (pvI n0), some (pvI n1)], [pvI 0], M) _
      refine pw_if hT (c := 0 = 0) rfl rfl (fun c12_ => ?_) (fun c12_ => absurd (by decide) c12_)
      refine pw_blk hT 1 (S' := (23, [some (pvI n0), some (pvI n1)], [pvI 0], M)) rfl ⟨trivial, trivial⟩ ?_
      exact pw_ret hT rfl (r := some (pvI 0)) (M' := M) ⟨Or.inl rfl, rfl, rfl⟩ ⟨(by rw [if_neg c6_, if_pos c10_]), rfl⟩
    · refine pw_eqI (if_neg c10_) ?_
      have b13_ : 0 ≤ Int32.toInt n0 ∧ Int32.toInt n0 ≤ 3 := zr_nlt_r 3 c10_ b9_ (show 3 ≤ Int32.toInt 3 ∧ Int32.toInt 3 ≤ 3 from (by decide)) (by decide)
      show PW 179 d (6, [some (pvI n0), some (pvI n1)], [pvI 1], M) _
      refine pw_if hT (c := 1 = 0) rfl rfl (fun c14_ => absurd c14_ (by decide)) (fun c14_ => ?_)
      refine pw_blk hT 3 (S' := (12, [some (pvI n0), some (pvI n1)], [pvI 4, pvI 0, pvI n1], M)) rfl ⟨trivial, trivial, trivial, trivial⟩ ?_
      refine pw_callT hT (as := [pvI n1, pvI 0, pvI 4]) (lo1 := [some (pvI n1), some (pvI 0), some (pvI 4)]) (d1 := d) (rest := []) rfl rfl rfl rfl rfl (fun h => absurd h (by decide)) (Nat.zero_le _) rfl rfl rfl (sf_X9_within_x_x_x M hok n1 0 4 d) ?_
      by_cases c20_ : n1 < 0
      · refine pw_eqI (if_pos c20_) ?_
        have b21_ : (-2147483648) ≤ Int32.toInt n1 ∧ Int32.toInt n1 ≤ (-1) := zr_lt_l (-1) c20_ (zbnd n1) (show 0 ≤ Int32.toInt 0 ∧ Int32.toInt 0 ≤ 0 from (by decide)) (by decide)
        show PW 179 d (15, [some (pvI n0), some (pvI n1)], [pvI 0], M) _
        refine pw_if hT (c := 0 = 0) rfl rfl (fun c22_ => ?_) (fun c22_ => absurd (by decide) c22_)
        refine pw_blk hT 1 (S' := (23, [some (pvI n0), some (pvI n1)], [pvI 0], M)) rfl ⟨trivial, trivial⟩ ?_
        exact pw_ret hT rfl (r := some (pvI 0)) (M' := M) ⟨Or.inl rfl, rfl, rfl⟩ ⟨(by rw [if_neg c6_, if_neg c10_, if_pos c20_]), rfl⟩
      · refine pw_eqI (if_neg c20_) ?_
        have b23_ : 0 ≤ Int32.toInt n1 ∧ Int32.toInt n1 ≤ 2147483647 := zr_nlt_l 0 c20_ (zbnd n1) (show 0 ≤ Int32.toInt 0 ∧ Int32.toInt 0 ≤ 0 from (by decide)) (by decide)
        by_cases c24_ : 4 < n1
        · refine pw_eqI (if_pos c24_) ?_
          have b25_ : 5 ≤ Int32.toInt n1 ∧ Int32.toInt n1 ≤ 2147483647 := zr_lt_r 5 c24_ b23_ (show 4 ≤ Int32.toInt 4 ∧ Int32.toInt 4 ≤ 4 from (by decide)) (by decide)
          show PW 179 d (15, [some (pvI n0), some (pvI n1)], [pvI 0], M) _
          refine pw_if hT (c := 0 = 0) rfl rfl (fun c26_ => ?_) (fun c26_ => absurd (by decide) c26_)
          refine pw_blk hT 1 (S' := (23, [some (pvI n0), some (pvI n1)], [pvI 0], M)) rfl ⟨trivial, trivial⟩ ?_
          exact pw_ret hT rfl (r := some (pvI 0)) (M' := M) ⟨Or.inl rfl, rfl, rfl⟩ ⟨(by rw [if_neg c6_, if_neg c10_, if_neg c20_, if_pos c24_]), rfl⟩
        · refine pw_eqI (if_neg c24_) ?_
          have b27_ : 0 ≤ Int32.toInt n1 ∧ Int32.toInt n1 ≤ 4 := zr_nlt_r 4 c24_ b23_ (show 4 ≤ Int32.toInt 4 ∧ Int32.toInt 4 ≤ 4 from (by decide)) (by decide)
          show PW 179 d (15, [some (pvI n0), some (pvI n1)], [pvI 1], M) _
          refine pw_if hT (c := 1 = 0) rfl rfl (fun c28_ => absurd c28_ (by decide)) (fun c28_ => ?_)
          refine pw_blk hT 2 (S' := (23, [some (pvI n0), some (pvI n1)], [pvI 1], M)) rfl ⟨trivial, trivial, trivial⟩ ?_
          exact pw_ret hT rfl (r := some (pvI 1)) (M' := M) ⟨Or.inr rfl, rfl, rfl⟩ ⟨(by rw [if_neg c6_, if_neg c10_, if_neg c20_, if_neg c24_]), rfl⟩
set_option maxHeartbeats 4000000 in
set_option maxRecDepth 10000 in
theorem sf_X9_isTape_x (M : pvM) (hok : pvOk M) (n0 : Int32) (d : Nat) : PW 180 d (0, [some (pvI n0)], [], M) (fun r X => r = some (pvI ((if n0 < 0 then 0 else (if 5 < n0 then 0 else 1)))) ∧ X = M) := by
  have hT : pvdom 180 = pvD_180 := rfl
  refine pw_blk hT 3 (S' := (3, [some (pvI n0)], [pvI 5, pvI 0, pvI n0], M)) rfl ⟨trivial, trivial, trivial, trivial⟩ ?_
  refine pw_callT hT (as := [pvI n0, pvI 0, pvI 5]) (lo1 := [some (pvI n0), some (pvI 0), some (pvI 5)]) (d1 := d) (rest := []) rfl rfl rfl rfl rfl (fun h => absurd h (by decide)) (Nat.zero_le _) rfl rfl rfl (sf_X9_within_x_x_x M hok n0 0 5 d) ?_
  by_cases c6_ : n0 < 0
  · refine pw_eqI (if_pos c6_) ?_
    have b7_ : (-2147483648) ≤ Int32.toInt n0 ∧ Int32.toInt n0 ≤ (-1) := zr_lt_l (-1) c6_ (zbnd n0) (show 0 ≤ Int32.toInt 0 ∧ Int32.toInt 0 ≤ 0 from (by decide)) (by decide)
    show PW 180 d (6, [some (pvI n0)], [pvI 0], M) _
    exact pw_ret hT rfl (r := some (pvI 0)) (M' := M) ⟨Or.inl rfl, rfl, rfl⟩ ⟨(by rw [if_pos c6_]), rfl⟩
  · refine pw_eqI (if_neg c6_) ?_
    have b8_ : 0 ≤ Int32.toInt n0 ∧ Int32.toInt n0 ≤ 2147483647 := zr_nlt_l 0 c6_ (zbnd n0) (show 0 ≤ Int32.toInt 0 ∧ Int32.toInt 0 ≤ 0 from (by decide)) (by decide)
    by_cases c9_ : 5 < n0
    · refine pw_eqI (if_pos c9_) ?_
      have b10_ : 6 ≤ Int32.toInt n0 ∧ Int32.toInt n0 ≤ 2147483647 := zr_lt_r 6 c9_ b8_ (show 5 ≤ Int32.toInt 5 ∧ Int32.toInt 5 ≤ 5 from (by decide)) (by decide)
      show PW 180 d (6, [some (pvI n0)], [pvI 0], M) _
      exact pw_ret hT rfl (r := some (pvI 0)) (M' := M) ⟨Or.inl rfl, rfl, rfl⟩ ⟨(by rw [if_neg c6_, if_pos c9_]), rfl⟩
    · refine pw_eqI (if_neg c9_) ?_
      have b11_ : 0 ≤ Int32.toInt n0 ∧ Int32.toInt n0 ≤ 5 := zr_nlt_r 5 c9_ b8_ (show 5 ≤ Int32.toInt 5 ∧ Int32.toInt 5 ≤ 5 from (by decide)) (by decide)
      show PW 180 d (6, [some (pvI n0)], [pvI 1], M) _
      exact pw_ret hT rfl (r := some (pvI 1)) (M' := M) ⟨Or.inr rfl, rfl, rfl⟩ ⟨(by rw [if_neg c6_, if_neg c9_]), rfl⟩
set_option maxHeartbeats 4000000 in
set_option maxRecDepth 10000 in
theorem sf_X8_isNothing_x (M : pvM) (hok : pvOk M) (q0 : Nat) (hq0 : pvkl q0 = 7) (d : Nat) : PW 165 d (0, [some (pvR q0)], [], M) (fun r X => r = some (pvI ((if (M.1 q0 0) = (-1) then 1 else 0))) ∧ X = M) := by
  have hT : pvdom 165 = pvD_165 := rfl
  have b1_ : (-1) ≤ Int32.toInt (M.1 q0 0) ∧ Int32.toInt (M.1 q0 0) ≤ 4 := pvok_r hok q0 0 ((pvrg_o 0 hq0 (by decide) (by decide)).trans rfl)
  refine pw_blk hT 3 (S' := (5, [some (pvR q0)], [pvI (-1), pvI (M.1 q0 0)], M)) rfl ⟨trivial, hq0, trivial, trivial⟩ ?_
  refine pw_icn hT (c := (M.1 q0 0) = (-1)) rfl rfl (fun c2_ => ?_) (fun c2_ => ?_)
  · have b3_ : 0 ≤ Int32.toInt (M.1 q0 0) ∧ Int32.toInt (M.1 q0 0) ≤ 4 := (by have u0 := b1_; have u1 := (not_congr (zi_eq _ _)).mp c2_; have u2 := (show (-1) ≤ Int32.toInt (-1) ∧ Int32.toInt (-1) ≤ (-1) from (by decide)); omega)
    refine pw_blk hT 1 (S' := (13, [some (pvR q0)], [pvI 0], M)) rfl ⟨trivial, trivial⟩ ?_
    exact pw_ret hT rfl (r := some (pvI 0)) (M' := M) ⟨Or.inl rfl, rfl, rfl⟩ ⟨(by rw [if_neg c2_]), rfl⟩
  · have b4_ : (-1) ≤ Int32.toInt (M.1 q0 0) ∧ Int32.toInt (M.1 q0 0) ≤ (-1) := (by have u0 := b1_; have u1 := (zi_eq _ _).mp c2_; have u2 := (show (-1) ≤ Int32.toInt (-1) ∧ Int32.toInt (-1) ≤ (-1) from (by decide)); omega)
    refine pw_blk hT 2 (S' := (13, [some (pvR q0)], [pvI 1], M)) rfl ⟨trivial, trivial, trivial⟩ ?_
    exact pw_ret hT rfl (r := some (pvI 1)) (M' := M) ⟨Or.inr rfl, rfl, rfl⟩ ⟨(by rw [if_pos c2_]), rfl⟩
set_option maxHeartbeats 4000000 in
set_option maxRecDepth 10000 in
theorem sf_X8_hasPlace_x_x (M : pvM) (hok : pvOk M) (q0 : Nat) (n1 : Int32) (hq0 : pvkl q0 = 7) (d : Nat) : PW 163 d (0, [some (pvR q0), some (pvI n1)], [], M) (fun r X => r = some (pvI ((if n1 < 0 then 0 else (if (M.1 q0 1) ≤ n1 then 0 else 1)))) ∧ X = M) := by
  have hT : pvdom 163 = pvD_163 := rfl
  refine pw_blk hT 1 (S' := (1, [some (pvR q0), some (pvI n1)], [pvI n1], M)) rfl ⟨trivial, trivial⟩ ?_
  refine pw_if hT (c := n1 < 0) rfl rfl (fun c1_ => ?_) (fun c1_ => ?_)
  · have b2_ : (-2147483648) ≤ Int32.toInt n1 ∧ Int32.toInt n1 ≤ (-1) := zr_lt_l (-1) c1_ (zbnd n1) (show 0 ≤ Int32.toInt 0 ∧ Int32.toInt 0 ≤ 0 from (by decide)) (by decide)
    refine pw_blk hT 1 (S' := (17, [some (pvR q0), some (pvI n1)], [pvI 0], M)) rfl ⟨trivial, trivial⟩ ?_
    exact pw_ret hT rfl (r := some (pvI 0)) (M' := M) ⟨Or.inl rfl, rfl, rfl⟩ ⟨(by rw [if_pos c1_]), rfl⟩
  · have b3_ : 0 ≤ Int32.toInt n1 ∧ Int32.toInt n1 ≤ 2147483647 := zr_nlt_l 0 c1_ (zbnd n1) (show 0 ≤ Int32.toInt 0 ∧ Int32.toInt 0 ≤ 0 from (by decide)) (by decide)
    have b4_ : 0 ≤ Int32.toInt (M.1 q0 1) ∧ Int32.toInt (M.1 q0 1) ≤ 60 := pvok_r hok q0 1 ((pvrg_o 1 hq0 (by decide) (by decide)).trans rfl)
    refine pw_blk hT 3 (S' := (9, [some (pvR q0), some (pvI n1)], [pvI (M.1 q0 1), pvI n1], M)) rfl ⟨trivial, trivial, hq0, trivial⟩ ?_
    refine pw_ic hT (c := (M.1 q0 1) ≤ n1) rfl rfl (fun c5_ => ?_) (fun c5_ => ?_)
    · have d6_ : Int32.toInt (M.1 q0 1) ≤ Int32.toInt n1 := (zi_le _ _).mp c5_
      refine pw_blk hT 1 (S' := (17, [some (pvR q0), some (pvI n1)], [pvI 0], M)) rfl ⟨trivial, trivial⟩ ?_
      exact pw_ret hT rfl (r := some (pvI 0)) (M' := M) ⟨Or.inl rfl, rfl, rfl⟩ ⟨(by rw [if_neg c1_, if_pos c5_]), rfl⟩
    · have b7_ : 1 ≤ Int32.toInt (M.1 q0 1) ∧ Int32.toInt (M.1 q0 1) ≤ 60 := zr_nle_l 1 c5_ b4_ b3_ (by decide)
      have b8_ : 0 ≤ Int32.toInt n1 ∧ Int32.toInt n1 ≤ 59 := zr_nle_r 59 c5_ b3_ b7_ (by decide)
      have d9_ : Int32.toInt (M.1 q0 1) > Int32.toInt n1 := Int.not_le.mp ((not_congr (zi_le _ _)).mp c5_)
      refine pw_blk hT 2 (S' := (17, [some (pvR q0), some (pvI n1)], [pvI 1], M)) rfl ⟨trivial, trivial, trivial⟩ ?_
      exact pw_ret hT rfl (r := some (pvI 1)) (M' := M) ⟨Or.inr rfl, rfl, rfl⟩ ⟨(by rw [if_neg c1_, if_neg c5_]), rfl⟩
set_option maxHeartbeats 4000000 in
set_option maxRecDepth 10000 in
theorem sf_X8_asItem_x_x (M : pvM) (hok : pvOk M) (q0 : Nat) (n1 : Int64) (hq0 : pvkl q0 = 7) (d : Nat) : PW 161 d (0, [some (pvR q0), some (pvJ n1), none], [], M) (fun r X => (∃ x : Int64, r = some (pvJ x)) ∧ X = M) := by
  have hT : pvdom 161 = pvD_161 := rfl
  have b1_ : (-1) ≤ Int32.toInt (M.1 q0 0) ∧ Int32.toInt (M.1 q0 0) ≤ 4 := pvok_r hok q0 0 ((pvrg_o 0 hq0 (by decide) (by decide)).trans rfl)
  refine pw_blk hT 2 (S' := (4, [some (pvR q0), some (pvJ n1), none], [pvI (M.1 q0 0)], M)) rfl ⟨trivial, hq0, trivial⟩ ?_
  refine pw_sw hT rfl rfl ?_
  refine And.intro (fun c2_ => ?_) (fun c2_ => ?_)
  · show PW 161 d (40, [some (pvR q0), some (pvJ n1), none], [], M) _
    have b3_ : 0 ≤ Int32.toInt (M.1 q0 0) ∧ Int32.toInt (M.1 q0 0) ≤ 0 := (by have u0 := b1_; have u1 := (zi_eq _ _).mp c2_; have u2 := (show 0 ≤ Int32.toInt 0 ∧ Int32.toInt 0 ≤ 0 from (by decide)); omega)
    refine pw_blk hT 4 (S' := (44, [some (pvR q0), some (pvJ n1), none], [pvJ (Int32.toInt64 (Int8.toInt32 (Int32.toInt8 (Int64.toInt32 n1))))], M)) rfl ⟨trivial, trivial, trivial, trivial, trivial⟩ ?_
    exact pw_ret hT rfl (r := some (pvJ (Int32.toInt64 (Int8.toInt32 (Int32.toInt8 (Int64.toInt32 n1)))))) (M' := M) ⟨rfl, rfl⟩ ⟨⟨_, rfl⟩, rfl⟩
  · refine And.intro (fun c4_ => ?_) (fun c4_ => ?_)
    · show PW 161 d (45, [some (pvR q0), some (pvJ n1), none], [], M) _
      have b5_ : 1 ≤ Int32.toInt (M.1 q0 0) ∧ Int32.toInt (M.1 q0 0) ≤ 1 := (by have u0 := b1_; have u1 := (zi_eq _ _).mp c4_; have u2 := (show 1 ≤ Int32.toInt 1 ∧ Int32.toInt 1 ≤ 1 from (by decide)); omega)
      refine pw_blk hT 4 (S' := (49, [some (pvR q0), some (pvJ n1), none], [pvJ (Int32.toInt64 (Int16.toInt32 (Int32.toInt16 (Int64.toInt32 n1))))], M)) rfl ⟨trivial, trivial, trivial, trivial, trivial⟩ ?_
      exact pw_ret hT rfl (r := some (pvJ (Int32.toInt64 (Int16.toInt32 (Int32.toInt16 (Int64.toInt32 n1)))))) (M' := M) ⟨rfl, rfl⟩ ⟨⟨_, rfl⟩, rfl⟩
    · refine And.intro (fun c6_ => ?_) (fun c6_ => ?_)
      · show PW 161 d (50, [some (pvR q0), some (pvJ n1), none], [], M) _
        have b7_ : 2 ≤ Int32.toInt (M.1 q0 0) ∧ Int32.toInt (M.1 q0 0) ≤ 2 := (by have u0 := b1_; have u1 := (zi_eq _ _).mp c6_; have u2 := (show 2 ≤ Int32.toInt 2 ∧ Int32.toInt 2 ≤ 2 from (by decide)); omega)
        refine pw_blk hT 3 (S' := (53, [some (pvR q0), some (pvJ n1), none], [pvJ (Int32.toInt64 (Int64.toInt32 n1))], M)) rfl ⟨trivial, trivial, trivial, trivial⟩ ?_
        exact pw_ret hT rfl (r := some (pvJ (Int32.toInt64 (Int64.toInt32 n1)))) (M' := M) ⟨rfl, rfl⟩ ⟨⟨_, rfl⟩, rfl⟩
      · refine And.intro (fun c8_ => ?_) (fun c8_ => ?_)
        · show PW 161 d (66, [some (pvR q0), some (pvJ n1), none], [], M) _
          have b9_ : 3 ≤ Int32.toInt (M.1 q0 0) ∧ Int32.toInt (M.1 q0 0) ≤ 3 := (by have u0 := b1_; have u1 := (zi_eq _ _).mp c8_; have u2 := (show 3 ≤ Int32.toInt 3 ∧ Int32.toInt 3 ≤ 3 from (by decide)); omega)
          refine pw_blk hT 1 (S' := (67, [some (pvR q0), some (pvJ n1), none], [pvJ n1], M)) rfl ⟨trivial, trivial⟩ ?_
          exact pw_ret hT rfl (r := some (pvJ n1)) (M' := M) ⟨rfl, rfl⟩ ⟨⟨_, rfl⟩, rfl⟩
        · refine And.intro (fun c10_ => ?_) (fun c10_ => ?_)
          · show PW 161 d (54, [some (pvR q0), some (pvJ n1), none], [], M) _
            have b11_ : 4 ≤ Int32.toInt (M.1 q0 0) ∧ Int32.toInt (M.1 q0 0) ≤ 4 := (by have u0 := b1_; have u1 := (zi_eq _ _).mp c10_; have u2 := (show 4 ≤ Int32.toInt 4 ∧ Int32.toInt 4 ≤ 4 from (by decide)); omega)
            refine pw_blk hT 3 (S' := (57, [some (pvR q0), some (pvJ n1), none], [pvI (lg_cmp n1 0)], M)) rfl ⟨trivial, trivial, trivial, trivial⟩ ?_
            refine pw_if hT (c := (lg_cmp n1 0) = 0) rfl rfl (fun c12_ => ?_) (fun c12_ => ?_)
            · have b13_ : 0 ≤ Int32.toInt (lg_cmp n1 0) ∧ Int32.toInt (lg_cmp n1 0) ≤ 0 := (by have u0 := (zbnd (lg_cmp n1 0)); have u1 := (zi_eq _ _).mp c12_; have u2 := (show 0 ≤ Int32.toInt 0 ∧ Int32.toInt 0 ≤ 0 from (by decide)); omega)
              refine pw_blk hT 1 (S' := (65, [some (pvR q0), some (pvJ n1), none], [pvJ 0], M)) rfl ⟨trivial, trivial⟩ ?_
              exact pw_ret hT rfl (r := some (pvJ 0)) (M' := M) ⟨rfl, rfl⟩ ⟨⟨_, rfl⟩, rfl⟩
            · refine pw_blk hT 2 (S' := (65, [some (pvR q0), some (pvJ n1), none], [pvJ 1], M)) rfl ⟨trivial, trivial, trivial⟩ ?_
              exact pw_ret hT rfl (r := some (pvJ 1)) (M' := M) ⟨rfl, rfl⟩ ⟨⟨_, rfl⟩, rfl⟩
          · have b14_ : (-1) ≤ Int32.toInt (M.1 q0 0) ∧ Int32.toInt (M.1 q0 0) ≤ (-1) := (by have u0 := b1_; have u9 := (show _ ∧ _ from ⟨(not_congr (zi_eq _ _)).mp c10_, (show 4 ≤ Int32.toInt 4 ∧ Int32.toInt 4 ≤ 4 from (by decide))⟩); have v1 := (not_congr (zi_eq _ _)).mp c8_; have w1 : (3 : Int32).toInt = 3 := (by decide); have v2 := (not_congr (zi_eq _ _)).mp c6_; have w2 : (2 : Int32).toInt = 2 := (by decide); have v3 := (not_congr (zi_eq _ _)).mp c4_; have w3 : (1 : Int32).toInt = 1 := (by decide); have v4 := (not_congr (zi_eq _ _)).mp c2_; have w4 : (0 : Int32).toInt = 0 := (by decide); omega)
            show PW 161 d (66, [some (pvR q0), some (pvJ n1), none], [], M) _
            refine pw_blk hT 1 (S' := (67, [some (pvR q0), some (pvJ n1), none], [pvJ n1], M)) rfl ⟨trivial, trivial⟩ ?_
            exact pw_ret hT rfl (r := some (pvJ n1)) (M' := M) ⟨rfl, rfl⟩ ⟨⟨_, rfl⟩, rfl⟩
def fpL_X9_item_0_x_x_x : List (Nat × Nat × Nat) := []
def fp_X9_item_0_x_x_x (q k : Nat) : Bool := pvfp fpL_X9_item_0_x_x_x q k
set_option maxHeartbeats 4000000 in
set_option maxRecDepth 10000 in
theorem sf_X9_item_0_x_x_x (M : pvM) (hok : pvOk M) (n1 : Int32) (n2 : Int32) (n3 : Int64) (d : Nat) : PW 181 d (0, [some (pvR 0), some (pvI n1), some (pvI n2), some (pvJ n3), none, none], [], M) (fun r X => (∃ x : Int32, r = some (pvI x) ∧ (-13) ≤ Int32.toInt x ∧ Int32.toInt x ≤ 1) ∧ pvOk X ∧ pvFr fp_X9_item_0_x_x_x M X) := by
  have hT : pvdom 181 = pvD_181 := rfl
  refine pw_blk hT 1 (S' := (1, [some (pvR 0), some (pvI n1), some (pvI n2), some (pvJ n3), none, none], [pvI n1], M)) rfl ⟨trivial, trivial⟩ ?_
  refine pw_callT hT (as := [pvI n1]) (lo1 := [some (pvI n1)]) (d1 := d) (rest := []) rfl rfl rfl rfl rfl (fun h => absurd h (by decide)) (Nat.zero_le _) rfl rfl rfl (sf_X9_isTape_x M hok n1 d) ?_
  by_cases c6_ : n1 < 0
  · refine pw_eqI (if_pos c6_) ?_
    have b7_ : (-2147483648) ≤ Int32.toInt n1 ∧ Int32.toInt n1 ≤ (-1) := zr_lt_l (-1) c6_ (zbnd n1) (show 0 ≤ Int32.toInt 0 ∧ Int32.toInt 0 ≤ 0 from (by decide)) (by decide)
    show PW 181 d (4, [some (pvR 0), some (pvI n1), some (pvI n2), some (pvJ n3), none, none], [pvI 0], M) _
    refine pw_ifn hT (c := 0 = 0) rfl rfl (fun c8_ => absurd (by decide) c8_) (fun c8_ => ?_)
    refine pw_blk hT 1 (S' := (8, [some (pvR 0), some (pvI n1), some (pvI n2), some (pvJ n3), none, none], [pvI (-1)], M)) rfl ⟨trivial, trivial⟩ ?_
    exact pw_ret hT rfl (r := some (pvI (-1))) (M' := M) ⟨rfl, rfl⟩ ⟨⟨_, rfl, (zr_wide (show (-1) ≤ Int32.toInt (-1) ∧ Int32.toInt (-1) ≤ (-1) from (by decide)) (by decide) (by decide))⟩, hok, pvfr_0⟩
  · refine pw_eqI (if_neg c6_) ?_
    have b9_ : 0 ≤ Int32.toInt n1 ∧ Int32.toInt n1 ≤ 2147483647 := zr_nlt_l 0 c6_ (zbnd n1) (show 0 ≤ Int32.toInt 0 ∧ Int32.toInt 0 ≤ 0 from (by decide)) (by decide)
    by_cases c10_ : 5 < n1
    · refine pw_eqI (if_pos c10_) ?_
      have b11_ : 6 ≤ Int32.toInt n1 ∧ Int32.toInt n1 ≤ 2147483647 := zr_lt_r 6 c10_ b9_ (show 5 ≤ Int32.toInt 5 ∧ Int32.toInt 5 ≤ 5 from (by decide)) (by decide)
      show PW 181 d (4, [some (pvR 0), some (pvI n1), some (pvI n2), some (pvJ n3), none, none], [pvI 0], M) _
      refine pw_ifn hT (c := 0 = 0) rfl rfl (fun c12_ => absurd (by decide) c12_) (fun c12_ => ?_)
      refine pw_blk hT 1 (S' := (8, [some (pvR 0), some (pvI n1), some (pvI n2), some (pvJ n3), none, none], [pvI (-1)], M)) rfl ⟨trivial, trivial⟩ ?_
      exact pw_ret hT rfl (r := some (pvI (-1))) (M' := M) ⟨rfl, rfl⟩ ⟨⟨_, rfl, (zr_wide (show (-1) ≤ Int32.toInt (-1) ∧ Int32.toInt (-1) ≤ (-1) from (by decide)) (by decide) (by decide))⟩, hok, pvfr_0⟩
    · refine pw_eqI (if_neg c10_) ?_
      have b13_ : 0 ≤ Int32.toInt n1 ∧ Int32.toInt n1 ≤ 5 := zr_nlt_r 5 c10_ b9_ (show 5 ≤ Int32.toInt 5 ∧ Int32.toInt 5 ≤ 5 from (by decide)) (by decide)
      show PW 181 d (4, [some (pvR 0), some (pvI n1), some (pvI n2), some (pvJ n3), none, none], [pvI 1], M) _
      refine pw_ifn hT (c := 1 = 0) rfl rfl (fun c14_ => ?_) (fun c14_ => absurd c14_ (by decide))
      refine pw_blkr hT 4 (pc := 15) (lo := [some (pvR 0), some (pvI n1), some (pvI n2), some (pvJ n3), none, none]) (st := []) (M := M) (z := (pvbs 2 + Int32.toNatClampNeg n1)) rfl ⟨trivial, rfl, trivial, ⟨rfl, (zr_in (n := 6) b13_ (by decide) (by decide))⟩, trivial⟩ (fun q15_ e17_ => ?_)
      have k16_ : pvkl q15_ = 7 := pvel_2 (zr_in (n := 6) b13_ (by decide) (by decide)) e17_
      refine pw_blk hT 2 (S' := (19, [some (pvR 0), some (pvI n1), some (pvI n2), some (pvJ n3), none, some (pvR q15_)], [pvR q15_], M)) rfl ⟨trivial, trivial, trivial⟩ ?_
      refine pw_callT hT (as := [pvR q15_]) (lo1 := [some (pvR q15_)]) (d1 := d) (rest := []) rfl rfl rfl rfl rfl (fun _ => k16_) (Nat.zero_le _) rfl rfl rfl (sf_X8_isNothing_x M hok q15_ k16_ d) ?_
      have b23_ : (-1) ≤ Int32.toInt (M.1 q15_ 0) ∧ Int32.toInt (M.1 q15_ 0) ≤ 4 := pvok_r hok q15_ 0 ((pvrg_o 0 k16_ (by decide) (by decide)).trans rfl)
      by_cases c24_ : (M.1 q15_ 0) = (-1)
      · refine pw_eqI (if_pos c24_) ?_
        have b25_ : (-1) ≤ Int32.toInt (M.1 q15_ 0) ∧ Int32.toInt (M.1 q15_ 0) ≤ (-1) := (by have u0 := b23_; have u1 := (zi_eq _ _).mp c24_; have u2 := (show (-1) ≤ Int32.toInt (-1) ∧ Int32.toInt (-1) ≤ (-1) from (by decide)); omega)
        show PW 181 d (22, [some (pvR 0), some (pvI n1), some (pvI n2), some (pvJ n3), none, some (pvR q15_)], [pvI 1], M) _
        refine pw_if hT (c := 1 = 0) rfl rfl (fun c26_ => absurd c26_ (by decide)) (fun c26_ => ?_)
        refine pw_blk hT 1 (S' := (27, [some (pvR 0), some (pvI n1), some (pvI n2), some (pvJ n3), none, some (pvR q15_)], [pvI (-11)], M)) rfl ⟨trivial, trivial⟩ ?_
        exact pw_ret hT rfl (r := some (pvI (-11))) (M' := M) ⟨rfl, rfl⟩ ⟨⟨_, rfl, (zr_wide (show (-11) ≤ Int32.toInt (-11) ∧ Int32.toInt (-11) ≤ (-11) from (by decide)) (by decide) (by decide))⟩, hok, pvfr_0⟩
      · refine pw_eqI (if_neg c24_) ?_
        have b27_ : 0 ≤ Int32.toInt (M.1 q15_ 0) ∧ Int32.toInt (M.1 q15_ 0) ≤ 4 := (by have u0 := b23_; have u1 := (not_congr (zi_eq _ _)).mp c24_; have u2 := (show (-1) ≤ Int32.toInt (-1) ∧ Int32.toInt (-1) ≤ (-1) from (by decide)); omega)
        show PW 181 d (22, [some (pvR 0), some (pvI n1), some (pvI n2), some (pvJ n3), none, some (pvR q15_)], [pvI 0], M) _
        refine pw_if hT (c := 0 = 0) rfl rfl (fun c28_ => ?_) (fun c28_ => absurd (by decide) c28_)
        refine pw_blk hT 2 (S' := (31, [some (pvR 0), some (pvI n1), some (pvI n2), some (pvJ n3), none, some (pvR q15_)], [pvI n2, pvR q15_], M)) rfl ⟨trivial, trivial, trivial⟩ ?_
        refine pw_callT hT (as := [pvR q15_, pvI n2]) (lo1 := [some (pvR q15_), some (pvI n2)]) (d1 := d) (rest := []) rfl rfl rfl rfl rfl (fun _ => k16_) (Nat.zero_le _) rfl rfl rfl (sf_X8_hasPlace_x_x M hok q15_ n2 k16_ d) ?_
        by_cases c34_ : n2 < 0
        · refine pw_eqI (if_pos c34_) ?_
          have b35_ : (-2147483648) ≤ Int32.toInt n2 ∧ Int32.toInt n2 ≤ (-1) := zr_lt_l (-1) c34_ (zbnd n2) (show 0 ≤ Int32.toInt 0 ∧ Int32.toInt 0 ≤ 0 from (by decide)) (by decide)
          show PW 181 d (34, [some (pvR 0), some (pvI n1), some (pvI n2), some (pvJ n3), none, some (pvR q15_)], [pvI 0], M) _
          refine pw_ifn hT (c := 0 = 0) rfl rfl (fun c36_ => absurd (by decide) c36_) (fun c36_ => ?_)
          refine pw_blk hT 1 (S' := (39, [some (pvR 0), some (pvI n1), some (pvI n2), some (pvJ n3), none, some (pvR q15_)], [pvI (-13)], M)) rfl ⟨trivial, trivial⟩ ?_
          exact pw_ret hT rfl (r := some (pvI (-13))) (M' := M) ⟨rfl, rfl⟩ ⟨⟨_, rfl, (zr_wide (show (-13) ≤ Int32.toInt (-13) ∧ Int32.toInt (-13) ≤ (-13) from (by decide)) (by decide) (by decide))⟩, hok, pvfr_0⟩
        · refine pw_eqI (if_neg c34_) ?_
          have b37_ : 0 ≤ Int32.toInt n2 ∧ Int32.toInt n2 ≤ 2147483647 := zr_nlt_l 0 c34_ (zbnd n2) (show 0 ≤ Int32.toInt 0 ∧ Int32.toInt 0 ≤ 0 from (by decide)) (by decide)
          have b38_ : 0 ≤ Int32.toInt (M.1 q15_ 1) ∧ Int32.toInt (M.1 q15_ 1) ≤ 60 := pvok_r hok q15_ 1 ((pvrg_o 1 k16_ (by decide) (by decide)).trans rfl)
          by_cases c39_ : (M.1 q15_ 1) ≤ n2
          · refine pw_eqI (if_pos c39_) ?_
            have d40_ : Int32.toInt (M.1 q15_ 1) ≤ Int32.toInt n2 := (zi_le _ _).mp c39_
            show PW 181 d (34, [some (pvR 0), some (pvI n1), some (pvI n2), some (pvJ n3), none, some (pvR q15_)], [pvI 0], M) _
            refine pw_ifn hT (c := 0 = 0) rfl rfl (fun c41_ => absurd (by decide) c41_) (fun c41_ => ?_)
            refine pw_blk hT 1 (S' := (39, [some (pvR 0), some (pvI n1), some (pvI n2), some (pvJ n3), none, some (pvR q15_)], [pvI (-13)], M)) rfl ⟨trivial, trivial⟩ ?_
            exact pw_ret hT rfl (r := some (pvI (-13))) (M' := M) ⟨rfl, rfl⟩ ⟨⟨_, rfl, (zr_wide (show (-13) ≤ Int32.toInt (-13) ∧ Int32.toInt (-13) ≤ (-13) from (by decide)) (by decide) (by decide))⟩, hok, pvfr_0⟩
          · refine pw_eqI (if_neg c39_) ?_
            have b42_ : 1 ≤ Int32.toInt (M.1 q15_ 1) ∧ Int32.toInt (M.1 q15_ 1) ≤ 60 := zr_nle_l 1 c39_ b38_ b37_ (by decide)
            have b43_ : 0 ≤ Int32.toInt n2 ∧ Int32.toInt n2 ≤ 59 := zr_nle_r 59 c39_ b37_ b42_ (by decide)
            have d44_ : Int32.toInt (M.1 q15_ 1) > Int32.toInt n2 := Int.not_le.mp ((not_congr (zi_le _ _)).mp c39_)
            show PW 181 d (34, [some (pvR 0), some (pvI n1), some (pvI n2), some (pvJ n3), none, some (pvR q15_)], [pvI 1], M) _
            refine pw_ifn hT (c := 1 = 0) rfl rfl (fun c45_ => ?_) (fun c45_ => absurd c45_ (by decide))
            refine pw_blk hT 5 (S' := (49, [some (pvR 0), some (pvI n1), some (pvI n2), some (pvJ n3), none, some (pvR q15_)], [pvJ n3, pvR q15_, pvI n2, pvR (q15_ + 6)], M)) rfl ⟨trivial, k16_, trivial, trivial, trivial, trivial⟩ ?_
            refine pw_callJp hT (as := [pvR q15_, pvJ n3]) (lo1 := [some (pvR q15_), some (pvJ n3), none]) (d1 := d) (rest := [pvI n2, pvR (q15_ + 6)]) rfl rfl rfl rfl rfl (fun _ => k16_) (Nat.zero_le _) rfl rfl rfl (sf_X8_asItem_x_x M hok q15_ n3 k16_ d) (fun x46_ b48_ => ?_)
            refine pw_blkw hT 1 (pc := 53) (lo := [some (pvR 0), some (pvI n1), some (pvI n2), some (pvJ n3), none, some (pvR q15_)]) (st := []) (M := pvw M (q15_ + 6) (Int32.toNatClampNeg n2) x46_) rfl ⟨⟨(pvow_7_6 k16_).1, (by rw [(pvow_7_6 k16_).2.1]; exact (zr_in (n := 60) b43_ (by decide) (by decide)))⟩, trivial⟩ (fun M51_ e52_ => ?_)
            have o53_ : pvOk M51_ := pvok_w e52_ hok
            have f54_ : pvFr fp_X9_item_0_x_x_x M M51_ := pvfr_w e52_ pvfr_0
            refine pw_blk hT 1 (S' := (54, [some (pvR 0), some (pvI n1), some (pvI n2), some (pvJ n3), none, some (pvR q15_)], [pvI 1], M51_)) rfl ⟨trivial, trivial⟩ ?_
            exact pw_ret hT rfl (r := some (pvI 1)) (M' := M51_) ⟨rfl, rfl⟩ ⟨⟨_, rfl, (zr_wide (show 1 ≤ Int32.toInt 1 ∧ Int32.toInt 1 ≤ 1 from (by decide)) (by decide) (by decide))⟩, o53_, f54_⟩
set_option maxHeartbeats 4000000 in
set_option maxRecDepth 10000 in
theorem sf_X9_judge_0_x_x (M : pvM) (hok : pvOk M) (n1 : Int32) (n2 : Int32) (d : Nat) : PW 182 d (0, [some (pvR 0), some (pvI n1), some (pvI n2), none, none, none], [], M) (fun r X => (∃ x : Int32, r = some (pvI x) ∧ (-12) ≤ Int32.toInt x ∧ Int32.toInt x ≤ 106) ∧ X = M) := by
  have hT : pvdom 182 = pvD_182 := rfl
  refine pw_blk hT 1 (S' := (1, [some (pvR 0), some (pvI n1), some (pvI n2), none, none, none], [pvI n1], M)) rfl ⟨trivial, trivial⟩ ?_
  refine pw_callT hT (as := [pvI n1]) (lo1 := [some (pvI n1)]) (d1 := d) (rest := []) rfl rfl rfl rfl rfl (fun h => absurd h (by decide)) (Nat.zero_le _) rfl rfl rfl (sf_X9_isTape_x M hok n1 d) ?_
  by_cases c6_ : n1 < 0
  · refine pw_eqI (if_pos c6_) ?_
    have b7_ : (-2147483648) ≤ Int32.toInt n1 ∧ Int32.toInt n1 ≤ (-1) := zr_lt_l (-1) c6_ (zbnd n1) (show 0 ≤ Int32.toInt 0 ∧ Int32.toInt 0 ≤ 0 from (by decide)) (by decide)
    show PW 182 d (4, [some (pvR 0), some (pvI n1), some (pvI n2), none, none, none], [pvI 0], M) _
    refine pw_ifn hT (c := 0 = 0) rfl rfl (fun c8_ => absurd (by decide) c8_) (fun c8_ => ?_)
    refine pw_blk hT 1 (S' := (8, [some (pvR 0), some (pvI n1), some (pvI n2), none, none, none], [pvI (-1)], M)) rfl ⟨trivial, trivial⟩ ?_
    exact pw_ret hT rfl (r := some (pvI (-1))) (M' := M) ⟨rfl, rfl⟩ ⟨⟨_, rfl, (zr_wide (show (-1) ≤ Int32.toInt (-1) ∧ Int32.toInt (-1) ≤ (-1) from (by decide)) (by decide) (by decide))⟩, rfl⟩
  · refine pw_eqI (if_neg c6_) ?_
    have b9_ : 0 ≤ Int32.toInt n1 ∧ Int32.toInt n1 ≤ 2147483647 := zr_nlt_l 0 c6_ (zbnd n1) (show 0 ≤ Int32.toInt 0 ∧ Int32.toInt 0 ≤ 0 from (by decide)) (by decide)
    by_cases c10_ : 5 < n1
    · refine pw_eqI (if_pos c10_) ?_
      have b11_ : 6 ≤ Int32.toInt n1 ∧ Int32.toInt n1 ≤ 2147483647 := zr_lt_r 6 c10_ b9_ (show 5 ≤ Int32.toInt 5 ∧ Int32.toInt 5 ≤ 5 from (by decide)) (by decide)
      show PW 182 d (4, [some (pvR 0), some (pvI n1), some (pvI n2), none, none, none], [pvI 0], M) _
      refine pw_ifn hT (c := 0 = 0) rfl rfl (fun c12_ => absurd (by decide) c12_) (fun c12_ => ?_)
      refine pw_blk hT 1 (S' := (8, [some (pvR 0), some (pvI n1), some (pvI n2), none, none, none], [pvI (-1)], M)) rfl ⟨trivial, trivial⟩ ?_
      exact pw_ret hT rfl (r := some (pvI (-1))) (M' := M) ⟨rfl, rfl⟩ ⟨⟨_, rfl, (zr_wide (show (-1) ≤ Int32.toInt (-1) ∧ Int32.toInt (-1) ≤ (-1) from (by decide)) (by decide) (by decide))⟩, rfl⟩
    · refine pw_eqI (if_neg c10_) ?_
      have b13_ : 0 ≤ Int32.toInt n1 ∧ Int32.toInt n1 ≤ 5 := zr_nlt_r 5 c10_ b9_ (show 5 ≤ Int32.toInt 5 ∧ Int32.toInt 5 ≤ 5 from (by decide)) (by decide)
      show PW 182 d (4, [some (pvR 0), some (pvI n1), some (pvI n2), none, none, none], [pvI 1], M) _
      refine pw_ifn hT (c := 1 = 0) rfl rfl (fun c14_ => ?_) (fun c14_ => absurd c14_ (by decide))
      refine pw_blkr hT 4 (pc := 15) (lo := [some (pvR 0), some (pvI n1), some (pvI n2), none, none, none]) (st := []) (M := M) (z := (pvbs 2 + Int32.toNatClampNeg n1)) rfl ⟨trivial, rfl, trivial, ⟨rfl, (zr_in (n := 6) b13_ (by decide) (by decide))⟩, trivial⟩ (fun q15_ e17_ => ?_)
      have k16_ : pvkl q15_ = 7 := pvel_2 (zr_in (n := 6) b13_ (by decide) (by decide)) e17_
      refine pw_blk hT 2 (S' := (17, [some (pvR 0), some (pvI n1), some (pvI n2), some (pvR q15_), none, none], [pvR q15_], M)) rfl ⟨trivial, trivial, trivial⟩ ?_
      refine pw_callT hT (as := [pvR q15_]) (lo1 := [some (pvR q15_)]) (d1 := d) (rest := []) rfl rfl rfl rfl rfl (fun _ => k16_) (Nat.zero_le _) rfl rfl rfl (sf_X8_isNothing_x M hok q15_ k16_ d) ?_
      have b23_ : (-1) ≤ Int32.toInt (M.1 q15_ 0) ∧ Int32.toInt (M.1 q15_ 0) ≤ 4 := pvok_r hok q15_ 0 ((pvrg_o 0 k16_ (by decide) (by decide)).trans rfl)
      by_cases c24_ : (M.1 q15_ 0) = (-1)
      · refine pw_eqI (if_pos c24_) ?_
        have b25_ : (-1) ≤ Int32.toInt (M.1 q15_ 0) ∧ Int32.toInt (M.1 q15_ 0) ≤ (-1) := (by have u0 := b23_; have u1 := (zi_eq _ _).mp c24_; have u2 := (show (-1) ≤ Int32.toInt (-1) ∧ Int32.toInt (-1) ≤ (-1) from (by decide)); omega)
        show PW 182 d (20, [some (pvR 0), some (pvI n1), some (pvI n2), some (pvR q15_), none, none], [pvI 1], M) _
        refine pw_ifn hT (c := 1 = 0) rfl rfl (fun c26_ => ?_) (fun c26_ => absurd c26_ (by decide))
        refine pw_blk hT 2 (S' := (37, [some (pvR 0), some (pvI n1), some (pvI n2), some (pvR q15_), some (pvI 0), none], [], M)) rfl ⟨trivial, trivial, trivial⟩ ?_
        have hlz159_ : ∀ (nz159_ : Nat) (i4z159_ : Int32) (v5z159_ : Option pvV), (0 ≤ Int32.toInt i4z159_ ∧ Int32.toInt i4z159_ ≤ 7) → (zhide ((8 - Int32.toInt i4z159_).toNat < nz159_)) → PW 182 d (37, [some (pvR 0), some (pvI n1), some (pvI n2), some (pvR q15_), some (pvI i4z159_), v5z159_], [], M) (fun r X => (∃ x : Int32, r = some (pvI x) ∧ (-12) ≤ Int32.toInt x ∧ Int32.toInt x ≤ 106) ∧ X = M) := by
          intro nz159_
          induction nz159_ with
          | zero => intro i4z159_ v5z159_ h4z159_ hmz159_; exact absurd (zshow hmz159_) (Nat.not_lt_zero _)
          | succ nz159_ ihz159_ =>
            intro i4z159_ v5z159_ h4z159_ hmz159_
            have b160_ : 0 ≤ Int32.toInt (M.1 8 1) ∧ Int32.toInt (M.1 8 1) ≤ 7 := pvok_r hok 8 1 rfl
            refine pw_blk hT 4 (S' := (46, [some (pvR 0), some (pvI n1), some (pvI n2), some (pvR q15_), some (pvI i4z159_), v5z159_], [pvI (M.1 8 1), pvI i4z159_], M)) rfl ⟨trivial, trivial, rfl, rfl, trivial⟩ ?_
            refine pw_ic hT (c := (M.1 8 1) ≤ i4z159_) rfl rfl (fun c161_ => ?_) (fun c161_ => ?_)
            · have d162_ : Int32.toInt (M.1 8 1) ≤ Int32.toInt i4z159_ := (zi_le _ _).mp c161_
              refine pw_blk hT 1 (S' := (120, [some (pvR 0), some (pvI n1), some (pvI n2), some (pvR q15_), some (pvI i4z159_), v5z159_], [pvI (-5)], M)) rfl ⟨trivial, trivial⟩ ?_
              exact pw_ret hT rfl (r := some (pvI (-5))) (M' := M) ⟨rfl, rfl⟩ ⟨⟨_, rfl, (zr_wide (show (-5) ≤ Int32.toInt (-5) ∧ Int32.toInt (-5) ≤ (-5) from (by decide)) (by decide) (by decide))⟩, rfl⟩
            · have b163_ : 1 ≤ Int32.toInt (M.1 8 1) ∧ Int32.toInt (M.1 8 1) ≤ 7 := zr_nle_l 1 c161_ b160_ h4z159_ (by decide)
              have b164_ : 0 ≤ Int32.toInt i4z159_ ∧ Int32.toInt i4z159_ ≤ 6 := zr_nle_r 6 c161_ h4z159_ b163_ (by decide)
              have d165_ : Int32.toInt (M.1 8 1) > Int32.toInt i4z159_ := Int.not_le.mp ((not_congr (zi_le _ _)).mp c161_)
              refine pw_blk hT 1 (S' := (50, [some (pvR 0), some (pvI n1), some (pvI n2), some (pvR q15_), some (pvI i4z159_), v5z159_], [pvI n2], M)) rfl ⟨trivial, trivial⟩ ?_
              refine pw_if hT (c := n2 < 0) rfl rfl (fun c166_ => ?_) (fun c166_ => ?_)
              · have b167_ : (-2147483648) ≤ Int32.toInt n2 ∧ Int32.toInt n2 ≤ (-1) := zr_lt_l (-1) c166_ (zbnd n2) (show 0 ≤ Int32.toInt 0 ∧ Int32.toInt 0 ≤ 0 from (by decide)) (by decide)
                obtain ⟨q169_, b168_⟩ : (Int32.toInt (100 + i4z159_) = 100 + Int32.toInt i4z159_) ∧ (100 ≤ Int32.toInt (100 + i4z159_) ∧ Int32.toInt (100 + i4z159_) ≤ 106) := zadd_q 100 i4z159_ 100 100 106 b164_ (by decide) (by decide) (by decide) (by decide) (by decide)
                refine pw_blk hT 3 (S' := (69, [some (pvR 0), some (pvI n1), some (pvI n2), some (pvR q15_), some (pvI i4z159_), v5z159_], [pvI (100 + i4z159_)], M)) rfl ⟨trivial, trivial, trivial, trivial⟩ ?_
                exact pw_ret hT rfl (r := some (pvI (100 + i4z159_))) (M' := M) ⟨rfl, rfl⟩ ⟨⟨_, rfl, (zr_wide b168_ (by decide) (by decide))⟩, rfl⟩
              · have b170_ : 0 ≤ Int32.toInt n2 ∧ Int32.toInt n2 ≤ 2147483647 := zr_nlt_l 0 c166_ (zbnd n2) (show 0 ≤ Int32.toInt 0 ∧ Int32.toInt 0 ≤ 0 from (by decide)) (by decide)
                have b171_ : 0 ≤ Int32.toInt (M.1 q15_ 1) ∧ Int32.toInt (M.1 q15_ 1) ≤ 60 := pvok_r hok q15_ 1 ((pvrg_o 1 k16_ (by decide) (by decide)).trans rfl)
                obtain ⟨q173_, b172_⟩ : (Int32.toInt ((M.1 q15_ 1) - i4z159_) = Int32.toInt (M.1 q15_ 1) - Int32.toInt i4z159_) ∧ ((-6) ≤ Int32.toInt ((M.1 q15_ 1) - i4z159_) ∧ Int32.toInt ((M.1 q15_ 1) - i4z159_) ≤ 60) := zsub_r (M.1 q15_ 1) i4z159_ (-6) 60 b171_ b164_ (by decide) (by decide) (by decide) (by decide)
                refine pw_blk hT 5 (S' := (61, [some (pvR 0), some (pvI n1), some (pvI n2), some (pvR q15_), some (pvI i4z159_), v5z159_], [pvI ((M.1 q15_ 1) - i4z159_), pvI n2], M)) rfl ⟨trivial, trivial, k16_, trivial, trivial, trivial⟩ ?_
                refine pw_ic hT (c := n2 < ((M.1 q15_ 1) - i4z159_)) rfl rfl (fun c174_ => ?_) (fun c174_ => ?_)
                · have b175_ : 0 ≤ Int32.toInt n2 ∧ Int32.toInt n2 ≤ 59 := zr_lt_l 59 c174_ b170_ b172_ (by decide)
                  have b176_ : 1 ≤ Int32.toInt ((M.1 q15_ 1) - i4z159_) ∧ Int32.toInt ((M.1 q15_ 1) - i4z159_) ≤ 60 := zr_lt_r 1 c174_ b172_ b175_ (by decide)
                  have d177_ : Int32.toInt n2 < Int32.toInt ((M.1 q15_ 1) - i4z159_) := (zi_lt _ _).mp c174_
                  obtain ⟨q179_, b178_⟩ : (Int32.toInt (n2 + i4z159_) = Int32.toInt n2 + Int32.toInt i4z159_) ∧ (0 ≤ Int32.toInt (n2 + i4z159_) ∧ Int32.toInt (n2 + i4z159_) ≤ 65) := zadd_r n2 i4z159_ 0 65 b175_ b164_ (by decide) (by decide) (by decide) (by decide)
                  refine pw_blk hT 8 (S' := (81, [some (pvR 0), some (pvI n1), some (pvI n2), some (pvR q15_), some (pvI i4z159_), v5z159_], [pvI (lg_cmp (M.2 (q15_ + 6) (Int32.toNatClampNeg (n2 + i4z159_))) 0)], M)) rfl ⟨trivial, k16_, trivial, trivial, trivial, ⟨(pvow_7_6 k16_).1, (by rw [(pvow_7_6 k16_).2.1]; exact (vp_in_iff.mpr (show 0 ≤ Int32.toInt (n2 + i4z159_) ∧ Int32.toInt (n2 + i4z159_) < ((60 : Nat) : Int) from (by have u0 := b178_; omega))))⟩, trivial, trivial, trivial⟩ ?_
                  refine pw_if hT (c := (lg_cmp (M.2 (q15_ + 6) (Int32.toNatClampNeg (n2 + i4z159_))) 0) = 0) rfl rfl (fun c180_ => ?_) (fun c180_ => ?_)
                  · have b181_ : 0 ≤ Int32.toInt (lg_cmp (M.2 (q15_ + 6) (Int32.toNatClampNeg (n2 + i4z159_))) 0) ∧ Int32.toInt (lg_cmp (M.2 (q15_ + 6) (Int32.toNatClampNeg (n2 + i4z159_))) 0) ≤ 0 := (by have u0 := (zbnd (lg_cmp (M.2 (q15_ + 6) (Int32.toNatClampNeg (n2 + i4z159_))) 0)); have u1 := (zi_eq _ _).mp c180_; have u2 := (show 0 ≤ Int32.toInt 0 ∧ Int32.toInt 0 ≤ 0 from (by decide)); omega)
                    refine pw_blkr hT 8 (pc := 103) (lo := [some (pvR 0), some (pvI n1), some (pvI n2), some (pvR q15_), some (pvI i4z159_), some (pvI 0)]) (st := [pvI 0]) (M := M) (z := (pvbs 10 + Int32.toNatClampNeg i4z159_)) rfl ⟨trivial, trivial, trivial, trivial, rfl, rfl, trivial, ⟨rfl, (zr_in (n := 7) b164_ (by decide) (by decide))⟩, trivial⟩ (fun q182_ e184_ => ?_)
                    have k183_ : pvkl q182_ = 3 := pvel_10 (zr_in (n := 7) b164_ (by decide) (by decide)) e184_
                    have b185_ : 0 ≤ Int32.toInt (M.1 q182_ 5) ∧ Int32.toInt (M.1 q182_ 5) ≤ 1 := pvok_r hok q182_ 5 ((pvrg_o 5 k183_ (by decide) (by decide)).trans rfl)
                    refine pw_blk hT 1 (S' := (106, [some (pvR 0), some (pvI n1), some (pvI n2), some (pvR q15_), some (pvI i4z159_), some (pvI 0)], [pvI (M.1 q182_ 5), pvI 0], M)) rfl ⟨k183_, trivial⟩ ?_
                    refine pw_ic hT (c := 0 = (M.1 q182_ 5)) rfl rfl (fun c186_ => ?_) (fun c186_ => ?_)
                    · have b187_ : 0 ≤ Int32.toInt (M.1 q182_ 5) ∧ Int32.toInt (M.1 q182_ 5) ≤ 0 := (by have u0 := b185_; have u1 := (zi_eq _ _).mp c186_; have u2 := (show 0 ≤ Int32.toInt 0 ∧ Int32.toInt 0 ≤ 0 from (by decide)); omega)
                      obtain ⟨q189_, b188_⟩ : (Int32.toInt (i4z159_ + 1) = Int32.toInt i4z159_ + 1) ∧ (1 ≤ Int32.toInt (i4z159_ + 1) ∧ Int32.toInt (i4z159_ + 1) ≤ 7) := zadd_k i4z159_ 1 1 1 7 b164_ (by decide) (by decide) (by decide) (by decide) (by decide)
                      refine pw_blk hT 2 (S' := (37, [some (pvR 0), some (pvI n1), some (pvI n2), some (pvR q15_), some (pvI (i4z159_ + 1)), some (pvI 0)], [], M)) rfl ⟨trivial, trivial, trivial⟩ ?_
                      exact ihz159_ (i4z159_ + 1) (some (pvI 0)) (zr_wide b188_ (by decide) (by decide)) (zhid (pvms_up (zshow hmz159_) h4z159_ q189_ (by decide) (by decide)))
                    · have b190_ : 1 ≤ Int32.toInt (M.1 q182_ 5) ∧ Int32.toInt (M.1 q182_ 5) ≤ 1 := (by have u0 := b185_; have u1 := (not_congr (zi_eq _ _)).mp c186_; have u2 := (show 0 ≤ Int32.toInt 0 ∧ Int32.toInt 0 ≤ 0 from (by decide)); omega)
                      refine pw_blk hT 1 (S' := (111, [some (pvR 0), some (pvI n1), some (pvI n2), some (pvR q15_), some (pvI i4z159_), some (pvI 0)], [pvI i4z159_], M)) rfl ⟨trivial, trivial⟩ ?_
                      exact pw_ret hT rfl (r := some (pvI i4z159_)) (M' := M) ⟨rfl, rfl⟩ ⟨⟨_, rfl, (zr_wide b164_ (by decide) (by decide))⟩, rfl⟩
                  · refine pw_blkr hT 9 (pc := 103) (lo := [some (pvR 0), some (pvI n1), some (pvI n2), some (pvR q15_), some (pvI i4z159_), some (pvI 1)]) (st := [pvI 1]) (M := M) (z := (pvbs 10 + Int32.toNatClampNeg i4z159_)) rfl ⟨trivial, trivial, trivial, trivial, trivial, rfl, rfl, trivial, ⟨rfl, (zr_in (n := 7) b164_ (by decide) (by decide))⟩, trivial⟩ (fun q191_ e193_ => ?_)
                    have k192_ : pvkl q191_ = 3 := pvel_10 (zr_in (n := 7) b164_ (by decide) (by decide)) e193_
                    have b194_ : 0 ≤ Int32.toInt (M.1 q191_ 5) ∧ Int32.toInt (M.1 q191_ 5) ≤ 1 := pvok_r hok q191_ 5 ((pvrg_o 5 k192_ (by decide) (by decide)).trans rfl)
                    refine pw_blk hT 1 (S' := (106, [some (pvR 0), some (pvI n1), some (pvI n2), some (pvR q15_), some (pvI i4z159_), some (pvI 1)], [pvI (M.1 q191_ 5), pvI 1], M)) rfl ⟨k192_, trivial⟩ ?_
                    refine pw_ic hT (c := 1 = (M.1 q191_ 5)) rfl rfl (fun c195_ => ?_) (fun c195_ => ?_)
                    · have b196_ : 1 ≤ Int32.toInt (M.1 q191_ 5) ∧ Int32.toInt (M.1 q191_ 5) ≤ 1 := (by have u0 := b194_; have u1 := (zi_eq _ _).mp c195_; have u2 := (show 1 ≤ Int32.toInt 1 ∧ Int32.toInt 1 ≤ 1 from (by decide)); omega)
                      obtain ⟨q198_, b197_⟩ : (Int32.toInt (i4z159_ + 1) = Int32.toInt i4z159_ + 1) ∧ (1 ≤ Int32.toInt (i4z159_ + 1) ∧ Int32.toInt (i4z159_ + 1) ≤ 7) := zadd_k i4z159_ 1 1 1 7 b164_ (by decide) (by decide) (by decide) (by decide) (by decide)
                      refine pw_blk hT 2 (S' := (37, [some (pvR 0), some (pvI n1), some (pvI n2), some (pvR q15_), some (pvI (i4z159_ + 1)), some (pvI 1)], [], M)) rfl ⟨trivial, trivial, trivial⟩ ?_
                      exact ihz159_ (i4z159_ + 1) (some (pvI 1)) (zr_wide b197_ (by decide) (by decide)) (zhid (pvms_up (zshow hmz159_) h4z159_ q198_ (by decide) (by decide)))
                    · have b199_ : 0 ≤ Int32.toInt (M.1 q191_ 5) ∧ Int32.toInt (M.1 q191_ 5) ≤ 0 := (by have u0 := b194_; have u1 := (not_congr (zi_eq _ _)).mp c195_; have u2 := (show 1 ≤ Int32.toInt 1 ∧ Int32.toInt 1 ≤ 1 from (by decide)); omega)
                      refine pw_blk hT 1 (S' := (111, [some (pvR 0), some (pvI n1), some (pvI n2), some (pvR q15_), some (pvI i4z159_), some (pvI 1)], [pvI i4z159_], M)) rfl ⟨trivial, trivial⟩ ?_
                      exact pw_ret hT rfl (r := some (pvI i4z159_)) (M' := M) ⟨rfl, rfl⟩ ⟨⟨_, rfl, (zr_wide b164_ (by decide) (by decide))⟩, rfl⟩
                · have d200_ : Int32.toInt n2 ≥ Int32.toInt ((M.1 q15_ 1) - i4z159_) := Int.not_lt.mp ((not_congr (zi_lt _ _)).mp c174_)
                  obtain ⟨q202_, b201_⟩ : (Int32.toInt (100 + i4z159_) = 100 + Int32.toInt i4z159_) ∧ (100 ≤ Int32.toInt (100 + i4z159_) ∧ Int32.toInt (100 + i4z159_) ≤ 106) := zadd_q 100 i4z159_ 100 100 106 b164_ (by decide) (by decide) (by decide) (by decide) (by decide)
                  refine pw_blk hT 3 (S' := (69, [some (pvR 0), some (pvI n1), some (pvI n2), some (pvR q15_), some (pvI i4z159_), v5z159_], [pvI (100 + i4z159_)], M)) rfl ⟨trivial, trivial, trivial, trivial⟩ ?_
                  exact pw_ret hT rfl (r := some (pvI (100 + i4z159_))) (M' := M) ⟨rfl, rfl⟩ ⟨⟨_, rfl, (zr_wide b201_ (by decide) (by decide))⟩, rfl⟩
        exact hlz159_ _ 0 none (zr_wide (show 0 ≤ Int32.toInt 0 ∧ Int32.toInt 0 ≤ 0 from (by decide)) (by decide) (by decide)) (zhid (Nat.lt_succ_self _))
      · refine pw_eqI (if_neg c24_) ?_
        have b203_ : 0 ≤ Int32.toInt (M.1 q15_ 0) ∧ Int32.toInt (M.1 q15_ 0) ≤ 4 := (by have u0 := b23_; have u1 := (not_congr (zi_eq _ _)).mp c24_; have u2 := (show (-1) ≤ Int32.toInt (-1) ∧ Int32.toInt (-1) ≤ (-1) from (by decide)); omega)
        show PW 182 d (20, [some (pvR 0), some (pvI n1), some (pvI n2), some (pvR q15_), none, none], [pvI 0], M) _
        refine pw_ifn hT (c := 0 = 0) rfl rfl (fun c204_ => absurd (by decide) c204_) (fun c204_ => ?_)
        refine pw_blk hT 3 (S' := (28, [some (pvR 0), some (pvI n1), some (pvI n2), some (pvR q15_), none, none], [pvI 4, pvI (M.1 q15_ 0)], M)) rfl ⟨trivial, k16_, trivial, trivial⟩ ?_
        refine pw_ic hT (c := (M.1 q15_ 0) = 4) rfl rfl (fun c205_ => ?_) (fun c205_ => ?_)
        · have b206_ : 4 ≤ Int32.toInt (M.1 q15_ 0) ∧ Int32.toInt (M.1 q15_ 0) ≤ 4 := (by have u0 := b203_; have u1 := (zi_eq _ _).mp c205_; have u2 := (show 4 ≤ Int32.toInt 4 ∧ Int32.toInt 4 ≤ 4 from (by decide)); omega)
          refine pw_blk hT 2 (S' := (37, [some (pvR 0), some (pvI n1), some (pvI n2), some (pvR q15_), some (pvI 0), none], [], M)) rfl ⟨trivial, trivial, trivial⟩ ?_
          have hlz339_ : ∀ (nz339_ : Nat) (i4z339_ : Int32) (v5z339_ : Option pvV), (0 ≤ Int32.toInt i4z339_ ∧ Int32.toInt i4z339_ ≤ 7) → (zhide ((8 - Int32.toInt i4z339_).toNat < nz339_)) → PW 182 d (37, [some (pvR 0), some (pvI n1), some (pvI n2), some (pvR q15_), some (pvI i4z339_), v5z339_], [], M) (fun r X => (∃ x : Int32, r = some (pvI x) ∧ (-12) ≤ Int32.toInt x ∧ Int32.toInt x ≤ 106) ∧ X = M) := by
            intro nz339_
            induction nz339_ with
            | zero => intro i4z339_ v5z339_ h4z339_ hmz339_; exact absurd (zshow hmz339_) (Nat.not_lt_zero _)
            | succ nz339_ ihz339_ =>
              intro i4z339_ v5z339_ h4z339_ hmz339_
              have b340_ : 0 ≤ Int32.toInt (M.1 8 1) ∧ Int32.toInt (M.1 8 1) ≤ 7 := pvok_r hok 8 1 rfl
              refine pw_blk hT 4 (S' := (46, [some (pvR 0), some (pvI n1), some (pvI n2), some (pvR q15_), some (pvI i4z339_), v5z339_], [pvI (M.1 8 1), pvI i4z339_], M)) rfl ⟨trivial, trivial, rfl, rfl, trivial⟩ ?_
              refine pw_ic hT (c := (M.1 8 1) ≤ i4z339_) rfl rfl (fun c341_ => ?_) (fun c341_ => ?_)
              · have d342_ : Int32.toInt (M.1 8 1) ≤ Int32.toInt i4z339_ := (zi_le _ _).mp c341_
                refine pw_blk hT 1 (S' := (120, [some (pvR 0), some (pvI n1), some (pvI n2), some (pvR q15_), some (pvI i4z339_), v5z339_], [pvI (-5)], M)) rfl ⟨trivial, trivial⟩ ?_
                exact pw_ret hT rfl (r := some (pvI (-5))) (M' := M) ⟨rfl, rfl⟩ ⟨⟨_, rfl, (zr_wide (show (-5) ≤ Int32.toInt (-5) ∧ Int32.toInt (-5) ≤ (-5) from (by decide)) (by decide) (by decide))⟩, rfl⟩
              · have b343_ : 1 ≤ Int32.toInt (M.1 8 1) ∧ Int32.toInt (M.1 8 1) ≤ 7 := zr_nle_l 1 c341_ b340_ h4z339_ (by decide)
                have b344_ : 0 ≤ Int32.toInt i4z339_ ∧ Int32.toInt i4z339_ ≤ 6 := zr_nle_r 6 c341_ h4z339_ b343_ (by decide)
                have d345_ : Int32.toInt (M.1 8 1) > Int32.toInt i4z339_ := Int.not_le.mp ((not_congr (zi_le _ _)).mp c341_)
                refine pw_blk hT 1 (S' := (50, [some (pvR 0), some (pvI n1), some (pvI n2), some (pvR q15_), some (pvI i4z339_), v5z339_], [pvI n2], M)) rfl ⟨trivial, trivial⟩ ?_
                refine pw_if hT (c := n2 < 0) rfl rfl (fun c346_ => ?_) (fun c346_ => ?_)
                · have b347_ : (-2147483648) ≤ Int32.toInt n2 ∧ Int32.toInt n2 ≤ (-1) := zr_lt_l (-1) c346_ (zbnd n2) (show 0 ≤ Int32.toInt 0 ∧ Int32.toInt 0 ≤ 0 from (by decide)) (by decide)
                  obtain ⟨q349_, b348_⟩ : (Int32.toInt (100 + i4z339_) = 100 + Int32.toInt i4z339_) ∧ (100 ≤ Int32.toInt (100 + i4z339_) ∧ Int32.toInt (100 + i4z339_) ≤ 106) := zadd_q 100 i4z339_ 100 100 106 b344_ (by decide) (by decide) (by decide) (by decide) (by decide)
                  refine pw_blk hT 3 (S' := (69, [some (pvR 0), some (pvI n1), some (pvI n2), some (pvR q15_), some (pvI i4z339_), v5z339_], [pvI (100 + i4z339_)], M)) rfl ⟨trivial, trivial, trivial, trivial⟩ ?_
                  exact pw_ret hT rfl (r := some (pvI (100 + i4z339_))) (M' := M) ⟨rfl, rfl⟩ ⟨⟨_, rfl, (zr_wide b348_ (by decide) (by decide))⟩, rfl⟩
                · have b350_ : 0 ≤ Int32.toInt n2 ∧ Int32.toInt n2 ≤ 2147483647 := zr_nlt_l 0 c346_ (zbnd n2) (show 0 ≤ Int32.toInt 0 ∧ Int32.toInt 0 ≤ 0 from (by decide)) (by decide)
                  have b351_ : 0 ≤ Int32.toInt (M.1 q15_ 1) ∧ Int32.toInt (M.1 q15_ 1) ≤ 60 := pvok_r hok q15_ 1 ((pvrg_o 1 k16_ (by decide) (by decide)).trans rfl)
                  obtain ⟨q353_, b352_⟩ : (Int32.toInt ((M.1 q15_ 1) - i4z339_) = Int32.toInt (M.1 q15_ 1) - Int32.toInt i4z339_) ∧ ((-6) ≤ Int32.toInt ((M.1 q15_ 1) - i4z339_) ∧ Int32.toInt ((M.1 q15_ 1) - i4z339_) ≤ 60) := zsub_r (M.1 q15_ 1) i4z339_ (-6) 60 b351_ b344_ (by decide) (by decide) (by decide) (by decide)
                  refine pw_blk hT 5 (S' := (61, [some (pvR 0), some (pvI n1), some (pvI n2), some (pvR q15_), some (pvI i4z339_), v5z339_], [pvI ((M.1 q15_ 1) - i4z339_), pvI n2], M)) rfl ⟨trivial, trivial, k16_, trivial, trivial, trivial⟩ ?_
                  refine pw_ic hT (c := n2 < ((M.1 q15_ 1) - i4z339_)) rfl rfl (fun c354_ => ?_) (fun c354_ => ?_)
                  · have b355_ : 0 ≤ Int32.toInt n2 ∧ Int32.toInt n2 ≤ 59 := zr_lt_l 59 c354_ b350_ b352_ (by decide)
                    have b356_ : 1 ≤ Int32.toInt ((M.1 q15_ 1) - i4z339_) ∧ Int32.toInt ((M.1 q15_ 1) - i4z339_) ≤ 60 := zr_lt_r 1 c354_ b352_ b355_ (by decide)
                    have d357_ : Int32.toInt n2 < Int32.toInt ((M.1 q15_ 1) - i4z339_) := (zi_lt _ _).mp c354_
                    obtain ⟨q359_, b358_⟩ : (Int32.toInt (n2 + i4z339_) = Int32.toInt n2 + Int32.toInt i4z339_) ∧ (0 ≤ Int32.toInt (n2 + i4z339_) ∧ Int32.toInt (n2 + i4z339_) ≤ 65) := zadd_r n2 i4z339_ 0 65 b355_ b344_ (by decide) (by decide) (by decide) (by decide)
                    refine pw_blk hT 8 (S' := (81, [some (pvR 0), some (pvI n1), some (pvI n2), some (pvR q15_), some (pvI i4z339_), v5z339_], [pvI (lg_cmp (M.2 (q15_ + 6) (Int32.toNatClampNeg (n2 + i4z339_))) 0)], M)) rfl ⟨trivial, k16_, trivial, trivial, trivial, ⟨(pvow_7_6 k16_).1, (by rw [(pvow_7_6 k16_).2.1]; exact (vp_in_iff.mpr (show 0 ≤ Int32.toInt (n2 + i4z339_) ∧ Int32.toInt (n2 + i4z339_) < ((60 : Nat) : Int) from (by have u0 := b358_; omega))))⟩, trivial, trivial, trivial⟩ ?_
                    refine pw_if hT (c := (lg_cmp (M.2 (q15_ + 6) (Int32.toNatClampNeg (n2 + i4z339_))) 0) = 0) rfl rfl (fun c360_ => ?_) (fun c360_ => ?_)
                    · have b361_ : 0 ≤ Int32.toInt (lg_cmp (M.2 (q15_ + 6) (Int32.toNatClampNeg (n2 + i4z339_))) 0) ∧ Int32.toInt (lg_cmp (M.2 (q15_ + 6) (Int32.toNatClampNeg (n2 + i4z339_))) 0) ≤ 0 := (by have u0 := (zbnd (lg_cmp (M.2 (q15_ + 6) (Int32.toNatClampNeg (n2 + i4z339_))) 0)); have u1 := (zi_eq _ _).mp c360_; have u2 := (show 0 ≤ Int32.toInt 0 ∧ Int32.toInt 0 ≤ 0 from (by decide)); omega)
                      refine pw_blkr hT 8 (pc := 103) (lo := [some (pvR 0), some (pvI n1), some (pvI n2), some (pvR q15_), some (pvI i4z339_), some (pvI 0)]) (st := [pvI 0]) (M := M) (z := (pvbs 10 + Int32.toNatClampNeg i4z339_)) rfl ⟨trivial, trivial, trivial, trivial, rfl, rfl, trivial, ⟨rfl, (zr_in (n := 7) b344_ (by decide) (by decide))⟩, trivial⟩ (fun q362_ e364_ => ?_)
                      have k363_ : pvkl q362_ = 3 := pvel_10 (zr_in (n := 7) b344_ (by decide) (by decide)) e364_
                      have b365_ : 0 ≤ Int32.toInt (M.1 q362_ 5) ∧ Int32.toInt (M.1 q362_ 5) ≤ 1 := pvok_r hok q362_ 5 ((pvrg_o 5 k363_ (by decide) (by decide)).trans rfl)
                      refine pw_blk hT 1 (S' := (106, [some (pvR 0), some (pvI n1), some (pvI n2), some (pvR q15_), some (pvI i4z339_), some (pvI 0)], [pvI (M.1 q362_ 5), pvI 0], M)) rfl ⟨k363_, trivial⟩ ?_
                      refine pw_ic hT (c := 0 = (M.1 q362_ 5)) rfl rfl (fun c366_ => ?_) (fun c366_ => ?_)
                      · have b367_ : 0 ≤ Int32.toInt (M.1 q362_ 5) ∧ Int32.toInt (M.1 q362_ 5) ≤ 0 := (by have u0 := b365_; have u1 := (zi_eq _ _).mp c366_; have u2 := (show 0 ≤ Int32.toInt 0 ∧ Int32.toInt 0 ≤ 0 from (by decide)); omega)
                        obtain ⟨q369_, b368_⟩ : (Int32.toInt (i4z339_ + 1) = Int32.toInt i4z339_ + 1) ∧ (1 ≤ Int32.toInt (i4z339_ + 1) ∧ Int32.toInt (i4z339_ + 1) ≤ 7) := zadd_k i4z339_ 1 1 1 7 b344_ (by decide) (by decide) (by decide) (by decide) (by decide)
                        refine pw_blk hT 2 (S' := (37, [some (pvR 0), some (pvI n1), some (pvI n2), some (pvR q15_), some (pvI (i4z339_ + 1)), some (pvI 0)], [], M)) rfl ⟨trivial, trivial, trivial⟩ ?_
                        exact ihz339_ (i4z339_ + 1) (some (pvI 0)) (zr_wide b368_ (by decide) (by decide)) (zhid (pvms_up (zshow hmz339_) h4z339_ q369_ (by decide) (by decide)))
                      · have b370_ : 1 ≤ Int32.toInt (M.1 q362_ 5) ∧ Int32.toInt (M.1 q362_ 5) ≤ 1 := (by have u0 := b365_; have u1 := (not_congr (zi_eq _ _)).mp c366_; have u2 := (show 0 ≤ Int32.toInt 0 ∧ Int32.toInt 0 ≤ 0 from (by decide)); omega)
                        refine pw_blk hT 1 (S' := (111, [some (pvR 0), some (pvI n1), some (pvI n2), some (pvR q15_), some (pvI i4z339_), some (pvI 0)], [pvI i4z339_], M)) rfl ⟨trivial, trivial⟩ ?_
                        exact pw_ret hT rfl (r := some (pvI i4z339_)) (M' := M) ⟨rfl, rfl⟩ ⟨⟨_, rfl, (zr_wide b344_ (by decide) (by decide))⟩, rfl⟩
                    · refine pw_blkr hT 9 (pc := 103) (lo := [some (pvR 0), some (pvI n1), some (pvI n2), some (pvR q15_), some (pvI i4z339_), some (pvI 1)]) (st := [pvI 1]) (M := M) (z := (pvbs 10 + Int32.toNatClampNeg i4z339_)) rfl ⟨trivial, trivial, trivial, trivial, trivial, rfl, rfl, trivial, ⟨rfl, (zr_in (n := 7) b344_ (by decide) (by decide))⟩, trivial⟩ (fun q371_ e373_ => ?_)
                      have k372_ : pvkl q371_ = 3 := pvel_10 (zr_in (n := 7) b344_ (by decide) (by decide)) e373_
                      have b374_ : 0 ≤ Int32.toInt (M.1 q371_ 5) ∧ Int32.toInt (M.1 q371_ 5) ≤ 1 := pvok_r hok q371_ 5 ((pvrg_o 5 k372_ (by decide) (by decide)).trans rfl)
                      refine pw_blk hT 1 (S' := (106, [some (pvR 0), some (pvI n1), some (pvI n2), some (pvR q15_), some (pvI i4z339_), some (pvI 1)], [pvI (M.1 q371_ 5), pvI 1], M)) rfl ⟨k372_, trivial⟩ ?_
                      refine pw_ic hT (c := 1 = (M.1 q371_ 5)) rfl rfl (fun c375_ => ?_) (fun c375_ => ?_)
                      · have b376_ : 1 ≤ Int32.toInt (M.1 q371_ 5) ∧ Int32.toInt (M.1 q371_ 5) ≤ 1 := (by have u0 := b374_; have u1 := (zi_eq _ _).mp c375_; have u2 := (show 1 ≤ Int32.toInt 1 ∧ Int32.toInt 1 ≤ 1 from (by decide)); omega)
                        obtain ⟨q378_, b377_⟩ : (Int32.toInt (i4z339_ + 1) = Int32.toInt i4z339_ + 1) ∧ (1 ≤ Int32.toInt (i4z339_ + 1) ∧ Int32.toInt (i4z339_ + 1) ≤ 7) := zadd_k i4z339_ 1 1 1 7 b344_ (by decide) (by decide) (by decide) (by decide) (by decide)
                        refine pw_blk hT 2 (S' := (37, [some (pvR 0), some (pvI n1), some (pvI n2), some (pvR q15_), some (pvI (i4z339_ + 1)), some (pvI 1)], [], M)) rfl ⟨trivial, trivial, trivial⟩ ?_
                        exact ihz339_ (i4z339_ + 1) (some (pvI 1)) (zr_wide b377_ (by decide) (by decide)) (zhid (pvms_up (zshow hmz339_) h4z339_ q378_ (by decide) (by decide)))
                      · have b379_ : 0 ≤ Int32.toInt (M.1 q371_ 5) ∧ Int32.toInt (M.1 q371_ 5) ≤ 0 := (by have u0 := b374_; have u1 := (not_congr (zi_eq _ _)).mp c375_; have u2 := (show 1 ≤ Int32.toInt 1 ∧ Int32.toInt 1 ≤ 1 from (by decide)); omega)
                        refine pw_blk hT 1 (S' := (111, [some (pvR 0), some (pvI n1), some (pvI n2), some (pvR q15_), some (pvI i4z339_), some (pvI 1)], [pvI i4z339_], M)) rfl ⟨trivial, trivial⟩ ?_
                        exact pw_ret hT rfl (r := some (pvI i4z339_)) (M' := M) ⟨rfl, rfl⟩ ⟨⟨_, rfl, (zr_wide b344_ (by decide) (by decide))⟩, rfl⟩
                  · have d380_ : Int32.toInt n2 ≥ Int32.toInt ((M.1 q15_ 1) - i4z339_) := Int.not_lt.mp ((not_congr (zi_lt _ _)).mp c354_)
                    obtain ⟨q382_, b381_⟩ : (Int32.toInt (100 + i4z339_) = 100 + Int32.toInt i4z339_) ∧ (100 ≤ Int32.toInt (100 + i4z339_) ∧ Int32.toInt (100 + i4z339_) ≤ 106) := zadd_q 100 i4z339_ 100 100 106 b344_ (by decide) (by decide) (by decide) (by decide) (by decide)
                    refine pw_blk hT 3 (S' := (69, [some (pvR 0), some (pvI n1), some (pvI n2), some (pvR q15_), some (pvI i4z339_), v5z339_], [pvI (100 + i4z339_)], M)) rfl ⟨trivial, trivial, trivial, trivial⟩ ?_
                    exact pw_ret hT rfl (r := some (pvI (100 + i4z339_))) (M' := M) ⟨rfl, rfl⟩ ⟨⟨_, rfl, (zr_wide b381_ (by decide) (by decide))⟩, rfl⟩
          exact hlz339_ _ 0 none (zr_wide (show 0 ≤ Int32.toInt 0 ∧ Int32.toInt 0 ≤ 0 from (by decide)) (by decide) (by decide)) (zhid (Nat.lt_succ_self _))
        · have b383_ : 0 ≤ Int32.toInt (M.1 q15_ 0) ∧ Int32.toInt (M.1 q15_ 0) ≤ 3 := (by have u0 := b203_; have u1 := (not_congr (zi_eq _ _)).mp c205_; have u2 := (show 4 ≤ Int32.toInt 4 ∧ Int32.toInt 4 ≤ 4 from (by decide)); omega)
          refine pw_blk hT 1 (S' := (33, [some (pvR 0), some (pvI n1), some (pvI n2), some (pvR q15_), none, none], [pvI (-12)], M)) rfl ⟨trivial, trivial⟩ ?_
          exact pw_ret hT rfl (r := some (pvI (-12))) (M' := M) ⟨rfl, rfl⟩ ⟨⟨_, rfl, (zr_wide (show (-12) ≤ Int32.toInt (-12) ∧ Int32.toInt (-12) ≤ (-12) from (by decide)) (by decide) (by decide))⟩, rfl⟩
def fpL_X1_costOfRound_5_x : List (Nat × Nat × Nat) := [(0, 12, 0)]
def fp_X1_costOfRound_5_x (q k : Nat) : Bool := pvfp fpL_X1_costOfRound_5_x q k
theorem fp_X1_costOfRound_5_x_fp_X1_goRound_5_x (a b : Nat) (h : fp_X1_goRound_5_x a b = true) : fp_X1_costOfRound_5_x a b = true := pvfp_sub (l1 := fpL_X1_goRound_5_x) (l2 := fpL_X1_costOfRound_5_x) (by decide) a b h
theorem fp_X1_costOfRound_5_x_fp_X1_nobodyShuts_5 (a b : Nat) (h : fp_X1_nobodyShuts_5 a b = true) : fp_X1_costOfRound_5_x a b = true := pvfp_sub (l1 := fpL_X1_nobodyShuts_5) (l2 := fpL_X1_costOfRound_5_x) (by decide) a b h
set_option maxHeartbeats 4000000 in
set_option maxRecDepth 10000 in
theorem sf_X1_costOfRound_5_x (M : pvM) (hok : pvOk M) (n1 : Int32) (hn1 : 0 ≤ Int32.toInt n1 ∧ Int32.toInt n1 ≤ 60) (d : Nat) : PW 105 d (0, [some (pvR 5), some (pvI n1)], [], M) (fun r X => (∃ x : Int32, r = some (pvI x) ∧ True) ∧ pvOk X ∧ pvFr fp_X1_costOfRound_5_x M X) := by
  have hT : pvdom 105 = pvD_105 := rfl
  refine pw_blk hT 1 (S' := (1, [some (pvR 5), some (pvI n1)], [pvR 5], M)) rfl ⟨trivial, trivial⟩ ?_
  refine pw_callV hT (as := [pvR 5]) (lo1 := [some (pvR 5), none]) (d1 := d) (rest := []) rfl rfl rfl rfl rfl (fun _ => rfl) (Nat.zero_le _) rfl rfl rfl (sf_X1_nobodyShuts_5 M hok d) (fun M2_ o4_ g5_ => ?_)
  have f6_ : pvFr fp_X1_costOfRound_5_x M M2_ := pvfr_t g5_ pvfr_0 fp_X1_costOfRound_5_x_fp_X1_nobodyShuts_5
  refine pw_blk hT 2 (S' := (6, [some (pvR 5), some (pvI n1)], [pvI n1, pvR 5], M2_)) rfl ⟨trivial, trivial, trivial⟩ ?_
  refine pw_callG hT (as := [pvR 5, pvI n1]) (lo1 := [some (pvR 5), some (pvI n1)]) (d1 := d) (rest := []) rfl rfl rfl rfl rfl (fun _ => rfl) (Nat.zero_le _) rfl rfl rfl (sf_X1_goRound_5_x M2_ o4_ n1 hn1 d) (fun x7_ M8_ b9_ o10_ g11_ => ?_)
  have f12_ : pvFr fp_X1_costOfRound_5_x M M8_ := pvfr_t g11_ f6_ fp_X1_costOfRound_5_x_fp_X1_goRound_5_x
  refine pw_blk hT 2 (S' := (11, [some (pvR 5), some (pvI n1)], [pvR 5], M8_)) rfl ⟨trivial, trivial, trivial⟩ ?_
  refine pw_callGp hT (as := [pvR 5]) (lo1 := [some (pvR 5)]) (d1 := d) (rest := []) rfl rfl rfl rfl rfl (fun _ => rfl) (Nat.zero_le _) rfl rfl rfl (sf_X1_cost_5 M8_ o10_ d) (fun x13_ b15_ => ?_)
  exact pw_ret hT rfl (r := some (pvI x13_)) (M' := M8_) ⟨rfl, rfl⟩ ⟨⟨_, rfl, trivial⟩, o10_, f12_⟩
def fpL_X9_late_0_x : List (Nat × Nat × Nat) := [(0, 12, 0), (0, 13, 0), (0, 14, 0), (0, 5, 2), (0, 5, 3), (1, 112, 0)]
def fp_X9_late_0_x (q k : Nat) : Bool := pvfp fpL_X9_late_0_x q k
theorem fp_X9_late_0_x_fp_X1_beginFromNow_5 (a b : Nat) (h : fp_X1_beginFromNow_5 a b = true) : fp_X9_late_0_x a b = true := pvfp_sub (l1 := fpL_X1_beginFromNow_5) (l2 := fpL_X9_late_0_x) (by decide) a b h
theorem fp_X9_late_0_x_fp_X1_costOfRound_5_x (a b : Nat) (h : fp_X1_costOfRound_5_x a b = true) : fp_X9_late_0_x a b = true := pvfp_sub (l1 := fpL_X1_costOfRound_5_x) (l2 := fpL_X9_late_0_x) (by decide) a b h
set_option maxHeartbeats 4000000 in
set_option maxRecDepth 10000 in
theorem sf_X9_late_0_x (M : pvM) (hok : pvOk M) (n1 : Int32) (d : Nat) : PW 183 d (0, [some (pvR 0), some (pvI n1), none], [], M) (fun r X => (∃ x : Int32, r = some (pvI x) ∧ (-5) ≤ Int32.toInt x ∧ Int32.toInt x ≤ 60) ∧ pvOk X ∧ pvFr fp_X9_late_0_x M X) := by
  have hT : pvdom 183 = pvD_183 := rfl
  refine pw_blk hT 3 (S' := (4, [some (pvR 0), some (pvI n1), none], [pvI 99999, pvI 0, pvI n1], M)) rfl ⟨trivial, trivial, trivial, trivial⟩ ?_
  refine pw_callT hT (as := [pvI n1, pvI 0, pvI 99999]) (lo1 := [some (pvI n1), some (pvI 0), some (pvI 99999)]) (d1 := d) (rest := []) rfl rfl rfl rfl rfl (fun h => absurd h (by decide)) (Nat.zero_le _) rfl rfl rfl (sf_X9_within_x_x_x M hok n1 0 99999 d) ?_
  by_cases c6_ : n1 < 0
  · refine pw_eqI (if_pos c6_) ?_
    have b7_ : (-2147483648) ≤ Int32.toInt n1 ∧ Int32.toInt n1 ≤ (-1) := zr_lt_l (-1) c6_ (zbnd n1) (show 0 ≤ Int32.toInt 0 ∧ Int32.toInt 0 ≤ 0 from (by decide)) (by decide)
    show PW 183 d (7, [some (pvR 0), some (pvI n1), none], [pvI 0], M) _
    refine pw_ifn hT (c := 0 = 0) rfl rfl (fun c8_ => absurd (by decide) c8_) (fun c8_ => ?_)
    refine pw_blk hT 1 (S' := (12, [some (pvR 0), some (pvI n1), none], [pvI (-2)], M)) rfl ⟨trivial, trivial⟩ ?_
    exact pw_ret hT rfl (r := some (pvI (-2))) (M' := M) ⟨rfl, rfl⟩ ⟨⟨_, rfl, (zr_wide (show (-2) ≤ Int32.toInt (-2) ∧ Int32.toInt (-2) ≤ (-2) from (by decide)) (by decide) (by decide))⟩, hok, pvfr_0⟩
  · refine pw_eqI (if_neg c6_) ?_
    have b9_ : 0 ≤ Int32.toInt n1 ∧ Int32.toInt n1 ≤ 2147483647 := zr_nlt_l 0 c6_ (zbnd n1) (show 0 ≤ Int32.toInt 0 ∧ Int32.toInt 0 ≤ 0 from (by decide)) (by decide)
    by_cases c10_ : 99999 < n1
    · refine pw_eqI (if_pos c10_) ?_
      have b11_ : 100000 ≤ Int32.toInt n1 ∧ Int32.toInt n1 ≤ 2147483647 := zr_lt_r 100000 c10_ b9_ (show 99999 ≤ Int32.toInt 99999 ∧ Int32.toInt 99999 ≤ 99999 from (by decide)) (by decide)
      show PW 183 d (7, [some (pvR 0), some (pvI n1), none], [pvI 0], M) _
      refine pw_ifn hT (c := 0 = 0) rfl rfl (fun c12_ => absurd (by decide) c12_) (fun c12_ => ?_)
      refine pw_blk hT 1 (S' := (12, [some (pvR 0), some (pvI n1), none], [pvI (-2)], M)) rfl ⟨trivial, trivial⟩ ?_
      exact pw_ret hT rfl (r := some (pvI (-2))) (M' := M) ⟨rfl, rfl⟩ ⟨⟨_, rfl, (zr_wide (show (-2) ≤ Int32.toInt (-2) ∧ Int32.toInt (-2) ≤ (-2) from (by decide)) (by decide) (by decide))⟩, hok, pvfr_0⟩
    · refine pw_eqI (if_neg c10_) ?_
      have b13_ : 0 ≤ Int32.toInt n1 ∧ Int32.toInt n1 ≤ 99999 := zr_nlt_r 99999 c10_ b9_ (show 99999 ≤ Int32.toInt 99999 ∧ Int32.toInt 99999 ≤ 99999 from (by decide)) (by decide)
      show PW 183 d (7, [some (pvR 0), some (pvI n1), none], [pvI 1], M) _
      refine pw_ifn hT (c := 1 = 0) rfl rfl (fun c14_ => ?_) (fun c14_ => absurd c14_ (by decide))
      refine pw_blk hT 2 (S' := (17, [some (pvR 0), some (pvI n1), none], [pvR 5], M)) rfl ⟨trivial, rfl, trivial⟩ ?_
      refine pw_callV hT (as := [pvR 5]) (lo1 := [some (pvR 5)]) (d1 := d) (rest := []) rfl rfl rfl rfl rfl (fun _ => rfl) (Nat.zero_le _) rfl rfl rfl (sf_X1_beginFromNow_5 M hok d) (fun M16_ o18_ g19_ => ?_)
      have f20_ : pvFr fp_X9_late_0_x M M16_ := pvfr_t g19_ pvfr_0 fp_X9_late_0_x_fp_X1_beginFromNow_5
      refine pw_blk hT 2 (S' := (23, [some (pvR 0), some (pvI n1), some (pvI 60)], [], M16_)) rfl ⟨trivial, trivial, trivial⟩ ?_
      have hlz87_ : ∀ (nz87_ : Nat) (i2z87_ : Int32) (Mz87_ : pvM), (pvOk Mz87_) → (pvFr fp_X9_late_0_x M Mz87_) → ((-1) ≤ Int32.toInt i2z87_ ∧ Int32.toInt i2z87_ ≤ 60) → (zhide ((Int32.toInt i2z87_ + 2).toNat < nz87_)) → PW 183 d (23, [some (pvR 0), some (pvI n1), some (pvI i2z87_)], [], Mz87_) (fun r X => (∃ x : Int32, r = some (pvI x) ∧ (-5) ≤ Int32.toInt x ∧ Int32.toInt x ≤ 60) ∧ pvOk X ∧ pvFr fp_X9_late_0_x M X) := by
        intro nz87_
        induction nz87_ with
        | zero => intro i2z87_ Mz87_ oz87_ fz87_ h2z87_ hmz87_; exact absurd (zshow hmz87_) (Nat.not_lt_zero _)
        | succ nz87_ ihz87_ =>
          intro i2z87_ Mz87_ oz87_ fz87_ h2z87_ hmz87_
          refine pw_blk hT 1 (S' := (24, [some (pvR 0), some (pvI n1), some (pvI i2z87_)], [pvI i2z87_], Mz87_)) rfl ⟨trivial, trivial⟩ ?_
          refine pw_if hT (c := i2z87_ < 0) rfl rfl (fun c88_ => ?_) (fun c88_ => ?_)
          · have b89_ : (-1) ≤ Int32.toInt i2z87_ ∧ Int32.toInt i2z87_ ≤ (-1) := zr_lt_l (-1) c88_ h2z87_ (show 0 ≤ Int32.toInt 0 ∧ Int32.toInt 0 ≤ 0 from (by decide)) (by decide)
            refine pw_blk hT 1 (S' := (49, [some (pvR 0), some (pvI n1), some (pvI i2z87_)], [pvI (-5)], Mz87_)) rfl ⟨trivial, trivial⟩ ?_
            exact pw_ret hT rfl (r := some (pvI (-5))) (M' := Mz87_) ⟨rfl, rfl⟩ ⟨⟨_, rfl, (zr_wide (show (-5) ≤ Int32.toInt (-5) ∧ Int32.toInt (-5) ≤ (-5) from (by decide)) (by decide) (by decide))⟩, oz87_, fz87_⟩
          · have b90_ : 0 ≤ Int32.toInt i2z87_ ∧ Int32.toInt i2z87_ ≤ 60 := zr_nlt_l 0 c88_ h2z87_ (show 0 ≤ Int32.toInt 0 ∧ Int32.toInt 0 ≤ 0 from (by decide)) (by decide)
            refine pw_blk hT 3 (S' := (32, [some (pvR 0), some (pvI n1), some (pvI i2z87_)], [pvI i2z87_, pvR 5], Mz87_)) rfl ⟨trivial, rfl, trivial, trivial⟩ ?_
            refine pw_callG hT (as := [pvR 5, pvI i2z87_]) (lo1 := [some (pvR 5), some (pvI i2z87_)]) (d1 := d) (rest := []) rfl rfl rfl rfl rfl (fun _ => rfl) (Nat.zero_le _) rfl rfl rfl (sf_X1_costOfRound_5_x Mz87_ oz87_ i2z87_ b90_ d) (fun x91_ M92_ b93_ o94_ g95_ => ?_)
            have f96_ : pvFr fp_X9_late_0_x M M92_ := pvfr_t g95_ fz87_ fp_X9_late_0_x_fp_X1_costOfRound_5_x
            refine pw_blk hT 1 (S' := (36, [some (pvR 0), some (pvI n1), some (pvI i2z87_)], [pvI n1, pvI x91_], M92_)) rfl ⟨trivial, trivial⟩ ?_
            refine pw_ic hT (c := n1 < x91_) rfl rfl (fun c97_ => ?_) (fun c97_ => ?_)
            · have b98_ : 1 ≤ Int32.toInt x91_ ∧ Int32.toInt x91_ ≤ 2147483647 := zr_lt_r 1 c97_ (zbnd x91_) b13_ (by decide)
              have d99_ : Int32.toInt n1 < Int32.toInt x91_ := (zi_lt _ _).mp c97_
              obtain ⟨q101_, b100_⟩ : (Int32.toInt (i2z87_ + (-1)) = Int32.toInt i2z87_ + (-1)) ∧ ((-1) ≤ Int32.toInt (i2z87_ + (-1)) ∧ Int32.toInt (i2z87_ + (-1)) ≤ 59) := zadd_k i2z87_ (-1) (-1) (-1) 59 b90_ (by decide) (by decide) (by decide) (by decide) (by decide)
              refine pw_blk hT 2 (S' := (23, [some (pvR 0), some (pvI n1), some (pvI (i2z87_ + (-1)))], [], M92_)) rfl ⟨trivial, trivial, trivial⟩ ?_
              exact ihz87_ (i2z87_ + (-1)) M92_ o94_ f96_ (zr_wide b100_ (by decide) (by decide)) (zhid (pvms_dn (zshow hmz87_) h2z87_ q101_ (by decide) (by decide)))
            · have b102_ : (-2147483648) ≤ Int32.toInt x91_ ∧ Int32.toInt x91_ ≤ 99999 := zr_nlt_r 99999 c97_ (zbnd x91_) b13_ (by decide)
              have d103_ : Int32.toInt n1 ≥ Int32.toInt x91_ := Int.not_lt.mp ((not_congr (zi_lt _ _)).mp c97_)
              refine pw_blk hT 1 (S' := (40, [some (pvR 0), some (pvI n1), some (pvI i2z87_)], [pvI i2z87_], M92_)) rfl ⟨trivial, trivial⟩ ?_
              exact pw_ret hT rfl (r := some (pvI i2z87_)) (M' := M92_) ⟨rfl, rfl⟩ ⟨⟨_, rfl, (zr_wide b90_ (by decide) (by decide))⟩, o94_, f96_⟩
      exact hlz87_ _ 60 M16_ o18_ f20_ (zr_wide (show 60 ≤ Int32.toInt 60 ∧ Int32.toInt 60 ≤ 60 from (by decide)) (by decide) (by decide)) (zhid (Nat.lt_succ_self _))
def fpL_X1_costWithout_5_x : List (Nat × Nat × Nat) := [(0, 106, 1), (0, 114, 0), (0, 12, 0), (0, 122, 0)]
def fp_X1_costWithout_5_x (q k : Nat) : Bool := pvfp fpL_X1_costWithout_5_x q k
theorem fp_X1_costWithout_5_x_fp_X1_costOfTried_5 (a b : Nat) (h : fp_X1_costOfTried_5 a b = true) : fp_X1_costWithout_5_x a b = true := pvfp_sub (l1 := fpL_X1_costOfTried_5) (l2 := fpL_X1_costWithout_5_x) (by decide) a b h
theorem fp_X1_costWithout_5_x_fp_X6_append_106_x_x (a b : Nat) (h : fp_X6_append_106_x_x a b = true) : fp_X1_costWithout_5_x a b = true := pvfp_sub (l1 := fpL_X6_append_106_x_x) (l2 := fpL_X1_costWithout_5_x) (by decide) a b h
theorem fp_X1_costWithout_5_x_fp_X6_clear_106 (a b : Nat) (h : fp_X6_clear_106 a b = true) : fp_X1_costWithout_5_x a b = true := pvfp_sub (l1 := fpL_X6_clear_106) (l2 := fpL_X1_costWithout_5_x) (by decide) a b h
set_option maxHeartbeats 4000000 in
set_option maxRecDepth 10000 in
theorem sf_X1_costWithout_5_x (M : pvM) (hok : pvOk M) (n1 : Int32) (hn1 : 0 ≤ Int32.toInt n1 ∧ Int32.toInt n1 ≤ 6) (d : Nat) : PW 107 d (0, [some (pvR 5), some (pvI n1), none], [], M) (fun r X => (∃ x : Int32, r = some (pvI x) ∧ True) ∧ pvOk X ∧ pvFr fp_X1_costWithout_5_x M X) := by
  have hT : pvdom 107 = pvD_107 := rfl
  refine pw_blk hT 2 (S' := (4, [some (pvR 5), some (pvI n1), none], [pvR 106], M)) rfl ⟨trivial, rfl, trivial⟩ ?_
  refine pw_callG hT (as := [pvR 106]) (lo1 := [some (pvR 106)]) (d1 := d) (rest := []) rfl rfl rfl rfl rfl (fun _ => rfl) (Nat.zero_le _) rfl rfl rfl (sf_X6_clear_106 M hok d) (fun x1_ M2_ b3_ o4_ g5_ => ?_)
  have f6_ : pvFr fp_X1_costWithout_5_x M M2_ := pvfr_t g5_ pvfr_0 fp_X1_costWithout_5_x_fp_X6_clear_106
  refine pw_blk hT 3 (S' := (10, [some (pvR 5), some (pvI n1), some (pvI 0)], [], M2_)) rfl ⟨trivial, trivial, trivial, trivial⟩ ?_
  have hlz115_ : ∀ (nz115_ : Nat) (i2z115_ : Int32) (Mz115_ : pvM), (pvOk Mz115_) → (pvFr fp_X1_costWithout_5_x M Mz115_) → (0 ≤ Int32.toInt i2z115_ ∧ Int32.toInt i2z115_ ≤ 7) → (zhide ((8 - Int32.toInt i2z115_).toNat < nz115_)) → PW 107 d (10, [some (pvR 5), some (pvI n1), some (pvI i2z115_)], [], Mz115_) (fun r X => (∃ x : Int32, r = some (pvI x) ∧ True) ∧ pvOk X ∧ pvFr fp_X1_costWithout_5_x M X) := by
    intro nz115_
    induction nz115_ with
    | zero => intro i2z115_ Mz115_ oz115_ fz115_ h2z115_ hmz115_; exact absurd (zshow hmz115_) (Nat.not_lt_zero _)
    | succ nz115_ ihz115_ =>
      intro i2z115_ Mz115_ oz115_ fz115_ h2z115_ hmz115_
      have b116_ : 0 ≤ Int32.toInt (Mz115_.1 100 0) ∧ Int32.toInt (Mz115_.1 100 0) ≤ 7 := pvok_r oz115_ 100 0 rfl
      refine pw_blk hT 5 (S' := (21, [some (pvR 5), some (pvI n1), some (pvI i2z115_)], [pvI (Mz115_.1 100 0), pvI i2z115_], Mz115_)) rfl ⟨trivial, trivial, rfl, rfl, rfl, trivial⟩ ?_
      refine pw_ic hT (c := (Mz115_.1 100 0) ≤ i2z115_) rfl rfl (fun c117_ => ?_) (fun c117_ => ?_)
      · have d118_ : Int32.toInt (Mz115_.1 100 0) ≤ Int32.toInt i2z115_ := (zi_le _ _).mp c117_
        refine pw_blk hT 1 (S' := (57, [some (pvR 5), some (pvI n1), some (pvI i2z115_)], [pvR 5], Mz115_)) rfl ⟨trivial, trivial⟩ ?_
        refine pw_callG hT (as := [pvR 5]) (lo1 := [some (pvR 5)]) (d1 := d) (rest := []) rfl rfl rfl rfl rfl (fun _ => rfl) (Nat.zero_le _) rfl rfl rfl (sf_X1_costOfTried_5 Mz115_ oz115_ d) (fun x119_ M120_ b121_ o122_ g123_ => ?_)
        have f124_ : pvFr fp_X1_costWithout_5_x M M120_ := pvfr_t g123_ fz115_ fp_X1_costWithout_5_x_fp_X1_costOfTried_5
        exact pw_ret hT rfl (r := some (pvI x119_)) (M' := M120_) ⟨rfl, rfl⟩ ⟨⟨_, rfl, trivial⟩, o122_, f124_⟩
      · have b125_ : 1 ≤ Int32.toInt (Mz115_.1 100 0) ∧ Int32.toInt (Mz115_.1 100 0) ≤ 7 := zr_nle_l 1 c117_ b116_ h2z115_ (by decide)
        have b126_ : 0 ≤ Int32.toInt i2z115_ ∧ Int32.toInt i2z115_ ≤ 6 := zr_nle_r 6 c117_ h2z115_ b125_ (by decide)
        have d127_ : Int32.toInt (Mz115_.1 100 0) > Int32.toInt i2z115_ := Int.not_le.mp ((not_congr (zi_le _ _)).mp c117_)
        refine pw_blk hT 2 (S' := (26, [some (pvR 5), some (pvI n1), some (pvI i2z115_)], [pvI n1, pvI i2z115_], Mz115_)) rfl ⟨trivial, trivial, trivial⟩ ?_
        refine pw_ic hT (c := i2z115_ = n1) rfl rfl (fun c128_ => ?_) (fun c128_ => ?_)
        · have d129_ : Int32.toInt i2z115_ = Int32.toInt n1 := (zi_eq _ _).mp c128_
          obtain ⟨q131_, b130_⟩ : (Int32.toInt (i2z115_ + 1) = Int32.toInt i2z115_ + 1) ∧ (1 ≤ Int32.toInt (i2z115_ + 1) ∧ Int32.toInt (i2z115_ + 1) ≤ 7) := zadd_k i2z115_ 1 1 1 7 b126_ (by decide) (by decide) (by decide) (by decide) (by decide)
          refine pw_blk hT 2 (S' := (10, [some (pvR 5), some (pvI n1), some (pvI (i2z115_ + 1))], [], Mz115_)) rfl ⟨trivial, trivial, trivial⟩ ?_
          exact ihz115_ (i2z115_ + 1) Mz115_ oz115_ fz115_ (zr_wide b130_ (by decide) (by decide)) (zhid (pvms_up (zshow hmz115_) h2z115_ q131_ (by decide) (by decide)))
        · have b132_ : 0 ≤ Int32.toInt (Mz115_.1 108 (Int32.toNatClampNeg i2z115_)) ∧ Int32.toInt (Mz115_.1 108 (Int32.toNatClampNeg i2z115_)) ≤ 6 := pvok_r oz115_ 108 (Int32.toNatClampNeg i2z115_) rfl
          refine pw_blk hT 9 (S' := (46, [some (pvR 5), some (pvI n1), some (pvI i2z115_)], [pvI 0, pvI (Mz115_.1 108 (Int32.toNatClampNeg i2z115_)), pvR 106], Mz115_)) rfl ⟨trivial, rfl, trivial, rfl, rfl, rfl, trivial, ⟨rfl, (zr_in (n := 7) b126_ (by decide) (by decide))⟩, trivial, trivial⟩ ?_
          refine pw_callG hT (as := [pvR 106, pvI (Mz115_.1 108 (Int32.toNatClampNeg i2z115_)), pvI 0]) (lo1 := [some (pvR 106), some (pvI (Mz115_.1 108 (Int32.toNatClampNeg i2z115_))), some (pvI 0)]) (d1 := d) (rest := []) rfl rfl rfl rfl rfl (fun _ => rfl) (Nat.zero_le _) rfl rfl rfl (sf_X6_append_106_x_x Mz115_ oz115_ (Mz115_.1 108 (Int32.toNatClampNeg i2z115_)) 0 b132_ (zr_wide (show 0 ≤ Int32.toInt 0 ∧ Int32.toInt 0 ≤ 0 from (by decide)) (by decide) (by decide)) d) (fun x133_ M134_ b135_ o136_ g137_ => ?_)
          have f138_ : pvFr fp_X1_costWithout_5_x M M134_ := pvfr_t g137_ fz115_ fp_X1_costWithout_5_x_fp_X6_append_106_x_x
          obtain ⟨q140_, b139_⟩ : (Int32.toInt (i2z115_ + 1) = Int32.toInt i2z115_ + 1) ∧ (1 ≤ Int32.toInt (i2z115_ + 1) ∧ Int32.toInt (i2z115_ + 1) ≤ 7) := zadd_k i2z115_ 1 1 1 7 b126_ (by decide) (by decide) (by decide) (by decide) (by decide)
          refine pw_blk hT 3 (S' := (10, [some (pvR 5), some (pvI n1), some (pvI (i2z115_ + 1))], [], M134_)) rfl ⟨trivial, trivial, trivial, trivial⟩ ?_
          exact ihz115_ (i2z115_ + 1) M134_ o136_ f138_ (zr_wide b139_ (by decide) (by decide)) (zhid (pvms_up (zshow hmz115_) h2z115_ q140_ (by decide) (by decide)))
  exact hlz115_ _ 0 M2_ o4_ f6_ (zr_wide (show 0 ≤ Int32.toInt 0 ∧ Int32.toInt 0 ≤ 0 from (by decide)) (by decide) (by decide)) (zhid (Nat.lt_succ_self _))
def fpL_X9_leave_0 : List (Nat × Nat × Nat) := [(0, 106, 1), (0, 114, 0), (0, 12, 0), (0, 122, 0), (0, 13, 0), (0, 14, 0), (0, 5, 2), (0, 5, 3), (1, 112, 0)]
def fp_X9_leave_0 (q k : Nat) : Bool := pvfp fpL_X9_leave_0 q k
theorem fp_X9_leave_0_fp_X1_beginFromNow_5 (a b : Nat) (h : fp_X1_beginFromNow_5 a b = true) : fp_X9_leave_0 a b = true := pvfp_sub (l1 := fpL_X1_beginFromNow_5) (l2 := fpL_X9_leave_0) (by decide) a b h
theorem fp_X9_leave_0_fp_X1_costOfRound_5_x (a b : Nat) (h : fp_X1_costOfRound_5_x a b = true) : fp_X9_leave_0 a b = true := pvfp_sub (l1 := fpL_X1_costOfRound_5_x) (l2 := fpL_X9_leave_0) (by decide) a b h
theorem fp_X9_leave_0_fp_X1_costWithout_5_x (a b : Nat) (h : fp_X1_costWithout_5_x a b = true) : fp_X9_leave_0 a b = true := pvfp_sub (l1 := fpL_X1_costWithout_5_x) (l2 := fpL_X9_leave_0) (by decide) a b h
set_option maxHeartbeats 4000000 in
set_option maxRecDepth 10000 in
theorem sf_X9_leave_0 (M : pvM) (hok : pvOk M) (d : Nat) : PW 184 d (0, [some (pvR 0), none, none, none], [], M) (fun r X => (∃ x : Int32, r = some (pvI x) ∧ True) ∧ pvOk X ∧ pvFr fp_X9_leave_0 M X) := by
  have hT : pvdom 184 = pvD_184 := rfl
  refine pw_blk hT 2 (S' := (4, [some (pvR 0), none, none, none], [pvR 5], M)) rfl ⟨trivial, rfl, trivial⟩ ?_
  refine pw_callV hT (as := [pvR 5]) (lo1 := [some (pvR 5)]) (d1 := d) (rest := []) rfl rfl rfl rfl rfl (fun _ => rfl) (Nat.zero_le _) rfl rfl rfl (sf_X1_beginFromNow_5 M hok d) (fun M2_ o4_ g5_ => ?_)
  have f6_ : pvFr fp_X9_leave_0 M M2_ := pvfr_t g5_ pvfr_0 fp_X9_leave_0_fp_X1_beginFromNow_5
  refine pw_blk hT 3 (S' := (12, [some (pvR 0), none, none, none], [pvI 0, pvR 5], M2_)) rfl ⟨trivial, rfl, trivial, trivial⟩ ?_
  refine pw_callG hT (as := [pvR 5, pvI 0]) (lo1 := [some (pvR 5), some (pvI 0)]) (d1 := d) (rest := []) rfl rfl rfl rfl rfl (fun _ => rfl) (Nat.zero_le _) rfl rfl rfl (sf_X1_costOfRound_5_x M2_ o4_ 0 (zr_wide (show 0 ≤ Int32.toInt 0 ∧ Int32.toInt 0 ≤ 0 from (by decide)) (by decide) (by decide)) d) (fun x7_ M8_ b9_ o10_ g11_ => ?_)
  have f12_ : pvFr fp_X9_leave_0 M M8_ := pvfr_t g11_ f6_ fp_X9_leave_0_fp_X1_costOfRound_5_x
  refine pw_blk hT 5 (S' := (20, [some (pvR 0), some (pvI x7_), some (pvI 0), some (pvI 0)], [], M8_)) rfl ⟨trivial, trivial, trivial, trivial, trivial, trivial⟩ ?_
  have hlz105_ : ∀ (nz105_ : Nat) (i2z105_ : Int32) (i3z105_ : Int32) (Mz105_ : pvM), (pvOk Mz105_) → (pvFr fp_X9_leave_0 M Mz105_) → (0 ≤ Int32.toInt i3z105_ ∧ Int32.toInt i3z105_ ≤ 7) → (zhide ((8 - Int32.toInt i3z105_).toNat < nz105_)) → PW 184 d (20, [some (pvR 0), some (pvI x7_), some (pvI i2z105_), some (pvI i3z105_)], [], Mz105_) (fun r X => (∃ x : Int32, r = some (pvI x) ∧ True) ∧ pvOk X ∧ pvFr fp_X9_leave_0 M X) := by
    intro nz105_
    induction nz105_ with
    | zero => intro i2z105_ i3z105_ Mz105_ oz105_ fz105_ h3z105_ hmz105_; exact absurd (zshow hmz105_) (Nat.not_lt_zero _)
    | succ nz105_ ihz105_ =>
      intro i2z105_ i3z105_ Mz105_ oz105_ fz105_ h3z105_ hmz105_
      have b106_ : 0 ≤ Int32.toInt (Mz105_.1 100 0) ∧ Int32.toInt (Mz105_.1 100 0) ≤ 7 := pvok_r oz105_ 100 0 rfl
      refine pw_blk hT 5 (S' := (31, [some (pvR 0), some (pvI x7_), some (pvI i2z105_), some (pvI i3z105_)], [pvI (Mz105_.1 100 0), pvI i3z105_], Mz105_)) rfl ⟨trivial, trivial, rfl, rfl, rfl, trivial⟩ ?_
      refine pw_ic hT (c := (Mz105_.1 100 0) ≤ i3z105_) rfl rfl (fun c107_ => ?_) (fun c107_ => ?_)
      · have d108_ : Int32.toInt (Mz105_.1 100 0) ≤ Int32.toInt i3z105_ := (zi_le _ _).mp c107_
        refine pw_blk hT 1 (S' := (70, [some (pvR 0), some (pvI x7_), some (pvI i2z105_), some (pvI i3z105_)], [pvI i2z105_], Mz105_)) rfl ⟨trivial, trivial⟩ ?_
        exact pw_ret hT rfl (r := some (pvI i2z105_)) (M' := Mz105_) ⟨rfl, rfl⟩ ⟨⟨_, rfl, trivial⟩, oz105_, fz105_⟩
      · have b109_ : 1 ≤ Int32.toInt (Mz105_.1 100 0) ∧ Int32.toInt (Mz105_.1 100 0) ≤ 7 := zr_nle_l 1 c107_ b106_ h3z105_ (by decide)
        have b110_ : 0 ≤ Int32.toInt i3z105_ ∧ Int32.toInt i3z105_ ≤ 6 := zr_nle_r 6 c107_ h3z105_ b109_ (by decide)
        have d111_ : Int32.toInt (Mz105_.1 100 0) > Int32.toInt i3z105_ := Int.not_le.mp ((not_congr (zi_le _ _)).mp c107_)
        refine pw_blk hT 3 (S' := (39, [some (pvR 0), some (pvI x7_), some (pvI i2z105_), some (pvI i3z105_)], [pvI i3z105_, pvR 5], Mz105_)) rfl ⟨trivial, rfl, trivial, trivial⟩ ?_
        refine pw_callG hT (as := [pvR 5, pvI i3z105_]) (lo1 := [some (pvR 5), some (pvI i3z105_), none]) (d1 := d) (rest := []) rfl rfl rfl rfl rfl (fun _ => rfl) (Nat.zero_le _) rfl rfl rfl (sf_X1_costWithout_5_x Mz105_ oz105_ i3z105_ b110_ d) (fun x112_ M113_ b114_ o115_ g116_ => ?_)
        have f117_ : pvFr fp_X9_leave_0 M M113_ := pvfr_t g116_ fz105_ fp_X9_leave_0_fp_X1_costWithout_5_x
        refine pw_blk hT 1 (S' := (43, [some (pvR 0), some (pvI x7_), some (pvI i2z105_), some (pvI i3z105_)], [pvI x7_, pvI x112_], M113_)) rfl ⟨trivial, trivial⟩ ?_
        refine pw_ic hT (c := x7_ < x112_) rfl rfl (fun c118_ => ?_) (fun c118_ => ?_)
        · have b119_ : (-2147483648) ≤ Int32.toInt x7_ ∧ Int32.toInt x7_ ≤ 2147483646 := zr_lt_l 2147483646 c118_ (zbnd x7_) (zbnd x112_) (by decide)
          have b120_ : (-2147483647) ≤ Int32.toInt x112_ ∧ Int32.toInt x112_ ≤ 2147483647 := zr_lt_r (-2147483647) c118_ (zbnd x112_) b119_ (by decide)
          have d121_ : Int32.toInt x7_ < Int32.toInt x112_ := (zi_lt _ _).mp c118_
          obtain ⟨q123_, b122_⟩ : (Int32.toInt (i3z105_ + 1) = Int32.toInt i3z105_ + 1) ∧ (1 ≤ Int32.toInt (i3z105_ + 1) ∧ Int32.toInt (i3z105_ + 1) ≤ 7) := zadd_k i3z105_ 1 1 1 7 b110_ (by decide) (by decide) (by decide) (by decide) (by decide)
          refine pw_blk hT 2 (S' := (20, [some (pvR 0), some (pvI x7_), some (pvI i2z105_), some (pvI (i3z105_ + 1))], [], M113_)) rfl ⟨trivial, trivial, trivial⟩ ?_
          exact ihz105_ i2z105_ (i3z105_ + 1) M113_ o115_ f117_ (zr_wide b122_ (by decide) (by decide)) (zhid (pvms_up (zshow hmz105_) h3z105_ q123_ (by decide) (by decide)))
        · have d124_ : Int32.toInt x7_ ≥ Int32.toInt x112_ := Int.not_lt.mp ((not_congr (zi_lt _ _)).mp c118_)
          have b125_ : 0 ≤ Int32.toInt (M113_.1 108 (Int32.toNatClampNeg i3z105_)) ∧ Int32.toInt (M113_.1 108 (Int32.toNatClampNeg i3z105_)) ≤ 6 := pvok_r o115_ 108 (Int32.toNatClampNeg i3z105_) rfl
          obtain ⟨q127_, b126_⟩ : (Int32.toInt (i3z105_ + 1) = Int32.toInt i3z105_ + 1) ∧ (1 ≤ Int32.toInt (i3z105_ + 1) ∧ Int32.toInt (i3z105_ + 1) ≤ 7) := zadd_k i3z105_ 1 1 1 7 b110_ (by decide) (by decide) (by decide) (by decide) (by decide)
          refine pw_blk hT 13 (S' := (20, [some (pvR 0), some (pvI x7_), some (pvI (i2z105_ ||| (1 <<< ((M113_.1 108 (Int32.toNatClampNeg i3z105_)) &&& 31)))), some (pvI (i3z105_ + 1))], [], M113_)) rfl ⟨trivial, trivial, trivial, rfl, rfl, rfl, trivial, ⟨rfl, (zr_in (n := 7) b110_ (by decide) (by decide))⟩, trivial, trivial, trivial, trivial, trivial, trivial⟩ ?_
          exact ihz105_ (i2z105_ ||| (1 <<< ((M113_.1 108 (Int32.toNatClampNeg i3z105_)) &&& 31))) (i3z105_ + 1) M113_ o115_ f117_ (zr_wide b126_ (by decide) (by decide)) (zhid (pvms_up (zshow hmz105_) h3z105_ q127_ (by decide) (by decide)))
  exact hlz105_ _ 0 0 M8_ o10_ f12_ (zr_wide (show 0 ≤ Int32.toInt 0 ∧ Int32.toInt 0 ≤ 0 from (by decide)) (by decide) (by decide)) (zhid (Nat.lt_succ_self _))
set_option maxHeartbeats 4000000 in
set_option maxRecDepth 10000 in
theorem sf_X9_greatestShared_x_x (M : pvM) (hok : pvOk M) (n0 : Int32) (n1 : Int32) (hn1 : 1 ≤ Int32.toInt n1 ∧ Int32.toInt n1 ≤ 10) (d : Nat) : PW 176 d (0, [some (pvI n0), some (pvI n1), none], [], M) (fun r X => (∃ x : Int32, r = some (pvI x) ∧ 1 ≤ Int32.toInt x ∧ Int32.toInt x ≤ 10) ∧ X = M) := by
  have hT : pvdom 176 = pvD_176 := rfl
  have q1_ : Int32.toInt (if n0 < 0 then 0 else n0) = max (Int32.toInt n0) (Int32.toInt 0) := pvmax n0 0
  have b2_ : 0 ≤ Int32.toInt (if n0 < 0 then 0 else n0) ∧ Int32.toInt (if n0 < 0 then 0 else n0) ≤ 2147483647 := (by have u0 := (zbnd n0); have u1 := (show 0 ≤ Int32.toInt 0 ∧ Int32.toInt 0 ≤ 0 from (by decide)); omega)
  have q3_ : Int32.toInt (if n1 < (if n0 < 0 then 0 else n0) then n1 else (if n0 < 0 then 0 else n0)) = min (Int32.toInt (if n0 < 0 then 0 else n0)) (Int32.toInt n1) := pvmin (if n0 < 0 then 0 else n0) n1
  have b4_ : 0 ≤ Int32.toInt (if n1 < (if n0 < 0 then 0 else n0) then n1 else (if n0 < 0 then 0 else n0)) ∧ Int32.toInt (if n1 < (if n0 < 0 then 0 else n0) then n1 else (if n0 < 0 then 0 else n0)) ≤ 10 := (by have u0 := b2_; have u1 := hn1; omega)
  refine pw_blk hT 6 (S' := (10, [some (pvI n0), some (pvI n1), some (pvI (if n1 < (if n0 < 0 then 0 else n0) then n1 else (if n0 < 0 then 0 else n0)))], [], M)) rfl ⟨trivial, trivial, (Nat.le_of_ble_eq_true rfl), trivial, (Nat.le_of_ble_eq_true rfl), trivial, trivial⟩ ?_
  have hlz24_ : ∀ (nz24_ : Nat) (i2z24_ : Int32), (0 ≤ Int32.toInt i2z24_ ∧ Int32.toInt i2z24_ ≤ 10) → (zhide ((Int32.toInt i2z24_).toNat < nz24_)) → PW 176 d (10, [some (pvI n0), some (pvI n1), some (pvI i2z24_)], [], M) (fun r X => (∃ x : Int32, r = some (pvI x) ∧ 1 ≤ Int32.toInt x ∧ Int32.toInt x ≤ 10) ∧ X = M) := by
    intro nz24_
    induction nz24_ with
    | zero => intro i2z24_ h2z24_ hmz24_; exact absurd (zshow hmz24_) (Nat.not_lt_zero _)
    | succ nz24_ ihz24_ =>
      intro i2z24_ h2z24_ hmz24_
      refine pw_blk hT 2 (S' := (12, [some (pvI n0), some (pvI n1), some (pvI i2z24_)], [pvI 1, pvI i2z24_], M)) rfl ⟨trivial, trivial, trivial⟩ ?_
      refine pw_ic hT (c := i2z24_ ≤ 1) rfl rfl (fun c25_ => ?_) (fun c25_ => ?_)
      · have b26_ : 0 ≤ Int32.toInt i2z24_ ∧ Int32.toInt i2z24_ ≤ 1 := zr_le_l 1 c25_ h2z24_ (show 1 ≤ Int32.toInt 1 ∧ Int32.toInt 1 ≤ 1 from (by decide)) (by decide)
        refine pw_blk hT 1 (S' := (36, [some (pvI n0), some (pvI n1), some (pvI i2z24_)], [pvI n0], M)) rfl ⟨trivial, trivial⟩ ?_
        refine pw_ifn hT (c := n0 = 0) rfl rfl (fun c27_ => ?_) (fun c27_ => ?_)
        · refine pw_blk hT 1 (S' := (48, [some (pvI n0), some (pvI n1), some (pvI i2z24_)], [pvI 1], M)) rfl ⟨trivial, trivial⟩ ?_
          exact pw_ret hT rfl (r := some (pvI 1)) (M' := M) ⟨rfl, rfl⟩ ⟨⟨_, rfl, (zr_wide (show 1 ≤ Int32.toInt 1 ∧ Int32.toInt 1 ≤ 1 from (by decide)) (by decide) (by decide))⟩, rfl⟩
        · have b28_ : 0 ≤ Int32.toInt n0 ∧ Int32.toInt n0 ≤ 0 := (by have u0 := (zbnd n0); have u1 := (zi_eq _ _).mp c27_; have u2 := (show 0 ≤ Int32.toInt 0 ∧ Int32.toInt 0 ≤ 0 from (by decide)); omega)
          have q29_ : Int32.toInt (if n1 < 1 then 1 else n1) = max (Int32.toInt n1) (Int32.toInt 1) := pvmax n1 1
          have b30_ : 1 ≤ Int32.toInt (if n1 < 1 then 1 else n1) ∧ Int32.toInt (if n1 < 1 then 1 else n1) ≤ 10 := (by have u0 := hn1; have u1 := (show 1 ≤ Int32.toInt 1 ∧ Int32.toInt 1 ≤ 1 from (by decide)); omega)
          refine pw_blk hT 4 (S' := (48, [some (pvI n0), some (pvI n1), some (pvI i2z24_)], [pvI (if n1 < 1 then 1 else n1)], M)) rfl ⟨trivial, trivial, (Nat.le_of_ble_eq_true rfl), trivial, trivial⟩ ?_
          exact pw_ret hT rfl (r := some (pvI (if n1 < 1 then 1 else n1))) (M' := M) ⟨rfl, rfl⟩ ⟨⟨_, rfl, b30_⟩, rfl⟩
      · have b31_ : 2 ≤ Int32.toInt i2z24_ ∧ Int32.toInt i2z24_ ≤ 10 := zr_nle_l 2 c25_ h2z24_ (show 1 ≤ Int32.toInt 1 ∧ Int32.toInt 1 ≤ 1 from (by decide)) (by decide)
        refine pw_blk hT 3 (S' := (18, [some (pvI n0), some (pvI n1), some (pvI i2z24_)], [pvI (n0 - n0 / i2z24_ * i2z24_)], M)) rfl ⟨trivial, trivial, (fun z0 => by have u0 := b31_; have u1 := (zi_eq i2z24_ 0).mp z0; have u2 : (0 : Int32).toInt = 0 := (by decide); omega), trivial⟩ ?_
        refine pw_ifn hT (c := (n0 - n0 / i2z24_ * i2z24_) = 0) rfl rfl (fun c32_ => ?_) (fun c32_ => ?_)
        · obtain ⟨q34_, b33_⟩ : (Int32.toInt (i2z24_ + (-1)) = Int32.toInt i2z24_ + (-1)) ∧ (1 ≤ Int32.toInt (i2z24_ + (-1)) ∧ Int32.toInt (i2z24_ + (-1)) ≤ 9) := zadd_k i2z24_ (-1) (-1) 1 9 b31_ (by decide) (by decide) (by decide) (by decide) (by decide)
          refine pw_blk hT 2 (S' := (10, [some (pvI n0), some (pvI n1), some (pvI (i2z24_ + (-1)))], [], M)) rfl ⟨trivial, trivial, trivial⟩ ?_
          exact ihz24_ (i2z24_ + (-1)) (zr_wide b33_ (by decide) (by decide)) (zhid (by have hm0 := zshow hmz24_; omega))
        · have b35_ : 0 ≤ Int32.toInt (n0 - n0 / i2z24_ * i2z24_) ∧ Int32.toInt (n0 - n0 / i2z24_ * i2z24_) ≤ 0 := (by have u0 := (zbnd (n0 - n0 / i2z24_ * i2z24_)); have u1 := (zi_eq _ _).mp c32_; have u2 := (show 0 ≤ Int32.toInt 0 ∧ Int32.toInt 0 ≤ 0 from (by decide)); omega)
          have q36_ : 0 ≤ Int32.toInt (n1 - n1 / i2z24_ * i2z24_) ∧ Int32.toInt (n1 - n1 / i2z24_ * i2z24_) < Int32.toInt i2z24_ := pvrem n1 i2z24_ (by have u0 := hn1; omega) (by have u0 := b31_; omega)
          have b37_ : 0 ≤ Int32.toInt (n1 - n1 / i2z24_ * i2z24_) ∧ Int32.toInt (n1 - n1 / i2z24_ * i2z24_) ≤ 9 := (by have u0 := q36_; have u1 := b31_; omega)
          refine pw_blk hT 3 (S' := (24, [some (pvI n0), some (pvI n1), some (pvI i2z24_)], [pvI (n1 - n1 / i2z24_ * i2z24_)], M)) rfl ⟨trivial, trivial, (fun z0 => by have u0 := b31_; have u1 := (zi_eq i2z24_ 0).mp z0; have u2 : (0 : Int32).toInt = 0 := (by decide); omega), trivial⟩ ?_
          refine pw_ifn hT (c := (n1 - n1 / i2z24_ * i2z24_) = 0) rfl rfl (fun c38_ => ?_) (fun c38_ => ?_)
          · have b39_ : 1 ≤ Int32.toInt (n1 - n1 / i2z24_ * i2z24_) ∧ Int32.toInt (n1 - n1 / i2z24_ * i2z24_) ≤ 9 := (by have u0 := b37_; have u1 := (not_congr (zi_eq _ _)).mp c38_; have u2 := (show 0 ≤ Int32.toInt 0 ∧ Int32.toInt 0 ≤ 0 from (by decide)); omega)
            obtain ⟨q41_, b40_⟩ : (Int32.toInt (i2z24_ + (-1)) = Int32.toInt i2z24_ + (-1)) ∧ (1 ≤ Int32.toInt (i2z24_ + (-1)) ∧ Int32.toInt (i2z24_ + (-1)) ≤ 9) := zadd_k i2z24_ (-1) (-1) 1 9 b31_ (by decide) (by decide) (by decide) (by decide) (by decide)
            refine pw_blk hT 2 (S' := (10, [some (pvI n0), some (pvI n1), some (pvI (i2z24_ + (-1)))], [], M)) rfl ⟨trivial, trivial, trivial⟩ ?_
            exact ihz24_ (i2z24_ + (-1)) (zr_wide b40_ (by decide) (by decide)) (zhid (by have hm0 := zshow hmz24_; omega))
          · have b42_ : 0 ≤ Int32.toInt (n1 - n1 / i2z24_ * i2z24_) ∧ Int32.toInt (n1 - n1 / i2z24_ * i2z24_) ≤ 0 := (by have u0 := b37_; have u1 := (zi_eq _ _).mp c38_; have u2 := (show 0 ≤ Int32.toInt 0 ∧ Int32.toInt 0 ≤ 0 from (by decide)); omega)
            refine pw_blk hT 1 (S' := (28, [some (pvI n0), some (pvI n1), some (pvI i2z24_)], [pvI i2z24_], M)) rfl ⟨trivial, trivial⟩ ?_
            exact pw_ret hT rfl (r := some (pvI i2z24_)) (M' := M) ⟨rfl, rfl⟩ ⟨⟨_, rfl, (zr_wide b31_ (by decide) (by decide))⟩, rfl⟩
  exact hlz24_ _ (if n1 < (if n0 < 0 then 0 else n0) then n1 else (if n0 < 0 then 0 else n0)) b4_ (zhid (Nat.lt_succ_self _))
set_option maxHeartbeats 4000000 in
set_option maxRecDepth 10000 in
theorem sf_X9_partOf_x_x_x (M : pvM) (hok : pvOk M) (n0 : Int32) (n1 : Int32) (n2 : Int32) (hn1 : 1 ≤ Int32.toInt n1 ∧ Int32.toInt n1 ≤ 10) (d : Nat) : PW 191 d (0, [some (pvI n0), some (pvI n1), some (pvI n2), none], [], M) (fun r X => (∃ x : Int64, r = some (pvJ x)) ∧ X = M) := by
  have hT : pvdom 191 = pvD_191 := rfl
  refine pw_blk hT 2 (S' := (2, [some (pvI n0), some (pvI n1), some (pvI n2), none], [pvI n1, pvI n0], M)) rfl ⟨trivial, trivial, trivial⟩ ?_
  refine pw_callGp hT (as := [pvI n0, pvI n1]) (lo1 := [some (pvI n0), some (pvI n1), none]) (d1 := d) (rest := []) rfl rfl rfl rfl rfl (fun h => absurd h (by decide)) (Nat.zero_le _) rfl rfl rfl (sf_X9_greatestShared_x_x M hok n0 n1 hn1 d) (fun x1_ b3_ => ?_)
  refine pw_blk hT 2 (S' := (7, [some (pvI n0), some (pvI n1), some (pvI n2), some (pvI x1_)], [pvI n2], M)) rfl ⟨trivial, trivial, trivial⟩ ?_
  refine pw_ifn hT (c := n2 = 0) rfl rfl (fun c6_ => ?_) (fun c6_ => ?_)
  · refine pw_blk hT 4 (S' := (21, [some (pvI n0), some (pvI n1), some (pvI n2), some (pvI x1_)], [pvJ (Int32.toInt64 (n1 / x1_))], M)) rfl ⟨trivial, trivial, (fun z0 => by have u0 := b3_; have u1 := (zi_eq x1_ 0).mp z0; have u2 : (0 : Int32).toInt = 0 := (by decide); omega), trivial, trivial⟩ ?_
    exact pw_ret hT rfl (r := some (pvJ (Int32.toInt64 (n1 / x1_)))) (M' := M) ⟨rfl, rfl⟩ ⟨⟨_, rfl⟩, rfl⟩
  · have b7_ : 0 ≤ Int32.toInt n2 ∧ Int32.toInt n2 ≤ 0 := (by have u0 := (zbnd n2); have u1 := (zi_eq _ _).mp c6_; have u2 := (show 0 ≤ Int32.toInt 0 ∧ Int32.toInt 0 ≤ 0 from (by decide)); omega)
    refine pw_blk hT 5 (S' := (21, [some (pvI n0), some (pvI n1), some (pvI n2), some (pvI x1_)], [pvJ (Int32.toInt64 (n0 / x1_))], M)) rfl ⟨trivial, trivial, (fun z0 => by have u0 := b3_; have u1 := (zi_eq x1_ 0).mp z0; have u2 : (0 : Int32).toInt = 0 := (by decide); omega), trivial, trivial, trivial⟩ ?_
    exact pw_ret hT rfl (r := some (pvJ (Int32.toInt64 (n0 / x1_)))) (M' := M) ⟨rfl, rfl⟩ ⟨⟨_, rfl⟩, rfl⟩
def fpL_X9_mean_0_x : List (Nat × Nat × Nat) := [(0, 12, 0), (0, 13, 0), (0, 14, 0), (0, 5, 2), (0, 5, 3), (1, 112, 0)]
def fp_X9_mean_0_x (q k : Nat) : Bool := pvfp fpL_X9_mean_0_x q k
theorem fp_X9_mean_0_x_fp_X1_beginFromNow_5 (a b : Nat) (h : fp_X1_beginFromNow_5 a b = true) : fp_X9_mean_0_x a b = true := pvfp_sub (l1 := fpL_X1_beginFromNow_5) (l2 := fpL_X9_mean_0_x) (by decide) a b h
theorem fp_X9_mean_0_x_fp_X1_goRound_5_x (a b : Nat) (h : fp_X1_goRound_5_x a b = true) : fp_X9_mean_0_x a b = true := pvfp_sub (l1 := fpL_X1_goRound_5_x) (l2 := fpL_X9_mean_0_x) (by decide) a b h
set_option maxHeartbeats 4000000 in
set_option maxRecDepth 10000 in
theorem sf_X9_mean_0_x (M : pvM) (hok : pvOk M) (n1 : Int32) (d : Nat) : PW 186 d (0, [some (pvR 0), some (pvI n1), none, none], [], M) (fun r X => (∃ x : Int64, r = some (pvJ x)) ∧ pvOk X ∧ pvFr fp_X9_mean_0_x M X) := by
  have hT : pvdom 186 = pvD_186 := rfl
  refine pw_blk hT 3 (S' := (3, [some (pvR 0), some (pvI n1), none, none], [pvI 1, pvI 0, pvI n1], M)) rfl ⟨trivial, trivial, trivial, trivial⟩ ?_
  refine pw_callT hT (as := [pvI n1, pvI 0, pvI 1]) (lo1 := [some (pvI n1), some (pvI 0), some (pvI 1)]) (d1 := d) (rest := []) rfl rfl rfl rfl rfl (fun h => absurd h (by decide)) (Nat.zero_le _) rfl rfl rfl (sf_X9_within_x_x_x M hok n1 0 1 d) ?_
  by_cases c6_ : n1 < 0
  · refine pw_eqI (if_pos c6_) ?_
    have b7_ : (-2147483648) ≤ Int32.toInt n1 ∧ Int32.toInt n1 ≤ (-1) := zr_lt_l (-1) c6_ (zbnd n1) (show 0 ≤ Int32.toInt 0 ∧ Int32.toInt 0 ≤ 0 from (by decide)) (by decide)
    show PW 186 d (6, [some (pvR 0), some (pvI n1), none, none], [pvI 0], M) _
    refine pw_ifn hT (c := 0 = 0) rfl rfl (fun c8_ => absurd (by decide) c8_) (fun c8_ => ?_)
    refine pw_blk hT 1 (S' := (12, [some (pvR 0), some (pvI n1), none, none], [pvJ (-9223372036854775808)], M)) rfl ⟨trivial, trivial⟩ ?_
    exact pw_ret hT rfl (r := some (pvJ (-9223372036854775808))) (M' := M) ⟨rfl, rfl⟩ ⟨⟨_, rfl⟩, hok, pvfr_0⟩
  · refine pw_eqI (if_neg c6_) ?_
    have b9_ : 0 ≤ Int32.toInt n1 ∧ Int32.toInt n1 ≤ 2147483647 := zr_nlt_l 0 c6_ (zbnd n1) (show 0 ≤ Int32.toInt 0 ∧ Int32.toInt 0 ≤ 0 from (by decide)) (by decide)
    by_cases c10_ : 1 < n1
    · refine pw_eqI (if_pos c10_) ?_
      have b11_ : 2 ≤ Int32.toInt n1 ∧ Int32.toInt n1 ≤ 2147483647 := zr_lt_r 2 c10_ b9_ (show 1 ≤ Int32.toInt 1 ∧ Int32.toInt 1 ≤ 1 from (by decide)) (by decide)
      show PW 186 d (6, [some (pvR 0), some (pvI n1), none, none], [pvI 0], M) _
      refine pw_ifn hT (c := 0 = 0) rfl rfl (fun c12_ => absurd (by decide) c12_) (fun c12_ => ?_)
      refine pw_blk hT 1 (S' := (12, [some (pvR 0), some (pvI n1), none, none], [pvJ (-9223372036854775808)], M)) rfl ⟨trivial, trivial⟩ ?_
      exact pw_ret hT rfl (r := some (pvJ (-9223372036854775808))) (M' := M) ⟨rfl, rfl⟩ ⟨⟨_, rfl⟩, hok, pvfr_0⟩
    · refine pw_eqI (if_neg c10_) ?_
      have b13_ : 0 ≤ Int32.toInt n1 ∧ Int32.toInt n1 ≤ 1 := zr_nlt_r 1 c10_ b9_ (show 1 ≤ Int32.toInt 1 ∧ Int32.toInt 1 ≤ 1 from (by decide)) (by decide)
      show PW 186 d (6, [some (pvR 0), some (pvI n1), none, none], [pvI 1], M) _
      refine pw_ifn hT (c := 1 = 0) rfl rfl (fun c14_ => ?_) (fun c14_ => absurd c14_ (by decide))
      refine pw_blk hT 2 (S' := (17, [some (pvR 0), some (pvI n1), none, none], [pvR 5], M)) rfl ⟨trivial, rfl, trivial⟩ ?_
      refine pw_callV hT (as := [pvR 5]) (lo1 := [some (pvR 5)]) (d1 := d) (rest := []) rfl rfl rfl rfl rfl (fun _ => rfl) (Nat.zero_le _) rfl rfl rfl (sf_X1_beginFromNow_5 M hok d) (fun M16_ o18_ g19_ => ?_)
      have f20_ : pvFr fp_X9_mean_0_x M M16_ := pvfr_t g19_ pvfr_0 fp_X9_mean_0_x_fp_X1_beginFromNow_5
      refine pw_blk hT 3 (S' := (25, [some (pvR 0), some (pvI n1), none, none], [pvI 0, pvR 5], M16_)) rfl ⟨trivial, rfl, trivial, trivial⟩ ?_
      refine pw_callG hT (as := [pvR 5, pvI 0]) (lo1 := [some (pvR 5), some (pvI 0)]) (d1 := d) (rest := []) rfl rfl rfl rfl rfl (fun _ => rfl) (Nat.zero_le _) rfl rfl rfl (sf_X1_goRound_5_x M16_ o18_ 0 (zr_wide (show 0 ≤ Int32.toInt 0 ∧ Int32.toInt 0 ≤ 0 from (by decide)) (by decide) (by decide)) d) (fun x21_ M22_ b23_ o24_ g25_ => ?_)
      have f26_ : pvFr fp_X9_mean_0_x M M22_ := pvfr_t g25_ f20_ fp_X9_mean_0_x_fp_X1_goRound_5_x
      refine pw_blk hT 5 (S' := (33, [some (pvR 0), some (pvI n1), some (pvI 0), some (pvI 0)], [], M22_)) rfl ⟨trivial, trivial, trivial, trivial, trivial, trivial⟩ ?_
      have hlz114_ : ∀ (nz114_ : Nat) (i2z114_ : Int32) (i3z114_ : Int32) (Mz114_ : pvM), (pvOk Mz114_) → (pvFr fp_X9_mean_0_x M Mz114_) → (0 ≤ Int32.toInt i3z114_ ∧ Int32.toInt i3z114_ ≤ 10) → (zhide ((11 - Int32.toInt i3z114_).toNat < nz114_)) → PW 186 d (33, [some (pvR 0), some (pvI n1), some (pvI i2z114_), some (pvI i3z114_)], [], Mz114_) (fun r X => (∃ x : Int64, r = some (pvJ x)) ∧ pvOk X ∧ pvFr fp_X9_mean_0_x M X) := by
        intro nz114_
        induction nz114_ with
        | zero => intro i2z114_ i3z114_ Mz114_ oz114_ fz114_ h3z114_ hmz114_; exact absurd (zshow hmz114_) (Nat.not_lt_zero _)
        | succ nz114_ ihz114_ =>
          intro i2z114_ i3z114_ Mz114_ oz114_ fz114_ h3z114_ hmz114_
          refine pw_blk hT 2 (S' := (36, [some (pvR 0), some (pvI n1), some (pvI i2z114_), some (pvI i3z114_)], [pvI 10, pvI i3z114_], Mz114_)) rfl ⟨trivial, trivial, trivial⟩ ?_
          refine pw_ic hT (c := 10 ≤ i3z114_) rfl rfl (fun c115_ => ?_) (fun c115_ => ?_)
          · have b116_ : 10 ≤ Int32.toInt i3z114_ ∧ Int32.toInt i3z114_ ≤ 10 := zr_le_r 10 c115_ h3z114_ (show 10 ≤ Int32.toInt 10 ∧ Int32.toInt 10 ≤ 10 from (by decide)) (by decide)
            refine pw_blk hT 3 (S' := (75, [some (pvR 0), some (pvI n1), some (pvI i2z114_), some (pvI i3z114_)], [pvI n1, pvI 10, pvI i2z114_], Mz114_)) rfl ⟨trivial, trivial, trivial, trivial⟩ ?_
            refine pw_callJp hT (as := [pvI i2z114_, pvI 10, pvI n1]) (lo1 := [some (pvI i2z114_), some (pvI 10), some (pvI n1), none]) (d1 := d) (rest := []) rfl rfl rfl rfl rfl (fun h => absurd h (by decide)) (Nat.zero_le _) rfl rfl rfl (sf_X9_partOf_x_x_x Mz114_ oz114_ i2z114_ 10 n1 (zr_wide (show 10 ≤ Int32.toInt 10 ∧ Int32.toInt 10 ≤ 10 from (by decide)) (by decide) (by decide)) d) (fun x117_ b119_ => ?_)
            exact pw_ret hT rfl (r := some (pvJ x117_)) (M' := Mz114_) ⟨rfl, rfl⟩ ⟨⟨_, rfl⟩, oz114_, fz114_⟩
          · have b122_ : 0 ≤ Int32.toInt i3z114_ ∧ Int32.toInt i3z114_ ≤ 9 := zr_nle_r 9 c115_ h3z114_ (show 10 ≤ Int32.toInt 10 ∧ Int32.toInt 10 ≤ 10 from (by decide)) (by decide)
            have b123_ : 0 ≤ Int32.toInt (Mz114_.1 8 2) ∧ Int32.toInt (Mz114_.1 8 2) ≤ 99 := pvok_r oz114_ 8 2 rfl
            obtain ⟨q125_, b124_⟩ : (Int32.toInt ((Mz114_.1 8 2) + i3z114_) = Int32.toInt (Mz114_.1 8 2) + Int32.toInt i3z114_) ∧ (0 ≤ Int32.toInt ((Mz114_.1 8 2) + i3z114_) ∧ Int32.toInt ((Mz114_.1 8 2) + i3z114_) ≤ 108) := zadd_r (Mz114_.1 8 2) i3z114_ 0 108 b123_ b122_ (by decide) (by decide) (by decide) (by decide)
            refine pw_blkw hT 8 (pc := 55) (lo := [some (pvR 0), some (pvI n1), some (pvI i2z114_), some (pvI i3z114_)]) (st := []) (M := pvu Mz114_ 5 2 ((Mz114_.1 8 2) + i3z114_)) rfl ⟨trivial, rfl, trivial, rfl, rfl, trivial, trivial, rfl, trivial⟩ (fun M126_ e127_ => ?_)
            have o128_ : pvOk M126_ := pvok_u2 e127_ oz114_ rfl b124_
            have f129_ : pvFr fp_X9_mean_0_x M M126_ := pvfr_u e127_ fz114_ rfl
            refine pw_blk hT 3 (S' := (60, [some (pvR 0), some (pvI n1), some (pvI i2z114_), some (pvI i3z114_)], [pvR 5, pvI i2z114_], M126_)) rfl ⟨trivial, trivial, rfl, trivial⟩ ?_
            refine pw_callGp hT (as := [pvR 5]) (lo1 := [some (pvR 5)]) (d1 := d) (rest := [pvI i2z114_]) rfl rfl rfl rfl rfl (fun _ => rfl) (Nat.zero_le _) rfl rfl rfl (sf_X1_cost_5 M126_ o128_ d) (fun x130_ b132_ => ?_)
            obtain ⟨q136_, b135_⟩ : (Int32.toInt (i3z114_ + 1) = Int32.toInt i3z114_ + 1) ∧ (1 ≤ Int32.toInt (i3z114_ + 1) ∧ Int32.toInt (i3z114_ + 1) ≤ 10) := zadd_k i3z114_ 1 1 1 10 b122_ (by decide) (by decide) (by decide) (by decide) (by decide)
            refine pw_blk hT 4 (S' := (33, [some (pvR 0), some (pvI n1), some (pvI (i2z114_ + x130_)), some (pvI (i3z114_ + 1))], [], M126_)) rfl ⟨trivial, trivial, trivial, trivial, trivial⟩ ?_
            exact ihz114_ (i2z114_ + x130_) (i3z114_ + 1) M126_ o128_ f129_ (zr_wide b135_ (by decide) (by decide)) (zhid (pvms_up (zshow hmz114_) h3z114_ q136_ (by decide) (by decide)))
      exact hlz114_ _ 0 0 M22_ o24_ f26_ (zr_wide (show 0 ≤ Int32.toInt 0 ∧ Int32.toInt 0 ≤ 0 from (by decide)) (by decide) (by decide)) (zhid (Nat.lt_succ_self _))
def fpL_X1_costOfOne_5_x : List (Nat × Nat × Nat) := [(0, 106, 1), (0, 114, 0), (0, 12, 0), (0, 122, 0)]
def fp_X1_costOfOne_5_x (q k : Nat) : Bool := pvfp fpL_X1_costOfOne_5_x q k
theorem fp_X1_costOfOne_5_x_fp_X1_costOfTried_5 (a b : Nat) (h : fp_X1_costOfTried_5 a b = true) : fp_X1_costOfOne_5_x a b = true := pvfp_sub (l1 := fpL_X1_costOfTried_5) (l2 := fpL_X1_costOfOne_5_x) (by decide) a b h
theorem fp_X1_costOfOne_5_x_fp_X6_append_106_x_x (a b : Nat) (h : fp_X6_append_106_x_x a b = true) : fp_X1_costOfOne_5_x a b = true := pvfp_sub (l1 := fpL_X6_append_106_x_x) (l2 := fpL_X1_costOfOne_5_x) (by decide) a b h
theorem fp_X1_costOfOne_5_x_fp_X6_clear_106 (a b : Nat) (h : fp_X6_clear_106 a b = true) : fp_X1_costOfOne_5_x a b = true := pvfp_sub (l1 := fpL_X6_clear_106) (l2 := fpL_X1_costOfOne_5_x) (by decide) a b h
set_option maxHeartbeats 4000000 in
set_option maxRecDepth 10000 in
theorem sf_X1_costOfOne_5_x (M : pvM) (hok : pvOk M) (n1 : Int32) (hn1 : 0 ≤ Int32.toInt n1 ∧ Int32.toInt n1 ≤ 6) (d : Nat) : PW 104 d (0, [some (pvR 5), some (pvI n1)], [], M) (fun r X => (∃ x : Int32, r = some (pvI x) ∧ True) ∧ pvOk X ∧ pvFr fp_X1_costOfOne_5_x M X) := by
  have hT : pvdom 104 = pvD_104 := rfl
  refine pw_blk hT 2 (S' := (4, [some (pvR 5), some (pvI n1)], [pvR 106], M)) rfl ⟨trivial, rfl, trivial⟩ ?_
  refine pw_callG hT (as := [pvR 106]) (lo1 := [some (pvR 106)]) (d1 := d) (rest := []) rfl rfl rfl rfl rfl (fun _ => rfl) (Nat.zero_le _) rfl rfl rfl (sf_X6_clear_106 M hok d) (fun x1_ M2_ b3_ o4_ g5_ => ?_)
  have f6_ : pvFr fp_X1_costOfOne_5_x M M2_ := pvfr_t g5_ pvfr_0 fp_X1_costOfOne_5_x_fp_X6_clear_106
  refine pw_blk hT 5 (S' := (14, [some (pvR 5), some (pvI n1)], [pvI 0, pvI n1, pvR 106], M2_)) rfl ⟨trivial, trivial, rfl, trivial, trivial, trivial⟩ ?_
  refine pw_callG hT (as := [pvR 106, pvI n1, pvI 0]) (lo1 := [some (pvR 106), some (pvI n1), some (pvI 0)]) (d1 := d) (rest := []) rfl rfl rfl rfl rfl (fun _ => rfl) (Nat.zero_le _) rfl rfl rfl (sf_X6_append_106_x_x M2_ o4_ n1 0 hn1 (zr_wide (show 0 ≤ Int32.toInt 0 ∧ Int32.toInt 0 ≤ 0 from (by decide)) (by decide) (by decide)) d) (fun x7_ M8_ b9_ o10_ g11_ => ?_)
  have f12_ : pvFr fp_X1_costOfOne_5_x M M8_ := pvfr_t g11_ f6_ fp_X1_costOfOne_5_x_fp_X6_append_106_x_x
  refine pw_blk hT 2 (S' := (19, [some (pvR 5), some (pvI n1)], [pvR 5], M8_)) rfl ⟨trivial, trivial, trivial⟩ ?_
  refine pw_callG hT (as := [pvR 5]) (lo1 := [some (pvR 5)]) (d1 := d) (rest := []) rfl rfl rfl rfl rfl (fun _ => rfl) (Nat.zero_le _) rfl rfl rfl (sf_X1_costOfTried_5 M8_ o10_ d) (fun x13_ M14_ b15_ o16_ g17_ => ?_)
  have f18_ : pvFr fp_X1_costOfOne_5_x M M14_ := pvfr_t g17_ f12_ fp_X1_costOfOne_5_x_fp_X1_costOfTried_5
  exact pw_ret hT rfl (r := some (pvI x13_)) (M' := M14_) ⟨rfl, rfl⟩ ⟨⟨_, rfl, trivial⟩, o16_, f18_⟩
def fpL_X9_next_0 : List (Nat × Nat × Nat) := [(0, 106, 1), (0, 114, 0), (0, 12, 0), (0, 122, 0), (0, 13, 0), (0, 14, 0), (0, 5, 2), (0, 5, 3), (1, 112, 0)]
def fp_X9_next_0 (q k : Nat) : Bool := pvfp fpL_X9_next_0 q k
theorem fp_X9_next_0_fp_X1_beginFromNow_5 (a b : Nat) (h : fp_X1_beginFromNow_5 a b = true) : fp_X9_next_0 a b = true := pvfp_sub (l1 := fpL_X1_beginFromNow_5) (l2 := fpL_X9_next_0) (by decide) a b h
theorem fp_X9_next_0_fp_X1_costOfOne_5_x (a b : Nat) (h : fp_X1_costOfOne_5_x a b = true) : fp_X9_next_0 a b = true := pvfp_sub (l1 := fpL_X1_costOfOne_5_x) (l2 := fpL_X9_next_0) (by decide) a b h
set_option maxHeartbeats 4000000 in
set_option maxRecDepth 10000 in
theorem sf_X9_next_0 (M : pvM) (hok : pvOk M) (d : Nat) : PW 187 d (0, [some (pvR 0), none, none, none, none], [], M) (fun r X => (∃ x : Int32, r = some (pvI x) ∧ (-5) ≤ Int32.toInt x ∧ Int32.toInt x ≤ 2147483647) ∧ pvOk X ∧ pvFr fp_X9_next_0 M X) := by
  have hT : pvdom 187 = pvD_187 := rfl
  refine pw_blk hT 2 (S' := (4, [some (pvR 0), none, none, none, none], [pvR 5], M)) rfl ⟨trivial, rfl, trivial⟩ ?_
  refine pw_callV hT (as := [pvR 5]) (lo1 := [some (pvR 5)]) (d1 := d) (rest := []) rfl rfl rfl rfl rfl (fun _ => rfl) (Nat.zero_le _) rfl rfl rfl (sf_X1_beginFromNow_5 M hok d) (fun M2_ o4_ g5_ => ?_)
  have f6_ : pvFr fp_X9_next_0 M M2_ := pvfr_t g5_ pvfr_0 fp_X9_next_0_fp_X1_beginFromNow_5
  refine pw_blk hT 6 (S' := (14, [some (pvR 0), some (pvI (-5)), some (pvI 0), some (pvI 0), none], [], M2_)) rfl ⟨trivial, trivial, trivial, trivial, trivial, trivial, trivial⟩ ?_
  have hlz129_ : ∀ (nz129_ : Nat) (i1z129_ : Int32) (i2z129_ : Int32) (i3z129_ : Int32) (v4z129_ : Option pvV) (Mz129_ : pvM), (pvOk Mz129_) → (pvFr fp_X9_next_0 M Mz129_) → ((-5) ≤ Int32.toInt i1z129_ ∧ Int32.toInt i1z129_ ≤ 2147483647) → (0 ≤ Int32.toInt i3z129_ ∧ Int32.toInt i3z129_ ≤ 7) → (zhide ((8 - Int32.toInt i3z129_).toNat < nz129_)) → PW 187 d (14, [some (pvR 0), some (pvI i1z129_), some (pvI i2z129_), some (pvI i3z129_), v4z129_], [], Mz129_) (fun r X => (∃ x : Int32, r = some (pvI x) ∧ (-5) ≤ Int32.toInt x ∧ Int32.toInt x ≤ 2147483647) ∧ pvOk X ∧ pvFr fp_X9_next_0 M X) := by
    intro nz129_
    induction nz129_ with
    | zero => intro i1z129_ i2z129_ i3z129_ v4z129_ Mz129_ oz129_ fz129_ h1z129_ h3z129_ hmz129_; exact absurd (zshow hmz129_) (Nat.not_lt_zero _)
    | succ nz129_ ihz129_ =>
      intro i1z129_ i2z129_ i3z129_ v4z129_ Mz129_ oz129_ fz129_ h1z129_ h3z129_ hmz129_
      have b130_ : 0 ≤ Int32.toInt (Mz129_.1 8 1) ∧ Int32.toInt (Mz129_.1 8 1) ≤ 7 := pvok_r oz129_ 8 1 rfl
      refine pw_blk hT 4 (S' := (22, [some (pvR 0), some (pvI i1z129_), some (pvI i2z129_), some (pvI i3z129_), v4z129_], [pvI (Mz129_.1 8 1), pvI i3z129_], Mz129_)) rfl ⟨trivial, trivial, rfl, rfl, trivial⟩ ?_
      refine pw_ic hT (c := (Mz129_.1 8 1) ≤ i3z129_) rfl rfl (fun c131_ => ?_) (fun c131_ => ?_)
      · have d132_ : Int32.toInt (Mz129_.1 8 1) ≤ Int32.toInt i3z129_ := (zi_le _ _).mp c131_
        refine pw_blk hT 1 (S' := (77, [some (pvR 0), some (pvI i1z129_), some (pvI i2z129_), some (pvI i3z129_), v4z129_], [pvI i1z129_], Mz129_)) rfl ⟨trivial, trivial⟩ ?_
        exact pw_ret hT rfl (r := some (pvI i1z129_)) (M' := Mz129_) ⟨rfl, rfl⟩ ⟨⟨_, rfl, h1z129_⟩, oz129_, fz129_⟩
      · have b133_ : 1 ≤ Int32.toInt (Mz129_.1 8 1) ∧ Int32.toInt (Mz129_.1 8 1) ≤ 7 := zr_nle_l 1 c131_ b130_ h3z129_ (by decide)
        have b134_ : 0 ≤ Int32.toInt i3z129_ ∧ Int32.toInt i3z129_ ≤ 6 := zr_nle_r 6 c131_ h3z129_ b133_ (by decide)
        have d135_ : Int32.toInt (Mz129_.1 8 1) > Int32.toInt i3z129_ := Int.not_le.mp ((not_congr (zi_le _ _)).mp c131_)
        refine pw_blkr hT 5 (pc := 34) (lo := [some (pvR 0), some (pvI i1z129_), some (pvI i2z129_), some (pvI i3z129_), v4z129_]) (st := []) (M := Mz129_) (z := (pvbs 10 + Int32.toNatClampNeg i3z129_)) rfl ⟨trivial, rfl, rfl, trivial, ⟨rfl, (zr_in (n := 7) b134_ (by decide) (by decide))⟩, trivial⟩ (fun q136_ e138_ => ?_)
        have k137_ : pvkl q136_ = 3 := pvel_10 (zr_in (n := 7) b134_ (by decide) (by decide)) e138_
        have b139_ : 0 ≤ Int32.toInt (Mz129_.1 q136_ 5) ∧ Int32.toInt (Mz129_.1 q136_ 5) ≤ 1 := pvok_r oz129_ q136_ 5 ((pvrg_o 5 k137_ (by decide) (by decide)).trans rfl)
        refine pw_blk hT 1 (S' := (37, [some (pvR 0), some (pvI i1z129_), some (pvI i2z129_), some (pvI i3z129_), v4z129_], [pvI (Mz129_.1 q136_ 5)], Mz129_)) rfl ⟨k137_, trivial⟩ ?_
        refine pw_if hT (c := (Mz129_.1 q136_ 5) = 0) rfl rfl (fun c140_ => ?_) (fun c140_ => ?_)
        · have b141_ : 0 ≤ Int32.toInt (Mz129_.1 q136_ 5) ∧ Int32.toInt (Mz129_.1 q136_ 5) ≤ 0 := (by have u0 := b139_; have u1 := (zi_eq _ _).mp c140_; have u2 := (show 0 ≤ Int32.toInt 0 ∧ Int32.toInt 0 ≤ 0 from (by decide)); omega)
          refine pw_blk hT 3 (S' := (48, [some (pvR 0), some (pvI i1z129_), some (pvI i2z129_), some (pvI i3z129_), v4z129_], [pvI i3z129_, pvR 5], Mz129_)) rfl ⟨trivial, rfl, trivial, trivial⟩ ?_
          refine pw_callG hT (as := [pvR 5, pvI i3z129_]) (lo1 := [some (pvR 5), some (pvI i3z129_)]) (d1 := d) (rest := []) rfl rfl rfl rfl rfl (fun _ => rfl) (Nat.zero_le _) rfl rfl rfl (sf_X1_costOfOne_5_x Mz129_ oz129_ i3z129_ b134_ d) (fun x142_ M143_ b144_ o145_ g146_ => ?_)
          have f147_ : pvFr fp_X9_next_0 M M143_ := pvfr_t g146_ fz129_ fp_X9_next_0_fp_X1_costOfOne_5_x
          refine pw_blk hT 3 (S' := (56, [some (pvR 0), some (pvI i1z129_), some (pvI i2z129_), some (pvI i3z129_), some (pvI x142_)], [pvI (-5), pvI i1z129_], M143_)) rfl ⟨trivial, trivial, trivial, trivial⟩ ?_
          refine pw_ic hT (c := i1z129_ = (-5)) rfl rfl (fun c148_ => ?_) (fun c148_ => ?_)
          · have b149_ : (-5) ≤ Int32.toInt i1z129_ ∧ Int32.toInt i1z129_ ≤ (-5) := (by have u0 := h1z129_; have u1 := (zi_eq _ _).mp c148_; have u2 := (show (-5) ≤ Int32.toInt (-5) ∧ Int32.toInt (-5) ≤ (-5) from (by decide)); omega)
            obtain ⟨q151_, b150_⟩ : (Int32.toInt (i3z129_ + 1) = Int32.toInt i3z129_ + 1) ∧ (1 ≤ Int32.toInt (i3z129_ + 1) ∧ Int32.toInt (i3z129_ + 1) ≤ 7) := zadd_k i3z129_ 1 1 1 7 b134_ (by decide) (by decide) (by decide) (by decide) (by decide)
            refine pw_blk hT 6 (S' := (14, [some (pvR 0), some (pvI i3z129_), some (pvI x142_), some (pvI (i3z129_ + 1)), some (pvI x142_)], [], M143_)) rfl ⟨trivial, trivial, trivial, trivial, trivial, trivial, trivial⟩ ?_
            exact ihz129_ i3z129_ x142_ (i3z129_ + 1) (some (pvI x142_)) M143_ o145_ f147_ (zr_wide b134_ (by decide) (by decide)) (zr_wide b150_ (by decide) (by decide)) (zhid (pvms_up (zshow hmz129_) h3z129_ q151_ (by decide) (by decide)))
          · have b152_ : (-4) ≤ Int32.toInt i1z129_ ∧ Int32.toInt i1z129_ ≤ 2147483647 := (by have u0 := h1z129_; have u1 := (not_congr (zi_eq _ _)).mp c148_; have u2 := (show (-5) ≤ Int32.toInt (-5) ∧ Int32.toInt (-5) ≤ (-5) from (by decide)); omega)
            refine pw_blk hT 2 (S' := (62, [some (pvR 0), some (pvI i1z129_), some (pvI i2z129_), some (pvI i3z129_), some (pvI x142_)], [pvI i2z129_, pvI x142_], M143_)) rfl ⟨trivial, trivial, trivial⟩ ?_
            refine pw_ic hT (c := i2z129_ ≤ x142_) rfl rfl (fun c153_ => ?_) (fun c153_ => ?_)
            · have d154_ : Int32.toInt i2z129_ ≤ Int32.toInt x142_ := (zi_le _ _).mp c153_
              obtain ⟨q156_, b155_⟩ : (Int32.toInt (i3z129_ + 1) = Int32.toInt i3z129_ + 1) ∧ (1 ≤ Int32.toInt (i3z129_ + 1) ∧ Int32.toInt (i3z129_ + 1) ≤ 7) := zadd_k i3z129_ 1 1 1 7 b134_ (by decide) (by decide) (by decide) (by decide) (by decide)
              refine pw_blk hT 2 (S' := (14, [some (pvR 0), some (pvI i1z129_), some (pvI i2z129_), some (pvI (i3z129_ + 1)), some (pvI x142_)], [], M143_)) rfl ⟨trivial, trivial, trivial⟩ ?_
              exact ihz129_ i1z129_ i2z129_ (i3z129_ + 1) (some (pvI x142_)) M143_ o145_ f147_ (zr_wide b152_ (by decide) (by decide)) (zr_wide b155_ (by decide) (by decide)) (zhid (pvms_up (zshow hmz129_) h3z129_ q156_ (by decide) (by decide)))
            · have b157_ : (-2147483647) ≤ Int32.toInt i2z129_ ∧ Int32.toInt i2z129_ ≤ 2147483647 := zr_nle_l (-2147483647) c153_ (zbnd i2z129_) (zbnd x142_) (by decide)
              have b158_ : (-2147483648) ≤ Int32.toInt x142_ ∧ Int32.toInt x142_ ≤ 2147483646 := zr_nle_r 2147483646 c153_ (zbnd x142_) b157_ (by decide)
              have d159_ : Int32.toInt i2z129_ > Int32.toInt x142_ := Int.not_le.mp ((not_congr (zi_le _ _)).mp c153_)
              obtain ⟨q161_, b160_⟩ : (Int32.toInt (i3z129_ + 1) = Int32.toInt i3z129_ + 1) ∧ (1 ≤ Int32.toInt (i3z129_ + 1) ∧ Int32.toInt (i3z129_ + 1) ≤ 7) := zadd_k i3z129_ 1 1 1 7 b134_ (by decide) (by decide) (by decide) (by decide) (by decide)
              refine pw_blk hT 6 (S' := (14, [some (pvR 0), some (pvI i3z129_), some (pvI x142_), some (pvI (i3z129_ + 1)), some (pvI x142_)], [], M143_)) rfl ⟨trivial, trivial, trivial, trivial, trivial, trivial, trivial⟩ ?_
              exact ihz129_ i3z129_ x142_ (i3z129_ + 1) (some (pvI x142_)) M143_ o145_ f147_ (zr_wide b134_ (by decide) (by decide)) (zr_wide b160_ (by decide) (by decide)) (zhid (pvms_up (zshow hmz129_) h3z129_ q161_ (by decide) (by decide)))
        · have b162_ : 1 ≤ Int32.toInt (Mz129_.1 q136_ 5) ∧ Int32.toInt (Mz129_.1 q136_ 5) ≤ 1 := (by have u0 := b139_; have u1 := (not_congr (zi_eq _ _)).mp c140_; have u2 := (show 0 ≤ Int32.toInt 0 ∧ Int32.toInt 0 ≤ 0 from (by decide)); omega)
          obtain ⟨q164_, b163_⟩ : (Int32.toInt (i3z129_ + 1) = Int32.toInt i3z129_ + 1) ∧ (1 ≤ Int32.toInt (i3z129_ + 1) ∧ Int32.toInt (i3z129_ + 1) ≤ 7) := zadd_k i3z129_ 1 1 1 7 b134_ (by decide) (by decide) (by decide) (by decide) (by decide)
          refine pw_blk hT 3 (S' := (14, [some (pvR 0), some (pvI i1z129_), some (pvI i2z129_), some (pvI (i3z129_ + 1)), v4z129_], [], Mz129_)) rfl ⟨trivial, trivial, trivial, trivial⟩ ?_
          exact ihz129_ i1z129_ i2z129_ (i3z129_ + 1) v4z129_ Mz129_ oz129_ fz129_ h1z129_ (zr_wide b163_ (by decide) (by decide)) (zhid (pvms_up (zshow hmz129_) h3z129_ q164_ (by decide) (by decide)))
  exact hlz129_ _ (-5) 0 0 none M2_ o4_ f6_ (zr_wide (show (-5) ≤ Int32.toInt (-5) ∧ Int32.toInt (-5) ≤ (-5) from (by decide)) (by decide) (by decide)) (zr_wide (show 0 ≤ Int32.toInt 0 ∧ Int32.toInt 0 ≤ 0 from (by decide)) (by decide) (by decide)) (zhid (Nat.lt_succ_self _))
def fpL_X9_odds_0_x_x : List (Nat × Nat × Nat) := [(0, 12, 0), (0, 13, 0), (0, 14, 0), (0, 5, 2), (0, 5, 3), (1, 112, 0)]
def fp_X9_odds_0_x_x (q k : Nat) : Bool := pvfp fpL_X9_odds_0_x_x q k
theorem fp_X9_odds_0_x_x_fp_X1_beginFromNow_5 (a b : Nat) (h : fp_X1_beginFromNow_5 a b = true) : fp_X9_odds_0_x_x a b = true := pvfp_sub (l1 := fpL_X1_beginFromNow_5) (l2 := fpL_X9_odds_0_x_x) (by decide) a b h
theorem fp_X9_odds_0_x_x_fp_X1_goRound_5_x (a b : Nat) (h : fp_X1_goRound_5_x a b = true) : fp_X9_odds_0_x_x a b = true := pvfp_sub (l1 := fpL_X1_goRound_5_x) (l2 := fpL_X9_odds_0_x_x) (by decide) a b h
theorem fp_X9_odds_0_x_x_fp_X1_turnTo_5_x (a b : Nat) (h : fp_X1_turnTo_5_x a b = true) : fp_X9_odds_0_x_x a b = true := pvfp_sub (l1 := fpL_X1_turnTo_5_x) (l2 := fpL_X9_odds_0_x_x) (by decide) a b h
set_option maxHeartbeats 4000000 in
set_option maxRecDepth 10000 in
theorem sf_X9_odds_0_x_x (M : pvM) (hok : pvOk M) (n1 : Int32) (n2 : Int32) (d : Nat) : PW 188 d (0, [some (pvR 0), some (pvI n1), some (pvI n2), none, none], [], M) (fun r X => (∃ x : Int64, r = some (pvJ x)) ∧ pvOk X ∧ pvFr fp_X9_odds_0_x_x M X) := by
  have hT : pvdom 188 = pvD_188 := rfl
  refine pw_blk hT 3 (S' := (4, [some (pvR 0), some (pvI n1), some (pvI n2), none, none], [pvI 99999, pvI 0, pvI n1], M)) rfl ⟨trivial, trivial, trivial, trivial⟩ ?_
  refine pw_callT hT (as := [pvI n1, pvI 0, pvI 99999]) (lo1 := [some (pvI n1), some (pvI 0), some (pvI 99999)]) (d1 := d) (rest := []) rfl rfl rfl rfl rfl (fun h => absurd h (by decide)) (Nat.zero_le _) rfl rfl rfl (sf_X9_within_x_x_x M hok n1 0 99999 d) ?_
  by_cases c6_ : n1 < 0
  · refine pw_eqI (if_pos c6_) ?_
    have b7_ : (-2147483648) ≤ Int32.toInt n1 ∧ Int32.toInt n1 ≤ (-1) := zr_lt_l (-1) c6_ (zbnd n1) (show 0 ≤ Int32.toInt 0 ∧ Int32.toInt 0 ≤ 0 from (by decide)) (by decide)
    show PW 188 d (7, [some (pvR 0), some (pvI n1), some (pvI n2), none, none], [pvI 0], M) _
    refine pw_if hT (c := 0 = 0) rfl rfl (fun c8_ => ?_) (fun c8_ => absurd (by decide) c8_)
    refine pw_blk hT 1 (S' := (22, [some (pvR 0), some (pvI n1), some (pvI n2), none, none], [pvJ (-9223372036854775808)], M)) rfl ⟨trivial, trivial⟩ ?_
    exact pw_ret hT rfl (r := some (pvJ (-9223372036854775808))) (M' := M) ⟨rfl, rfl⟩ ⟨⟨_, rfl⟩, hok, pvfr_0⟩
  · refine pw_eqI (if_neg c6_) ?_
    have b9_ : 0 ≤ Int32.toInt n1 ∧ Int32.toInt n1 ≤ 2147483647 := zr_nlt_l 0 c6_ (zbnd n1) (show 0 ≤ Int32.toInt 0 ∧ Int32.toInt 0 ≤ 0 from (by decide)) (by decide)
    by_cases c10_ : 99999 < n1
    · refine pw_eqI (if_pos c10_) ?_
      have b11_ : 100000 ≤ Int32.toInt n1 ∧ Int32.toInt n1 ≤ 2147483647 := zr_lt_r 100000 c10_ b9_ (show 99999 ≤ Int32.toInt 99999 ∧ Int32.toInt 99999 ≤ 99999 from (by decide)) (by decide)
      show PW 188 d (7, [some (pvR 0), some (pvI n1), some (pvI n2), none, none], [pvI 0], M) _
      refine pw_if hT (c := 0 = 0) rfl rfl (fun c12_ => ?_) (fun c12_ => absurd (by decide) c12_)
      refine pw_blk hT 1 (S' := (22, [some (pvR 0), some (pvI n1), some (pvI n2), none, none], [pvJ (-9223372036854775808)], M)) rfl ⟨trivial, trivial⟩ ?_
      exact pw_ret hT rfl (r := some (pvJ (-9223372036854775808))) (M' := M) ⟨rfl, rfl⟩ ⟨⟨_, rfl⟩, hok, pvfr_0⟩
    · refine pw_eqI (if_neg c10_) ?_
      have b13_ : 0 ≤ Int32.toInt n1 ∧ Int32.toInt n1 ≤ 99999 := zr_nlt_r 99999 c10_ b9_ (show 99999 ≤ Int32.toInt 99999 ∧ Int32.toInt 99999 ≤ 99999 from (by decide)) (by decide)
      show PW 188 d (7, [some (pvR 0), some (pvI n1), some (pvI n2), none, none], [pvI 1], M) _
      refine pw_if hT (c := 1 = 0) rfl rfl (fun c14_ => absurd c14_ (by decide)) (fun c14_ => ?_)
      refine pw_blk hT 3 (S' := (13, [some (pvR 0), some (pvI n1), some (pvI n2), none, none], [pvI 1, pvI 0, pvI n2], M)) rfl ⟨trivial, trivial, trivial, trivial⟩ ?_
      refine pw_callT hT (as := [pvI n2, pvI 0, pvI 1]) (lo1 := [some (pvI n2), some (pvI 0), some (pvI 1)]) (d1 := d) (rest := []) rfl rfl rfl rfl rfl (fun h => absurd h (by decide)) (Nat.zero_le _) rfl rfl rfl (sf_X9_within_x_x_x M hok n2 0 1 d) ?_
      by_cases c20_ : n2 < 0
      · refine pw_eqI (if_pos c20_) ?_
        have b21_ : (-2147483648) ≤ Int32.toInt n2 ∧ Int32.toInt n2 ≤ (-1) := zr_lt_l (-1) c20_ (zbnd n2) (show 0 ≤ Int32.toInt 0 ∧ Int32.toInt 0 ≤ 0 from (by decide)) (by decide)
        show PW 188 d (16, [some (pvR 0), some (pvI n1), some (pvI n2), none, none], [pvI 0], M) _
        refine pw_ifn hT (c := 0 = 0) rfl rfl (fun c22_ => absurd (by decide) c22_) (fun c22_ => ?_)
        refine pw_blk hT 1 (S' := (22, [some (pvR 0), some (pvI n1), some (pvI n2), none, none], [pvJ (-9223372036854775808)], M)) rfl ⟨trivial, trivial⟩ ?_
        exact pw_ret hT rfl (r := some (pvJ (-9223372036854775808))) (M' := M) ⟨rfl, rfl⟩ ⟨⟨_, rfl⟩, hok, pvfr_0⟩
      · refine pw_eqI (if_neg c20_) ?_
        have b23_ : 0 ≤ Int32.toInt n2 ∧ Int32.toInt n2 ≤ 2147483647 := zr_nlt_l 0 c20_ (zbnd n2) (show 0 ≤ Int32.toInt 0 ∧ Int32.toInt 0 ≤ 0 from (by decide)) (by decide)
        by_cases c24_ : 1 < n2
        · refine pw_eqI (if_pos c24_) ?_
          have b25_ : 2 ≤ Int32.toInt n2 ∧ Int32.toInt n2 ≤ 2147483647 := zr_lt_r 2 c24_ b23_ (show 1 ≤ Int32.toInt 1 ∧ Int32.toInt 1 ≤ 1 from (by decide)) (by decide)
          show PW 188 d (16, [some (pvR 0), some (pvI n1), some (pvI n2), none, none], [pvI 0], M) _
          refine pw_ifn hT (c := 0 = 0) rfl rfl (fun c26_ => absurd (by decide) c26_) (fun c26_ => ?_)
          refine pw_blk hT 1 (S' := (22, [some (pvR 0), some (pvI n1), some (pvI n2), none, none], [pvJ (-9223372036854775808)], M)) rfl ⟨trivial, trivial⟩ ?_
          exact pw_ret hT rfl (r := some (pvJ (-9223372036854775808))) (M' := M) ⟨rfl, rfl⟩ ⟨⟨_, rfl⟩, hok, pvfr_0⟩
        · refine pw_eqI (if_neg c24_) ?_
          have b27_ : 0 ≤ Int32.toInt n2 ∧ Int32.toInt n2 ≤ 1 := zr_nlt_r 1 c24_ b23_ (show 1 ≤ Int32.toInt 1 ∧ Int32.toInt 1 ≤ 1 from (by decide)) (by decide)
          show PW 188 d (16, [some (pvR 0), some (pvI n1), some (pvI n2), none, none], [pvI 1], M) _
          refine pw_ifn hT (c := 1 = 0) rfl rfl (fun c28_ => ?_) (fun c28_ => absurd c28_ (by decide))
          refine pw_blk hT 2 (S' := (27, [some (pvR 0), some (pvI n1), some (pvI n2), none, none], [pvR 5], M)) rfl ⟨trivial, rfl, trivial⟩ ?_
          refine pw_callV hT (as := [pvR 5]) (lo1 := [some (pvR 5)]) (d1 := d) (rest := []) rfl rfl rfl rfl rfl (fun _ => rfl) (Nat.zero_le _) rfl rfl rfl (sf_X1_beginFromNow_5 M hok d) (fun M30_ o32_ g33_ => ?_)
          have f34_ : pvFr fp_X9_odds_0_x_x M M30_ := pvfr_t g33_ pvfr_0 fp_X9_odds_0_x_x_fp_X1_beginFromNow_5
          refine pw_blk hT 3 (S' := (35, [some (pvR 0), some (pvI n1), some (pvI n2), none, none], [pvI 0, pvR 5], M30_)) rfl ⟨trivial, rfl, trivial, trivial⟩ ?_
          refine pw_callG hT (as := [pvR 5, pvI 0]) (lo1 := [some (pvR 5), some (pvI 0)]) (d1 := d) (rest := []) rfl rfl rfl rfl rfl (fun _ => rfl) (Nat.zero_le _) rfl rfl rfl (sf_X1_goRound_5_x M30_ o32_ 0 (zr_wide (show 0 ≤ Int32.toInt 0 ∧ Int32.toInt 0 ≤ 0 from (by decide)) (by decide) (by decide)) d) (fun x35_ M36_ b37_ o38_ g39_ => ?_)
          have f40_ : pvFr fp_X9_odds_0_x_x M M36_ := pvfr_t g39_ f34_ fp_X9_odds_0_x_x_fp_X1_goRound_5_x
          refine pw_blk hT 5 (S' := (44, [some (pvR 0), some (pvI n1), some (pvI n2), some (pvI 0), some (pvI 0)], [], M36_)) rfl ⟨trivial, trivial, trivial, trivial, trivial, trivial⟩ ?_
          have hlz154_ : ∀ (nz154_ : Nat) (i3z154_ : Int32) (i4z154_ : Int32) (Mz154_ : pvM), (pvOk Mz154_) → (pvFr fp_X9_odds_0_x_x M Mz154_) → (0 ≤ Int32.toInt i3z154_ ∧ Int32.toInt i3z154_ ≤ 4) → (0 ≤ Int32.toInt i4z154_ ∧ Int32.toInt i4z154_ ≤ 4) → (Int32.toInt i3z154_ ≤ Int32.toInt i4z154_) → (zhide ((5 - Int32.toInt i4z154_).toNat < nz154_)) → PW 188 d (44, [some (pvR 0), some (pvI n1), some (pvI n2), some (pvI i3z154_), some (pvI i4z154_)], [], Mz154_) (fun r X => (∃ x : Int64, r = some (pvJ x)) ∧ pvOk X ∧ pvFr fp_X9_odds_0_x_x M X) := by
            intro nz154_
            induction nz154_ with
            | zero => intro i3z154_ i4z154_ Mz154_ oz154_ fz154_ h3z154_ h4z154_ j0z154_ hmz154_; exact absurd (zshow hmz154_) (Nat.not_lt_zero _)
            | succ nz154_ ihz154_ =>
              intro i3z154_ i4z154_ Mz154_ oz154_ fz154_ h3z154_ h4z154_ j0z154_ hmz154_
              refine pw_blk hT 2 (S' := (47, [some (pvR 0), some (pvI n1), some (pvI n2), some (pvI i3z154_), some (pvI i4z154_)], [pvI 4, pvI i4z154_], Mz154_)) rfl ⟨trivial, trivial, trivial⟩ ?_
              refine pw_ic hT (c := 4 ≤ i4z154_) rfl rfl (fun c155_ => ?_) (fun c155_ => ?_)
              · have b156_ : 4 ≤ Int32.toInt i4z154_ ∧ Int32.toInt i4z154_ ≤ 4 := zr_le_r 4 c155_ h4z154_ (show 4 ≤ Int32.toInt 4 ∧ Int32.toInt 4 ≤ 4 from (by decide)) (by decide)
                refine pw_blk hT 3 (S' := (82, [some (pvR 0), some (pvI n1), some (pvI n2), some (pvI i3z154_), some (pvI i4z154_)], [pvI n2, pvI 4, pvI i3z154_], Mz154_)) rfl ⟨trivial, trivial, trivial, trivial⟩ ?_
                refine pw_callJp hT (as := [pvI i3z154_, pvI 4, pvI n2]) (lo1 := [some (pvI i3z154_), some (pvI 4), some (pvI n2), none]) (d1 := d) (rest := []) rfl rfl rfl rfl rfl (fun h => absurd h (by decide)) (Nat.zero_le _) rfl rfl rfl (sf_X9_partOf_x_x_x Mz154_ oz154_ i3z154_ 4 n2 (zr_wide (show 4 ≤ Int32.toInt 4 ∧ Int32.toInt 4 ≤ 4 from (by decide)) (by decide) (by decide)) d) (fun x157_ b159_ => ?_)
                exact pw_ret hT rfl (r := some (pvJ x157_)) (M' := Mz154_) ⟨rfl, rfl⟩ ⟨⟨_, rfl⟩, oz154_, fz154_⟩
              · have b162_ : 0 ≤ Int32.toInt i4z154_ ∧ Int32.toInt i4z154_ ≤ 3 := zr_nle_r 3 c155_ h4z154_ (show 4 ≤ Int32.toInt 4 ∧ Int32.toInt 4 ≤ 4 from (by decide)) (by decide)
                refine pw_blk hT 3 (S' := (56, [some (pvR 0), some (pvI n1), some (pvI n2), some (pvI i3z154_), some (pvI i4z154_)], [pvI i4z154_, pvR 5], Mz154_)) rfl ⟨trivial, rfl, trivial, trivial⟩ ?_
                refine pw_callV hT (as := [pvR 5, pvI i4z154_]) (lo1 := [some (pvR 5), some (pvI i4z154_), none]) (d1 := d) (rest := []) rfl rfl rfl rfl rfl (fun _ => rfl) (Nat.zero_le _) rfl rfl rfl (sf_X1_turnTo_5_x Mz154_ oz154_ i4z154_ d) (fun M164_ o166_ g167_ => ?_)
                have f168_ : pvFr fp_X9_odds_0_x_x M M164_ := pvfr_t g167_ fz154_ fp_X9_odds_0_x_x_fp_X1_turnTo_5_x
                refine pw_blk hT 2 (S' := (63, [some (pvR 0), some (pvI n1), some (pvI n2), some (pvI i3z154_), some (pvI i4z154_)], [pvR 5], M164_)) rfl ⟨trivial, rfl, trivial⟩ ?_
                refine pw_callGp hT (as := [pvR 5]) (lo1 := [some (pvR 5)]) (d1 := d) (rest := []) rfl rfl rfl rfl rfl (fun _ => rfl) (Nat.zero_le _) rfl rfl rfl (sf_X1_cost_5 M164_ o166_ d) (fun x169_ b171_ => ?_)
                refine pw_blk hT 1 (S' := (67, [some (pvR 0), some (pvI n1), some (pvI n2), some (pvI i3z154_), some (pvI i4z154_)], [pvI n1, pvI x169_], M164_)) rfl ⟨trivial, trivial⟩ ?_
                refine pw_ic hT (c := n1 < x169_) rfl rfl (fun c174_ => ?_) (fun c174_ => ?_)
                · have b175_ : 1 ≤ Int32.toInt x169_ ∧ Int32.toInt x169_ ≤ 2147483647 := zr_lt_r 1 c174_ (zbnd x169_) b13_ (by decide)
                  have d176_ : Int32.toInt n1 < Int32.toInt x169_ := (zi_lt _ _).mp c174_
                  obtain ⟨q178_, b177_⟩ : (Int32.toInt (i4z154_ + 1) = Int32.toInt i4z154_ + 1) ∧ (1 ≤ Int32.toInt (i4z154_ + 1) ∧ Int32.toInt (i4z154_ + 1) ≤ 4) := zadd_k i4z154_ 1 1 1 4 b162_ (by decide) (by decide) (by decide) (by decide) (by decide)
                  refine pw_blk hT 2 (S' := (44, [some (pvR 0), some (pvI n1), some (pvI n2), some (pvI i3z154_), some (pvI (i4z154_ + 1))], [], M164_)) rfl ⟨trivial, trivial, trivial⟩ ?_
                  have j179_ : Int32.toInt i3z154_ ≤ Int32.toInt (i4z154_ + 1) := by omega
                  exact ihz154_ i3z154_ (i4z154_ + 1) M164_ o166_ f168_ h3z154_ (zr_wide b177_ (by decide) (by decide)) j179_ (zhid (pvms_up (zshow hmz154_) h4z154_ q178_ (by decide) (by decide)))
                · have b180_ : (-2147483648) ≤ Int32.toInt x169_ ∧ Int32.toInt x169_ ≤ 99999 := zr_nlt_r 99999 c174_ (zbnd x169_) b13_ (by decide)
                  have d181_ : Int32.toInt n1 ≥ Int32.toInt x169_ := Int.not_lt.mp ((not_congr (zi_lt _ _)).mp c174_)
                  obtain ⟨q183_, b182_⟩ : (Int32.toInt (i3z154_ + 1) = Int32.toInt i3z154_ + 1) ∧ (1 ≤ Int32.toInt (i3z154_ + 1) ∧ Int32.toInt (i3z154_ + 1) ≤ 5) := zadd_k i3z154_ 1 1 1 5 h3z154_ (by decide) (by decide) (by decide) (by decide) (by decide)
                  obtain ⟨q185_, b184_⟩ : (Int32.toInt (i4z154_ + 1) = Int32.toInt i4z154_ + 1) ∧ (1 ≤ Int32.toInt (i4z154_ + 1) ∧ Int32.toInt (i4z154_ + 1) ≤ 4) := zadd_k i4z154_ 1 1 1 4 b162_ (by decide) (by decide) (by decide) (by decide) (by decide)
                  refine pw_blk hT 3 (S' := (44, [some (pvR 0), some (pvI n1), some (pvI n2), some (pvI (i3z154_ + 1)), some (pvI (i4z154_ + 1))], [], M164_)) rfl ⟨trivial, trivial, trivial, trivial⟩ ?_
                  have j186_ : Int32.toInt (i3z154_ + 1) ≤ Int32.toInt (i4z154_ + 1) := by omega
                  exact ihz154_ (i3z154_ + 1) (i4z154_ + 1) M164_ o166_ f168_ (by have u0 := b182_; omega) (zr_wide b184_ (by decide) (by decide)) j186_ (zhid (pvms_up (zshow hmz154_) h4z154_ q185_ (by decide) (by decide)))
          have u187_ : Int32.toInt 0 = 0 := by decide
          have j188_ : Int32.toInt 0 ≤ Int32.toInt 0 := by omega
          exact hlz154_ _ 0 0 M36_ o38_ f40_ (zr_wide (show 0 ≤ Int32.toInt 0 ∧ Int32.toInt 0 ≤ 0 from (by decide)) (by decide) (by decide)) (zr_wide (show 0 ≤ Int32.toInt 0 ∧ Int32.toInt 0 ≤ 0 from (by decide)) (by decide) (by decide)) j188_ (zhid (Nat.lt_succ_self _))
def fpL_X9_of_0_x_x : List (Nat × Nat × Nat) := [(0, 12, 0), (0, 13, 0), (0, 14, 0), (0, 5, 2), (0, 5, 3), (1, 112, 0)]
def fp_X9_of_0_x_x (q k : Nat) : Bool := pvfp fpL_X9_of_0_x_x q k
theorem fp_X9_of_0_x_x_fp_X1_beginFromNow_5 (a b : Nat) (h : fp_X1_beginFromNow_5 a b = true) : fp_X9_of_0_x_x a b = true := pvfp_sub (l1 := fpL_X1_beginFromNow_5) (l2 := fpL_X9_of_0_x_x) (by decide) a b h
set_option maxHeartbeats 4000000 in
set_option maxRecDepth 10000 in
theorem sf_X9_of_0_x_x (M : pvM) (hok : pvOk M) (n1 : Int32) (n2 : Int32) (d : Nat) : PW 189 d (0, [some (pvR 0), some (pvI n1), some (pvI n2), none], [], M) (fun r X => (∃ x : Int32, r = some (pvI x) ∧ True) ∧ pvOk X ∧ pvFr fp_X9_of_0_x_x M X) := by
  have hT : pvdom 189 = pvD_189 := rfl
  refine pw_blk hT 3 (S' := (5, [some (pvR 0), some (pvI n1), some (pvI n2), none], [pvI n1, pvR 8], M)) rfl ⟨trivial, rfl, trivial, trivial⟩ ?_
  refine pw_callT hT (as := [pvR 8, pvI n1]) (lo1 := [some (pvR 8), some (pvI n1)]) (d1 := d) (rest := []) rfl rfl rfl rfl rfl (fun _ => rfl) (Nat.zero_le _) rfl rfl rfl (sf_X7_has_8_x M hok n1 d) ?_
  by_cases c6_ : n1 < 0
  · refine pw_eqI (if_pos c6_) ?_
    have b7_ : (-2147483648) ≤ Int32.toInt n1 ∧ Int32.toInt n1 ≤ (-1) := zr_lt_l (-1) c6_ (zbnd n1) (show 0 ≤ Int32.toInt 0 ∧ Int32.toInt 0 ≤ 0 from (by decide)) (by decide)
    show PW 189 d (8, [some (pvR 0), some (pvI n1), some (pvI n2), none], [pvI 0], M) _
    refine pw_ifn hT (c := 0 = 0) rfl rfl (fun c8_ => absurd (by decide) c8_) (fun c8_ => ?_)
    refine pw_blk hT 1 (S' := (12, [some (pvR 0), some (pvI n1), some (pvI n2), none], [pvI (-1)], M)) rfl ⟨trivial, trivial⟩ ?_
    exact pw_ret hT rfl (r := some (pvI (-1))) (M' := M) ⟨rfl, rfl⟩ ⟨⟨_, rfl, trivial⟩, hok, pvfr_0⟩
  · refine pw_eqI (if_neg c6_) ?_
    have b9_ : 0 ≤ Int32.toInt n1 ∧ Int32.toInt n1 ≤ 2147483647 := zr_nlt_l 0 c6_ (zbnd n1) (show 0 ≤ Int32.toInt 0 ∧ Int32.toInt 0 ≤ 0 from (by decide)) (by decide)
    have b10_ : 0 ≤ Int32.toInt (M.1 8 1) ∧ Int32.toInt (M.1 8 1) ≤ 7 := pvok_r hok 8 1 rfl
    by_cases c11_ : (M.1 8 1) ≤ n1
    · refine pw_eqI (if_pos c11_) ?_
      have d12_ : Int32.toInt (M.1 8 1) ≤ Int32.toInt n1 := (zi_le _ _).mp c11_
      show PW 189 d (8, [some (pvR 0), some (pvI n1), some (pvI n2), none], [pvI 0], M) _
      refine pw_ifn hT (c := 0 = 0) rfl rfl (fun c13_ => absurd (by decide) c13_) (fun c13_ => ?_)
      refine pw_blk hT 1 (S' := (12, [some (pvR 0), some (pvI n1), some (pvI n2), none], [pvI (-1)], M)) rfl ⟨trivial, trivial⟩ ?_
      exact pw_ret hT rfl (r := some (pvI (-1))) (M' := M) ⟨rfl, rfl⟩ ⟨⟨_, rfl, trivial⟩, hok, pvfr_0⟩
    · refine pw_eqI (if_neg c11_) ?_
      have b14_ : 1 ≤ Int32.toInt (M.1 8 1) ∧ Int32.toInt (M.1 8 1) ≤ 7 := zr_nle_l 1 c11_ b10_ b9_ (by decide)
      have b15_ : 0 ≤ Int32.toInt n1 ∧ Int32.toInt n1 ≤ 6 := zr_nle_r 6 c11_ b9_ b14_ (by decide)
      have d16_ : Int32.toInt (M.1 8 1) > Int32.toInt n1 := Int.not_le.mp ((not_congr (zi_le _ _)).mp c11_)
      show PW 189 d (8, [some (pvR 0), some (pvI n1), some (pvI n2), none], [pvI 1], M) _
      refine pw_ifn hT (c := 1 = 0) rfl rfl (fun c17_ => ?_) (fun c17_ => absurd c17_ (by decide))
      refine pw_blkr hT 5 (pc := 22) (lo := [some (pvR 0), some (pvI n1), some (pvI n2), none]) (st := []) (M := M) (z := (pvbs 10 + Int32.toNatClampNeg n1)) rfl ⟨trivial, rfl, rfl, trivial, ⟨rfl, (zr_in (n := 7) b15_ (by decide) (by decide))⟩, trivial⟩ (fun q18_ e20_ => ?_)
      have k19_ : pvkl q18_ = 3 := pvel_10 (zr_in (n := 7) b15_ (by decide) (by decide)) e20_
      refine pw_blk hT 2 (S' := (24, [some (pvR 0), some (pvI n1), some (pvI n2), some (pvR q18_)], [pvI n2], M)) rfl ⟨trivial, trivial, trivial⟩ ?_
      refine pw_sw hT rfl rfl ?_
      refine And.intro (fun c21_ => ?_) (fun c21_ => ?_)
      · show PW 189 d (72, [some (pvR 0), some (pvI n1), some (pvI n2), some (pvR q18_)], [], M) _
        have b22_ : 0 ≤ Int32.toInt n2 ∧ Int32.toInt n2 ≤ 0 := (by have u0 := (zbnd n2); have u1 := (zi_eq _ _).mp c21_; have u2 := (show 0 ≤ Int32.toInt 0 ∧ Int32.toInt 0 ≤ 0 from (by decide)); omega)
        have b23_ : 0 ≤ Int32.toInt (M.1 q18_ 0) ∧ Int32.toInt (M.1 q18_ 0) ≤ 6 := pvok_r hok q18_ 0 ((pvrg_o 0 k19_ (by decide) (by decide)).trans rfl)
        refine pw_blk hT 2 (S' := (76, [some (pvR 0), some (pvI n1), some (pvI n2), some (pvR q18_)], [pvI (M.1 q18_ 0)], M)) rfl ⟨trivial, k19_, trivial⟩ ?_
        exact pw_ret hT rfl (r := some (pvI (M.1 q18_ 0))) (M' := M) ⟨rfl, rfl⟩ ⟨⟨_, rfl, trivial⟩, hok, pvfr_0⟩
      · refine And.intro (fun c24_ => ?_) (fun c24_ => ?_)
        · show PW 189 d (77, [some (pvR 0), some (pvI n1), some (pvI n2), some (pvR q18_)], [], M) _
          have b25_ : 1 ≤ Int32.toInt n2 ∧ Int32.toInt n2 ≤ 1 := (by have u0 := (zbnd n2); have u1 := (zi_eq _ _).mp c24_; have u2 := (show 1 ≤ Int32.toInt 1 ∧ Int32.toInt 1 ≤ 1 from (by decide)); omega)
          have b26_ : 0 ≤ Int32.toInt (M.1 q18_ 1) ∧ Int32.toInt (M.1 q18_ 1) ≤ 9 := pvok_r hok q18_ 1 ((pvrg_o 1 k19_ (by decide) (by decide)).trans rfl)
          refine pw_blk hT 2 (S' := (81, [some (pvR 0), some (pvI n1), some (pvI n2), some (pvR q18_)], [pvI (M.1 q18_ 1)], M)) rfl ⟨trivial, k19_, trivial⟩ ?_
          exact pw_ret hT rfl (r := some (pvI (M.1 q18_ 1))) (M' := M) ⟨rfl, rfl⟩ ⟨⟨_, rfl, trivial⟩, hok, pvfr_0⟩
        · refine And.intro (fun c27_ => ?_) (fun c27_ => ?_)
          · show PW 189 d (82, [some (pvR 0), some (pvI n1), some (pvI n2), some (pvR q18_)], [], M) _
            have b28_ : 2 ≤ Int32.toInt n2 ∧ Int32.toInt n2 ≤ 2 := (by have u0 := (zbnd n2); have u1 := (zi_eq _ _).mp c27_; have u2 := (show 2 ≤ Int32.toInt 2 ∧ Int32.toInt 2 ≤ 2 from (by decide)); omega)
            have b29_ : 0 ≤ Int32.toInt (M.1 q18_ 2) ∧ Int32.toInt (M.1 q18_ 2) ≤ 3 := pvok_r hok q18_ 2 ((pvrg_o 2 k19_ (by decide) (by decide)).trans rfl)
            refine pw_blk hT 2 (S' := (86, [some (pvR 0), some (pvI n1), some (pvI n2), some (pvR q18_)], [pvI (M.1 q18_ 2)], M)) rfl ⟨trivial, k19_, trivial⟩ ?_
            exact pw_ret hT rfl (r := some (pvI (M.1 q18_ 2))) (M' := M) ⟨rfl, rfl⟩ ⟨⟨_, rfl, trivial⟩, hok, pvfr_0⟩
          · refine And.intro (fun c30_ => ?_) (fun c30_ => ?_)
            · show PW 189 d (87, [some (pvR 0), some (pvI n1), some (pvI n2), some (pvR q18_)], [], M) _
              have b31_ : 3 ≤ Int32.toInt n2 ∧ Int32.toInt n2 ≤ 3 := (by have u0 := (zbnd n2); have u1 := (zi_eq _ _).mp c30_; have u2 := (show 3 ≤ Int32.toInt 3 ∧ Int32.toInt 3 ≤ 3 from (by decide)); omega)
              have b32_ : 0 ≤ Int32.toInt (M.1 q18_ 3) ∧ Int32.toInt (M.1 q18_ 3) ≤ 4 := pvok_r hok q18_ 3 ((pvrg_o 3 k19_ (by decide) (by decide)).trans rfl)
              refine pw_blk hT 2 (S' := (91, [some (pvR 0), some (pvI n1), some (pvI n2), some (pvR q18_)], [pvI (M.1 q18_ 3)], M)) rfl ⟨trivial, k19_, trivial⟩ ?_
              exact pw_ret hT rfl (r := some (pvI (M.1 q18_ 3))) (M' := M) ⟨rfl, rfl⟩ ⟨⟨_, rfl, trivial⟩, hok, pvfr_0⟩
            · refine And.intro (fun c33_ => ?_) (fun c33_ => ?_)
              · show PW 189 d (92, [some (pvR 0), some (pvI n1), some (pvI n2), some (pvR q18_)], [], M) _
                have b34_ : 4 ≤ Int32.toInt n2 ∧ Int32.toInt n2 ≤ 4 := (by have u0 := (zbnd n2); have u1 := (zi_eq _ _).mp c33_; have u2 := (show 4 ≤ Int32.toInt 4 ∧ Int32.toInt 4 ≤ 4 from (by decide)); omega)
                have b35_ : 0 ≤ Int32.toInt (M.1 q18_ 4) ∧ Int32.toInt (M.1 q18_ 4) ≤ 9 := pvok_r hok q18_ 4 ((pvrg_o 4 k19_ (by decide) (by decide)).trans rfl)
                refine pw_blk hT 2 (S' := (96, [some (pvR 0), some (pvI n1), some (pvI n2), some (pvR q18_)], [pvI (M.1 q18_ 4)], M)) rfl ⟨trivial, k19_, trivial⟩ ?_
                exact pw_ret hT rfl (r := some (pvI (M.1 q18_ 4))) (M' := M) ⟨rfl, rfl⟩ ⟨⟨_, rfl, trivial⟩, hok, pvfr_0⟩
              · refine And.intro (fun c36_ => ?_) (fun c36_ => ?_)
                · show PW 189 d (97, [some (pvR 0), some (pvI n1), some (pvI n2), some (pvR q18_)], [], M) _
                  have b37_ : 5 ≤ Int32.toInt n2 ∧ Int32.toInt n2 ≤ 5 := (by have u0 := (zbnd n2); have u1 := (zi_eq _ _).mp c36_; have u2 := (show 5 ≤ Int32.toInt 5 ∧ Int32.toInt 5 ≤ 5 from (by decide)); omega)
                  have b38_ : 0 ≤ Int32.toInt (M.1 q18_ 5) ∧ Int32.toInt (M.1 q18_ 5) ≤ 1 := pvok_r hok q18_ 5 ((pvrg_o 5 k19_ (by decide) (by decide)).trans rfl)
                  refine pw_blk hT 2 (S' := (101, [some (pvR 0), some (pvI n1), some (pvI n2), some (pvR q18_)], [pvI (M.1 q18_ 5)], M)) rfl ⟨trivial, k19_, trivial⟩ ?_
                  refine pw_if hT (c := (M.1 q18_ 5) = 0) rfl rfl (fun c39_ => ?_) (fun c39_ => ?_)
                  · have b40_ : 0 ≤ Int32.toInt (M.1 q18_ 5) ∧ Int32.toInt (M.1 q18_ 5) ≤ 0 := (by have u0 := b38_; have u1 := (zi_eq _ _).mp c39_; have u2 := (show 0 ≤ Int32.toInt 0 ∧ Int32.toInt 0 ≤ 0 from (by decide)); omega)
                    refine pw_blk hT 1 (S' := (109, [some (pvR 0), some (pvI n1), some (pvI n2), some (pvR q18_)], [pvI 0], M)) rfl ⟨trivial, trivial⟩ ?_
                    exact pw_ret hT rfl (r := some (pvI 0)) (M' := M) ⟨rfl, rfl⟩ ⟨⟨_, rfl, trivial⟩, hok, pvfr_0⟩
                  · have b41_ : 1 ≤ Int32.toInt (M.1 q18_ 5) ∧ Int32.toInt (M.1 q18_ 5) ≤ 1 := (by have u0 := b38_; have u1 := (not_congr (zi_eq _ _)).mp c39_; have u2 := (show 0 ≤ Int32.toInt 0 ∧ Int32.toInt 0 ≤ 0 from (by decide)); omega)
                    refine pw_blk hT 2 (S' := (109, [some (pvR 0), some (pvI n1), some (pvI n2), some (pvR q18_)], [pvI 1], M)) rfl ⟨trivial, trivial, trivial⟩ ?_
                    exact pw_ret hT rfl (r := some (pvI 1)) (M' := M) ⟨rfl, rfl⟩ ⟨⟨_, rfl, trivial⟩, hok, pvfr_0⟩
                · refine And.intro (fun c42_ => ?_) (fun c42_ => ?_)
                  · show PW 189 d (110, [some (pvR 0), some (pvI n1), some (pvI n2), some (pvR q18_)], [], M) _
                    have b43_ : 6 ≤ Int32.toInt n2 ∧ Int32.toInt n2 ≤ 6 := (by have u0 := (zbnd n2); have u1 := (zi_eq _ _).mp c42_; have u2 := (show 6 ≤ Int32.toInt 6 ∧ Int32.toInt 6 ≤ 6 from (by decide)); omega)
                    have b44_ : 0 ≤ Int32.toInt (M.1 8 6) ∧ Int32.toInt (M.1 8 6) ≤ 3 := pvok_r hok 8 6 rfl
                    have b45_ : 0 ≤ Int32.toInt (M.1 8 7) ∧ Int32.toInt (M.1 8 7) ≤ 4 := pvok_r hok 8 7 rfl
                    have b46_ : 15 ≤ Int32.toInt (M.1 8 8) ∧ Int32.toInt (M.1 8 8) ≤ 23 := pvok_r hok 8 8 rfl
                    refine pw_blkr hT 10 (pc := 132) (lo := [some (pvR 0), some (pvI n1), some (pvI n2), some (pvR q18_)]) (st := [pvI (M.1 8 7), pvI (M.1 8 6), pvR q18_]) (M := M) (z := (pvhp (M.1 8 8))) rfl ⟨trivial, trivial, rfl, rfl, trivial, rfl, rfl, trivial, rfl, rfl, trivial⟩ (fun q47_ e49_ => ?_)
                    have k48_ : pvkl q47_ = 2 := pvhp_k b46_ e49_
                    have b50_ : 0 ≤ Int32.toInt (M.1 q47_ 0) ∧ Int32.toInt (M.1 q47_ 0) ≤ 99 := pvok_r hok q47_ 0 ((pvrg_o 0 k48_ (by decide) (by decide)).trans rfl)
                    refine pw_blk hT 1 (S' := (135, [some (pvR 0), some (pvI n1), some (pvI n2), some (pvR q18_)], [pvI (M.1 q47_ 0), pvI (M.1 8 7), pvI (M.1 8 6), pvR q18_], M)) rfl ⟨k48_, trivial⟩ ?_
                    refine pw_callGp hT (as := [pvR q18_, pvI (M.1 8 6), pvI (M.1 8 7), pvI (M.1 q47_ 0)]) (lo1 := [some (pvR q18_), some (pvI (M.1 8 6)), some (pvI (M.1 8 7)), some (pvI (M.1 q47_ 0))]) (d1 := d) (rest := []) rfl rfl rfl rfl rfl (fun _ => k19_) (Nat.zero_le _) rfl rfl rfl (sf_X4_wayFrom_x_x_x_x M hok q18_ (M.1 8 6) (M.1 8 7) (M.1 q47_ 0) k19_ b44_ b45_ b50_ d) (fun x51_ b53_ => ?_)
                    exact pw_ret hT rfl (r := some (pvI x51_)) (M' := M) ⟨rfl, rfl⟩ ⟨⟨_, rfl, trivial⟩, hok, pvfr_0⟩
                  · refine And.intro (fun c56_ => ?_) (fun c56_ => ?_)
                    · show PW 189 d (139, [some (pvR 0), some (pvI n1), some (pvI n2), some (pvR q18_)], [], M) _
                      have b57_ : 7 ≤ Int32.toInt n2 ∧ Int32.toInt n2 ≤ 7 := (by have u0 := (zbnd n2); have u1 := (zi_eq _ _).mp c56_; have u2 := (show 7 ≤ Int32.toInt 7 ∧ Int32.toInt 7 ≤ 7 from (by decide)); omega)
                      refine pw_blk hT 2 (S' := (143, [some (pvR 0), some (pvI n1), some (pvI n2), some (pvR q18_)], [pvR 5], M)) rfl ⟨trivial, rfl, trivial⟩ ?_
                      refine pw_callV hT (as := [pvR 5]) (lo1 := [some (pvR 5)]) (d1 := d) (rest := []) rfl rfl rfl rfl rfl (fun _ => rfl) (Nat.zero_le _) rfl rfl rfl (sf_X1_beginFromNow_5 M hok d) (fun M59_ o61_ g62_ => ?_)
                      have f63_ : pvFr fp_X9_of_0_x_x M M59_ := pvfr_t g62_ pvfr_0 fp_X9_of_0_x_x_fp_X1_beginFromNow_5
                      have b64_ : 0 ≤ Int32.toInt (M59_.1 8 4) ∧ Int32.toInt (M59_.1 8 4) ≤ 9999 := pvok_r o61_ 8 4 rfl
                      obtain ⟨q66_, b65_⟩ : (Int32.toInt ((M59_.1 8 4) + 1) = Int32.toInt (M59_.1 8 4) + 1) ∧ (1 ≤ Int32.toInt ((M59_.1 8 4) + 1) ∧ Int32.toInt ((M59_.1 8 4) + 1) ≤ 10000) := zadd_k (M59_.1 8 4) 1 1 1 10000 b64_ (by decide) (by decide) (by decide) (by decide) (by decide)
                      refine pw_blk hT 11 (S' := (167, [some (pvR 0), some (pvI n1), some (pvI n2), some (pvR q18_)], [pvI ((M59_.1 8 4) + 1), pvI (M59_.1 8 4), pvI n1, pvR 5], M59_)) rfl ⟨trivial, rfl, trivial, trivial, rfl, rfl, trivial, rfl, rfl, trivial, trivial, trivial⟩ ?_
                      refine pw_callGp hT (as := [pvR 5, pvI n1, pvI (M59_.1 8 4), pvI ((M59_.1 8 4) + 1)]) (lo1 := [some (pvR 5), some (pvI n1), some (pvI (M59_.1 8 4)), some (pvI ((M59_.1 8 4) + 1)), none, none, none, none]) (d1 := d) (rest := []) rfl rfl rfl rfl rfl (fun _ => rfl) (Nat.zero_le _) rfl rfl rfl (sf_X1_harmOf_5_x_x_x M59_ o61_ n1 (M59_.1 8 4) ((M59_.1 8 4) + 1) b15_ (zr_wide b64_ (by decide) (by decide)) (zr_wide b65_ (by decide) (by decide)) d) (fun x67_ b69_ => ?_)
                      exact pw_ret hT rfl (r := some (pvI x67_)) (M' := M59_) ⟨rfl, rfl⟩ ⟨⟨_, rfl, trivial⟩, o61_, f63_⟩
                    · show PW 189 d (171, [some (pvR 0), some (pvI n1), some (pvI n2), some (pvR q18_)], [], M) _
                      refine pw_blk hT 1 (S' := (172, [some (pvR 0), some (pvI n1), some (pvI n2), some (pvR q18_)], [pvI (-1)], M)) rfl ⟨trivial, trivial⟩ ?_
                      exact pw_ret hT rfl (r := some (pvI (-1))) (M' := M) ⟨rfl, rfl⟩ ⟨⟨_, rfl, trivial⟩, hok, pvfr_0⟩
