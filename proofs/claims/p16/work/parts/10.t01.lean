set_option maxHeartbeats 4000000 in
set_option maxRecDepth 10000 in
theorem sf_X10_harmAt_124_x (M : pvM) (hok : pvOk M) (n1 : Int32) (hn1 : 0 ≤ Int32.toInt n1 ∧ Int32.toInt n1 ≤ 200000) (d : Nat) : PW 27 d (0, [some (pvR 124), some (pvI n1), none, none], [], M) (fun r X => (∃ x : Int32, r = some (pvI x) ∧ 0 ≤ Int32.toInt x ∧ Int32.toInt x ≤ 84700) ∧ X = M) := by
  have hT : pvdom 27 = pvD_27 := rfl
  refine pw_blk hT 4 (S' := (4, [some (pvR 124), some (pvI n1), some (pvI 0), some (pvI 0)], [], M)) rfl ⟨trivial, trivial, trivial, trivial, trivial⟩ ?_
  have hlz47_ : ∀ (nz47_ : Nat) (i2z47_ : Int32) (i3z47_ : Int32), (0 ≤ Int32.toInt i2z47_ ∧ Int32.toInt i2z47_ ≤ 84700) → (0 ≤ Int32.toInt i3z47_ ∧ Int32.toInt i3z47_ ≤ 7) → (Int32.toInt i2z47_ ≤ 12100 * Int32.toInt i3z47_) → (0 ≤ Int32.toInt i2z47_) → (zhide ((8 - Int32.toInt i3z47_).toNat < nz47_)) → PW 27 d (4, [some (pvR 124), some (pvI n1), some (pvI i2z47_), some (pvI i3z47_)], [], M) (fun r X => (∃ x : Int32, r = some (pvI x) ∧ 0 ≤ Int32.toInt x ∧ Int32.toInt x ≤ 84700) ∧ X = M) := by
    intro nz47_
    induction nz47_ with
    | zero => intro i2z47_ i3z47_ h2z47_ h3z47_ j0z47_ j1z47_ hmz47_; exact absurd (zshow hmz47_) (Nat.not_lt_zero _)
    | succ nz47_ ihz47_ =>
      intro i2z47_ i3z47_ h2z47_ h3z47_ j0z47_ j1z47_ hmz47_
      have b48_ : 0 ≤ Int32.toInt (M.1 124 0) ∧ Int32.toInt (M.1 124 0) ≤ 7 := pvok_r hok 124 0 rfl
      refine pw_blk hT 3 (S' := (9, [some (pvR 124), some (pvI n1), some (pvI i2z47_), some (pvI i3z47_)], [pvI (M.1 124 0), pvI i3z47_], M)) rfl ⟨trivial, trivial, rfl, trivial⟩ ?_
      refine pw_ic hT (c := (M.1 124 0) ≤ i3z47_) rfl rfl (fun c49_ => ?_) (fun c49_ => ?_)
      · have d50_ : Int32.toInt (M.1 124 0) ≤ Int32.toInt i3z47_ := (zi_le _ _).mp c49_
        refine pw_blk hT 1 (S' := (28, [some (pvR 124), some (pvI n1), some (pvI i2z47_), some (pvI i3z47_)], [pvI i2z47_], M)) rfl ⟨trivial, trivial⟩ ?_
        exact pw_ret hT rfl (r := some (pvI i2z47_)) (M' := M) ⟨rfl, rfl⟩ ⟨⟨_, rfl, h2z47_⟩, rfl⟩
      · have b51_ : 1 ≤ Int32.toInt (M.1 124 0) ∧ Int32.toInt (M.1 124 0) ≤ 7 := zr_nle_l 1 c49_ b48_ h3z47_ (by decide)
        have b52_ : 0 ≤ Int32.toInt i3z47_ ∧ Int32.toInt i3z47_ ≤ 6 := zr_nle_r 6 c49_ h3z47_ b51_ (by decide)
        have d53_ : Int32.toInt (M.1 124 0) > Int32.toInt i3z47_ := Int.not_le.mp ((not_congr (zi_le _ _)).mp c49_)
        refine pw_blk hT 4 (S' := (16, [some (pvR 124), some (pvI n1), some (pvI i2z47_), some (pvI i3z47_)], [pvI n1, pvI i3z47_, pvR 124, pvI i2z47_], M)) rfl ⟨trivial, trivial, trivial, trivial, trivial⟩ ?_
        refine pw_callGp hT (as := [pvR 124, pvI i3z47_, pvI n1]) (lo1 := [some (pvR 124), some (pvI i3z47_), some (pvI n1), none, none]) (d1 := d) (rest := [pvI i2z47_]) rfl rfl rfl rfl rfl (fun _ => rfl) (Nat.zero_le _) rfl rfl rfl (sf_X10_harm_124_x_x M hok i3z47_ n1 b52_ hn1 d) (fun x54_ b56_ => ?_)
        obtain ⟨q60_, b59_⟩ : (Int32.toInt (i2z47_ + x54_) = Int32.toInt i2z47_ + Int32.toInt x54_) ∧ (0 ≤ Int32.toInt (i2z47_ + x54_) ∧ Int32.toInt (i2z47_ + x54_) ≤ 96709) := zadd_r i2z47_ x54_ 0 96709 h2z47_ b56_ (by decide) (by decide) (by decide) (by decide)
        obtain ⟨q62_, b61_⟩ : (Int32.toInt (i3z47_ + 1) = Int32.toInt i3z47_ + 1) ∧ (1 ≤ Int32.toInt (i3z47_ + 1) ∧ Int32.toInt (i3z47_ + 1) ≤ 7) := zadd_k i3z47_ 1 1 1 7 b52_ (by decide) (by decide) (by decide) (by decide) (by decide)
        refine pw_blk hT 4 (S' := (4, [some (pvR 124), some (pvI n1), some (pvI (i2z47_ + x54_)), some (pvI (i3z47_ + 1))], [], M)) rfl ⟨trivial, trivial, trivial, trivial, trivial⟩ ?_
        have j63_ : Int32.toInt (i2z47_ + x54_) ≤ 12100 * Int32.toInt (i3z47_ + 1) := by omega
        have j64_ : 0 ≤ Int32.toInt (i2z47_ + x54_) := by omega
        exact ihz47_ (i2z47_ + x54_) (i3z47_ + 1) (by have u0 := b59_; omega) (zr_wide b61_ (by decide) (by decide)) j63_ j64_ (zhid (pvms_up (zshow hmz47_) h3z47_ q62_ (by decide) (by decide)))
  have u65_ : Int32.toInt 0 = 0 := by decide
  have j66_ : Int32.toInt 0 ≤ 12100 * Int32.toInt 0 := by omega
  have j67_ : 0 ≤ Int32.toInt 0 := by omega
  exact hlz47_ _ 0 0 (zr_wide (show 0 ≤ Int32.toInt 0 ∧ Int32.toInt 0 ≤ 0 from (by decide)) (by decide) (by decide)) (zr_wide (show 0 ≤ Int32.toInt 0 ∧ Int32.toInt 0 ≤ 0 from (by decide)) (by decide) (by decide)) j66_ j67_ (zhid (Nat.lt_succ_self _))
set_option maxHeartbeats 4000000 in
set_option maxRecDepth 10000 in
theorem sf_X10_harmFrom_124_x_x (M : pvM) (hok : pvOk M) (n1 : Int32) (n2 : Int32) (hn1 : 0 ≤ Int32.toInt n1 ∧ Int32.toInt n1 ≤ 200000) (hn2 : 0 ≤ Int32.toInt n2 ∧ Int32.toInt n2 ≤ 200000) (d : Nat) : PW 28 d (0, [some (pvR 124), some (pvI n1), some (pvI n2), none, none], [], M) (fun r X => (∃ x : Int32, r = some (pvI x) ∧ 0 ≤ Int32.toInt x ∧ Int32.toInt x ≤ 9000000) ∧ X = M) := by
  have hT : pvdom 28 = pvD_28 := rfl
  have b1_ : 0 ≤ Int32.toInt (M.1 124 3) ∧ Int32.toInt (M.1 124 3) ≤ 108 := pvok_r hok 124 3 rfl
  refine pw_blk hT 5 (S' := (7, [some (pvR 124), some (pvI n1), some (pvI n2), some (pvI 0), none], [pvI (M.1 124 3), pvI n1], M)) rfl ⟨trivial, trivial, trivial, trivial, rfl, trivial⟩ ?_
  refine pw_ic hT (c := (M.1 124 3) ≤ n1) rfl rfl (fun c2_ => ?_) (fun c2_ => ?_)
  · have d3_ : Int32.toInt (M.1 124 3) ≤ Int32.toInt n1 := (zi_le _ _).mp c2_
    refine pw_blk hT 2 (S' := (20, [some (pvR 124), some (pvI n1), some (pvI n2), some (pvI 0), some (pvI n1)], [], M)) rfl ⟨trivial, trivial, trivial⟩ ?_
    have hlz83_ : ∀ (nz83_ : Nat) (i3z83_ : Int32) (i4z83_ : Int32), (0 ≤ Int32.toInt i3z83_ ∧ Int32.toInt i3z83_ ≤ 9000000) → (0 ≤ Int32.toInt i4z83_ ∧ Int32.toInt i4z83_ ≤ 200000) → (Int32.toInt i3z83_ ≤ 90000 * (Int32.toInt i4z83_ - Int32.toInt (M.1 124 3))) → (0 ≤ Int32.toInt i3z83_) → (Int32.toInt (M.1 124 3) ≤ Int32.toInt i4z83_) → (Int32.toInt i4z83_ ≤ Int32.toInt (M.1 124 3) + 99 ∨ Int32.toInt i3z83_ = 0) → (zhide ((200001 - Int32.toInt i4z83_).toNat < nz83_)) → PW 28 d (20, [some (pvR 124), some (pvI n1), some (pvI n2), some (pvI i3z83_), some (pvI i4z83_)], [], M) (fun r X => (∃ x : Int32, r = some (pvI x) ∧ 0 ≤ Int32.toInt x ∧ Int32.toInt x ≤ 9000000) ∧ X = M) := by
      intro nz83_
      induction nz83_ with
      | zero => intro i3z83_ i4z83_ h3z83_ h4z83_ j0z83_ j1z83_ j2z83_ j3z83_ hmz83_; exact absurd (zshow hmz83_) (Nat.not_lt_zero _)
      | succ nz83_ ihz83_ =>
        intro i3z83_ i4z83_ h3z83_ h4z83_ j0z83_ j1z83_ j2z83_ j3z83_ hmz83_
        refine pw_blk hT 2 (S' := (23, [some (pvR 124), some (pvI n1), some (pvI n2), some (pvI i3z83_), some (pvI i4z83_)], [pvI n2, pvI i4z83_], M)) rfl ⟨trivial, trivial, trivial⟩ ?_
        refine pw_ic hT (c := n2 ≤ i4z83_) rfl rfl (fun c84_ => ?_) (fun c84_ => ?_)
        · have d85_ : Int32.toInt n2 ≤ Int32.toInt i4z83_ := (zi_le _ _).mp c84_
          refine pw_blk hT 1 (S' := (56, [some (pvR 124), some (pvI n1), some (pvI n2), some (pvI i3z83_), some (pvI i4z83_)], [pvI i3z83_], M)) rfl ⟨trivial, trivial⟩ ?_
          exact pw_ret hT rfl (r := some (pvI i3z83_)) (M' := M) ⟨rfl, rfl⟩ ⟨⟨_, rfl, h3z83_⟩, rfl⟩
        · have b86_ : 1 ≤ Int32.toInt n2 ∧ Int32.toInt n2 ≤ 200000 := zr_nle_l 1 c84_ hn2 h4z83_ (by decide)
          have b87_ : 0 ≤ Int32.toInt i4z83_ ∧ Int32.toInt i4z83_ ≤ 199999 := zr_nle_r 199999 c84_ h4z83_ b86_ (by decide)
          have d88_ : Int32.toInt n2 > Int32.toInt i4z83_ := Int.not_le.mp ((not_congr (zi_le _ _)).mp c84_)
          refine pw_blk hT 4 (S' := (33, [some (pvR 124), some (pvI n1), some (pvI n2), some (pvI i3z83_), some (pvI i4z83_)], [pvR 124, pvI (M.1 124 3), pvI i4z83_], M)) rfl ⟨trivial, trivial, rfl, trivial, trivial⟩ ?_
          refine pw_callGp hT (as := [pvR 124]) (lo1 := [some (pvR 124)]) (d1 := d) (rest := [pvI (M.1 124 3), pvI i4z83_]) rfl rfl rfl rfl rfl (fun _ => rfl) (Nat.zero_le _) rfl rfl rfl (sf_X10_lastNow_124 M hok d) (fun x89_ b91_ => ?_)
          obtain ⟨q95_, b94_⟩ : (Int32.toInt ((M.1 124 3) + x89_) = Int32.toInt (M.1 124 3) + Int32.toInt x89_) ∧ (0 ≤ Int32.toInt ((M.1 124 3) + x89_) ∧ Int32.toInt ((M.1 124 3) + x89_) ≤ 207) := zadd_r (M.1 124 3) x89_ 0 207 b1_ b91_ (by decide) (by decide) (by decide) (by decide)
          refine pw_blk hT 1 (S' := (37, [some (pvR 124), some (pvI n1), some (pvI n2), some (pvI i3z83_), some (pvI i4z83_)], [pvI ((M.1 124 3) + x89_), pvI i4z83_], M)) rfl ⟨trivial, trivial⟩ ?_
          refine pw_ic hT (c := ((M.1 124 3) + x89_) ≤ i4z83_) rfl rfl (fun c96_ => ?_) (fun c96_ => ?_)
          · have d97_ : Int32.toInt ((M.1 124 3) + x89_) ≤ Int32.toInt i4z83_ := (zi_le _ _).mp c96_
            refine pw_blk hT 1 (S' := (56, [some (pvR 124), some (pvI n1), some (pvI n2), some (pvI i3z83_), some (pvI i4z83_)], [pvI i3z83_], M)) rfl ⟨trivial, trivial⟩ ?_
            exact pw_ret hT rfl (r := some (pvI i3z83_)) (M' := M) ⟨rfl, rfl⟩ ⟨⟨_, rfl, h3z83_⟩, rfl⟩
          · have b98_ : 1 ≤ Int32.toInt ((M.1 124 3) + x89_) ∧ Int32.toInt ((M.1 124 3) + x89_) ≤ 207 := zr_nle_l 1 c96_ b94_ b87_ (by decide)
            have b99_ : 0 ≤ Int32.toInt i4z83_ ∧ Int32.toInt i4z83_ ≤ 206 := zr_nle_r 206 c96_ b87_ b98_ (by decide)
            have d100_ : Int32.toInt ((M.1 124 3) + x89_) > Int32.toInt i4z83_ := Int.not_le.mp ((not_congr (zi_le _ _)).mp c96_)
            refine pw_blk hT 3 (S' := (44, [some (pvR 124), some (pvI n1), some (pvI n2), some (pvI i3z83_), some (pvI i4z83_)], [pvI i4z83_, pvR 124, pvI i3z83_], M)) rfl ⟨trivial, trivial, trivial, trivial⟩ ?_
            refine pw_callGp hT (as := [pvR 124, pvI i4z83_]) (lo1 := [some (pvR 124), some (pvI i4z83_), none, none]) (d1 := d) (rest := [pvI i3z83_]) rfl rfl rfl rfl rfl (fun _ => rfl) (Nat.zero_le _) rfl rfl rfl (sf_X10_harmAt_124_x M hok i4z83_ (zr_wide b99_ (by decide) (by decide)) d) (fun x101_ b103_ => ?_)
            obtain ⟨q107_, b106_⟩ : (Int32.toInt (i3z83_ + x101_) = Int32.toInt i3z83_ + Int32.toInt x101_) ∧ (0 ≤ Int32.toInt (i3z83_ + x101_) ∧ Int32.toInt (i3z83_ + x101_) ≤ 9084700) := zadd_r i3z83_ x101_ 0 9084700 h3z83_ b103_ (by decide) (by decide) (by decide) (by decide)
            obtain ⟨q109_, b108_⟩ : (Int32.toInt (i4z83_ + 1) = Int32.toInt i4z83_ + 1) ∧ (1 ≤ Int32.toInt (i4z83_ + 1) ∧ Int32.toInt (i4z83_ + 1) ≤ 207) := zadd_k i4z83_ 1 1 1 207 b99_ (by decide) (by decide) (by decide) (by decide) (by decide)
            refine pw_blk hT 4 (S' := (20, [some (pvR 124), some (pvI n1), some (pvI n2), some (pvI (i3z83_ + x101_)), some (pvI (i4z83_ + 1))], [], M)) rfl ⟨trivial, trivial, trivial, trivial, trivial⟩ ?_
            have j110_ : Int32.toInt (i3z83_ + x101_) ≤ 90000 * (Int32.toInt (i4z83_ + 1) - Int32.toInt (M.1 124 3)) := by omega
            have j111_ : 0 ≤ Int32.toInt (i3z83_ + x101_) := by omega
            have j112_ : Int32.toInt (M.1 124 3) ≤ Int32.toInt (i4z83_ + 1) := by omega
            have j113_ : Int32.toInt (i4z83_ + 1) ≤ Int32.toInt (M.1 124 3) + 99 ∨ Int32.toInt (i3z83_ + x101_) = 0 := by omega
            exact ihz83_ (i3z83_ + x101_) (i4z83_ + 1) (by have u0 := b106_; omega) (zr_wide b108_ (by decide) (by decide)) j110_ j111_ j112_ j113_ (zhid (pvms_up (zshow hmz83_) h4z83_ q109_ (by decide) (by decide)))
    have u114_ : Int32.toInt 0 = 0 := by decide
    have j115_ : Int32.toInt 0 ≤ 90000 * (Int32.toInt n1 - Int32.toInt (M.1 124 3)) := by omega
    have j116_ : 0 ≤ Int32.toInt 0 := by omega
    have j117_ : Int32.toInt (M.1 124 3) ≤ Int32.toInt n1 := by omega
    have j118_ : Int32.toInt n1 ≤ Int32.toInt (M.1 124 3) + 99 ∨ Int32.toInt 0 = 0 := by omega
    exact hlz83_ _ 0 n1 (zr_wide (show 0 ≤ Int32.toInt 0 ∧ Int32.toInt 0 ≤ 0 from (by decide)) (by decide) (by decide)) hn1 j115_ j116_ j117_ j118_ (zhid (Nat.lt_succ_self _))
  · have b119_ : 1 ≤ Int32.toInt (M.1 124 3) ∧ Int32.toInt (M.1 124 3) ≤ 108 := zr_nle_l 1 c2_ b1_ hn1 (by decide)
    have b120_ : 0 ≤ Int32.toInt n1 ∧ Int32.toInt n1 ≤ 107 := zr_nle_r 107 c2_ hn1 b119_ (by decide)
    have d121_ : Int32.toInt (M.1 124 3) > Int32.toInt n1 := Int.not_le.mp ((not_congr (zi_le _ _)).mp c2_)
    refine pw_blk hT 4 (S' := (20, [some (pvR 124), some (pvI n1), some (pvI n2), some (pvI 0), some (pvI (M.1 124 3))], [], M)) rfl ⟨trivial, rfl, trivial, trivial, trivial⟩ ?_
    have hlz201_ : ∀ (nz201_ : Nat) (i3z201_ : Int32) (i4z201_ : Int32), (0 ≤ Int32.toInt i3z201_ ∧ Int32.toInt i3z201_ ≤ 9000000) → (1 ≤ Int32.toInt i4z201_ ∧ Int32.toInt i4z201_ ≤ 207) → (Int32.toInt i3z201_ ≤ 90000 * (Int32.toInt i4z201_ - Int32.toInt (M.1 124 3))) → (0 ≤ Int32.toInt i3z201_) → (Int32.toInt (M.1 124 3) ≤ Int32.toInt i4z201_) → (Int32.toInt i4z201_ ≤ Int32.toInt (M.1 124 3) + 99 ∨ Int32.toInt i3z201_ = 0) → (zhide ((208 - Int32.toInt i4z201_).toNat < nz201_)) → PW 28 d (20, [some (pvR 124), some (pvI n1), some (pvI n2), some (pvI i3z201_), some (pvI i4z201_)], [], M) (fun r X => (∃ x : Int32, r = some (pvI x) ∧ 0 ≤ Int32.toInt x ∧ Int32.toInt x ≤ 9000000) ∧ X = M) := by
      intro nz201_
      induction nz201_ with
      | zero => intro i3z201_ i4z201_ h3z201_ h4z201_ j0z201_ j1z201_ j2z201_ j3z201_ hmz201_; exact absurd (zshow hmz201_) (Nat.not_lt_zero _)
      | succ nz201_ ihz201_ =>
        intro i3z201_ i4z201_ h3z201_ h4z201_ j0z201_ j1z201_ j2z201_ j3z201_ hmz201_
        refine pw_blk hT 2 (S' := (23, [some (pvR 124), some (pvI n1), some (pvI n2), some (pvI i3z201_), some (pvI i4z201_)], [pvI n2, pvI i4z201_], M)) rfl ⟨trivial, trivial, trivial⟩ ?_
        refine pw_ic hT (c := n2 ≤ i4z201_) rfl rfl (fun c202_ => ?_) (fun c202_ => ?_)
        · have b203_ : 0 ≤ Int32.toInt n2 ∧ Int32.toInt n2 ≤ 207 := zr_le_l 207 c202_ hn2 h4z201_ (by decide)
          have d204_ : Int32.toInt n2 ≤ Int32.toInt i4z201_ := (zi_le _ _).mp c202_
          refine pw_blk hT 1 (S' := (56, [some (pvR 124), some (pvI n1), some (pvI n2), some (pvI i3z201_), some (pvI i4z201_)], [pvI i3z201_], M)) rfl ⟨trivial, trivial⟩ ?_
          exact pw_ret hT rfl (r := some (pvI i3z201_)) (M' := M) ⟨rfl, rfl⟩ ⟨⟨_, rfl, h3z201_⟩, rfl⟩
        · have b205_ : 2 ≤ Int32.toInt n2 ∧ Int32.toInt n2 ≤ 200000 := zr_nle_l 2 c202_ hn2 h4z201_ (by decide)
          have d206_ : Int32.toInt n2 > Int32.toInt i4z201_ := Int.not_le.mp ((not_congr (zi_le _ _)).mp c202_)
          refine pw_blk hT 4 (S' := (33, [some (pvR 124), some (pvI n1), some (pvI n2), some (pvI i3z201_), some (pvI i4z201_)], [pvR 124, pvI (M.1 124 3), pvI i4z201_], M)) rfl ⟨trivial, trivial, rfl, trivial, trivial⟩ ?_
          refine pw_callGp hT (as := [pvR 124]) (lo1 := [some (pvR 124)]) (d1 := d) (rest := [pvI (M.1 124 3), pvI i4z201_]) rfl rfl rfl rfl rfl (fun _ => rfl) (Nat.zero_le _) rfl rfl rfl (sf_X10_lastNow_124 M hok d) (fun x207_ b209_ => ?_)
          obtain ⟨q213_, b212_⟩ : (Int32.toInt ((M.1 124 3) + x207_) = Int32.toInt (M.1 124 3) + Int32.toInt x207_) ∧ (1 ≤ Int32.toInt ((M.1 124 3) + x207_) ∧ Int32.toInt ((M.1 124 3) + x207_) ≤ 207) := zadd_r (M.1 124 3) x207_ 1 207 b119_ b209_ (by decide) (by decide) (by decide) (by decide)
          refine pw_blk hT 1 (S' := (37, [some (pvR 124), some (pvI n1), some (pvI n2), some (pvI i3z201_), some (pvI i4z201_)], [pvI ((M.1 124 3) + x207_), pvI i4z201_], M)) rfl ⟨trivial, trivial⟩ ?_
          refine pw_ic hT (c := ((M.1 124 3) + x207_) ≤ i4z201_) rfl rfl (fun c214_ => ?_) (fun c214_ => ?_)
          · have d215_ : Int32.toInt ((M.1 124 3) + x207_) ≤ Int32.toInt i4z201_ := (zi_le _ _).mp c214_
            refine pw_blk hT 1 (S' := (56, [some (pvR 124), some (pvI n1), some (pvI n2), some (pvI i3z201_), some (pvI i4z201_)], [pvI i3z201_], M)) rfl ⟨trivial, trivial⟩ ?_
            exact pw_ret hT rfl (r := some (pvI i3z201_)) (M' := M) ⟨rfl, rfl⟩ ⟨⟨_, rfl, h3z201_⟩, rfl⟩
          · have b216_ : 2 ≤ Int32.toInt ((M.1 124 3) + x207_) ∧ Int32.toInt ((M.1 124 3) + x207_) ≤ 207 := zr_nle_l 2 c214_ b212_ h4z201_ (by decide)
            have b217_ : 1 ≤ Int32.toInt i4z201_ ∧ Int32.toInt i4z201_ ≤ 206 := zr_nle_r 206 c214_ h4z201_ b216_ (by decide)
            have d218_ : Int32.toInt ((M.1 124 3) + x207_) > Int32.toInt i4z201_ := Int.not_le.mp ((not_congr (zi_le _ _)).mp c214_)
            refine pw_blk hT 3 (S' := (44, [some (pvR 124), some (pvI n1), some (pvI n2), some (pvI i3z201_), some (pvI i4z201_)], [pvI i4z201_, pvR 124, pvI i3z201_], M)) rfl ⟨trivial, trivial, trivial, trivial⟩ ?_
            refine pw_callGp hT (as := [pvR 124, pvI i4z201_]) (lo1 := [some (pvR 124), some (pvI i4z201_), none, none]) (d1 := d) (rest := [pvI i3z201_]) rfl rfl rfl rfl rfl (fun _ => rfl) (Nat.zero_le _) rfl rfl rfl (sf_X10_harmAt_124_x M hok i4z201_ (zr_wide b217_ (by decide) (by decide)) d) (fun x219_ b221_ => ?_)
            obtain ⟨q225_, b224_⟩ : (Int32.toInt (i3z201_ + x219_) = Int32.toInt i3z201_ + Int32.toInt x219_) ∧ (0 ≤ Int32.toInt (i3z201_ + x219_) ∧ Int32.toInt (i3z201_ + x219_) ≤ 9084700) := zadd_r i3z201_ x219_ 0 9084700 h3z201_ b221_ (by decide) (by decide) (by decide) (by decide)
            obtain ⟨q227_, b226_⟩ : (Int32.toInt (i4z201_ + 1) = Int32.toInt i4z201_ + 1) ∧ (2 ≤ Int32.toInt (i4z201_ + 1) ∧ Int32.toInt (i4z201_ + 1) ≤ 207) := zadd_k i4z201_ 1 1 2 207 b217_ (by decide) (by decide) (by decide) (by decide) (by decide)
            refine pw_blk hT 4 (S' := (20, [some (pvR 124), some (pvI n1), some (pvI n2), some (pvI (i3z201_ + x219_)), some (pvI (i4z201_ + 1))], [], M)) rfl ⟨trivial, trivial, trivial, trivial, trivial⟩ ?_
            have j228_ : Int32.toInt (i3z201_ + x219_) ≤ 90000 * (Int32.toInt (i4z201_ + 1) - Int32.toInt (M.1 124 3)) := by omega
            have j229_ : 0 ≤ Int32.toInt (i3z201_ + x219_) := by omega
            have j230_ : Int32.toInt (M.1 124 3) ≤ Int32.toInt (i4z201_ + 1) := by omega
            have j231_ : Int32.toInt (i4z201_ + 1) ≤ Int32.toInt (M.1 124 3) + 99 ∨ Int32.toInt (i3z201_ + x219_) = 0 := by omega
            exact ihz201_ (i3z201_ + x219_) (i4z201_ + 1) (by have u0 := b224_; omega) (zr_wide b226_ (by decide) (by decide)) j228_ j229_ j230_ j231_ (zhid (pvms_up (zshow hmz201_) h4z201_ q227_ (by decide) (by decide)))
    have u232_ : Int32.toInt 0 = 0 := by decide
    have j233_ : Int32.toInt 0 ≤ 90000 * (Int32.toInt (M.1 124 3) - Int32.toInt (M.1 124 3)) := by omega
    have j234_ : 0 ≤ Int32.toInt 0 := by omega
    have j235_ : Int32.toInt (M.1 124 3) ≤ Int32.toInt (M.1 124 3) := by omega
    have j236_ : Int32.toInt (M.1 124 3) ≤ Int32.toInt (M.1 124 3) + 99 ∨ Int32.toInt 0 = 0 := by omega
    exact hlz201_ _ 0 (M.1 124 3) (zr_wide (show 0 ≤ Int32.toInt 0 ∧ Int32.toInt 0 ≤ 0 from (by decide)) (by decide) (by decide)) (zr_wide b119_ (by decide) (by decide)) j233_ j234_ j235_ j236_ (zhid (Nat.lt_succ_self _))
set_option maxHeartbeats 4000000 in
set_option maxRecDepth 10000 in
theorem sf_X10_has_124_x_x (M : pvM) (hok : pvOk M) (n1 : Int32) (n2 : Int32) (d : Nat) : PW 31 d (0, [some (pvR 124), some (pvI n1), some (pvI n2)], [], M) (fun r X => r = some (pvI ((if ((n1 >>> (n2 &&& 31)) &&& 1) = 1 then 1 else 0))) ∧ X = M) := by
  have hT : pvdom 31 = pvD_31 := rfl
  have b1_ : 0 ≤ Int32.toInt ((n1 >>> (n2 &&& 31)) &&& 1) ∧ Int32.toInt ((n1 >>> (n2 &&& 31)) &&& 1) ≤ 1 := (pvand1 (n1 >>> (n2 &&& 31)))
  refine pw_blk hT 6 (S' := (6, [some (pvR 124), some (pvI n1), some (pvI n2)], [pvI 1, pvI ((n1 >>> (n2 &&& 31)) &&& 1)], M)) rfl ⟨trivial, trivial, trivial, trivial, trivial, trivial, trivial⟩ ?_
  refine pw_icn hT (c := ((n1 >>> (n2 &&& 31)) &&& 1) = 1) rfl rfl (fun c2_ => ?_) (fun c2_ => ?_)
  · have b3_ : 0 ≤ Int32.toInt ((n1 >>> (n2 &&& 31)) &&& 1) ∧ Int32.toInt ((n1 >>> (n2 &&& 31)) &&& 1) ≤ 0 := (by have u0 := b1_; have u1 := (not_congr (zi_eq _ _)).mp c2_; have u2 := (show 1 ≤ Int32.toInt 1 ∧ Int32.toInt 1 ≤ 1 from (by decide)); omega)
    refine pw_blk hT 1 (S' := (14, [some (pvR 124), some (pvI n1), some (pvI n2)], [pvI 0], M)) rfl ⟨trivial, trivial⟩ ?_
    exact pw_ret hT rfl (r := some (pvI 0)) (M' := M) ⟨Or.inl rfl, rfl, rfl⟩ ⟨(by rw [if_neg c2_]), rfl⟩
  · have b4_ : 1 ≤ Int32.toInt ((n1 >>> (n2 &&& 31)) &&& 1) ∧ Int32.toInt ((n1 >>> (n2 &&& 31)) &&& 1) ≤ 1 := (by have u0 := b1_; have u1 := (zi_eq _ _).mp c2_; have u2 := (show 1 ≤ Int32.toInt 1 ∧ Int32.toInt 1 ≤ 1 from (by decide)); omega)
    refine pw_blk hT 2 (S' := (14, [some (pvR 124), some (pvI n1), some (pvI n2)], [pvI 1], M)) rfl ⟨trivial, trivial, trivial⟩ ?_
    exact pw_ret hT rfl (r := some (pvI 1)) (M' := M) ⟨Or.inr rfl, rfl, rfl⟩ ⟨(by rw [if_pos c2_]), rfl⟩
set_option maxHeartbeats 4000000 in
set_option maxRecDepth 10000 in
theorem sf_X10_peek_124 (M : pvM) (hok : pvOk M) (d : Nat) : PW 64 d (0, [some (pvR 124)], [], M) (fun r X => r = some (pvI ((if (M.1 124 16) ≤ (M.1 124 17) then (-1) else (M.1 132 (Int32.toNatClampNeg (M.1 124 17)))))) ∧ X = M) := by
  have hT : pvdom 64 = pvD_64 := rfl
  have b1_ : 0 ≤ Int32.toInt (M.1 124 17) ∧ Int32.toInt (M.1 124 17) ≤ 100 := pvok_r hok 124 17 rfl
  have b2_ : 0 ≤ Int32.toInt (M.1 124 16) ∧ Int32.toInt (M.1 124 16) ≤ 100 := pvok_r hok 124 16 rfl
  refine pw_blk hT 4 (S' := (8, [some (pvR 124)], [pvI (M.1 124 16), pvI (M.1 124 17)], M)) rfl ⟨trivial, rfl, trivial, rfl, trivial⟩ ?_
  refine pw_ic hT (c := (M.1 124 16) ≤ (M.1 124 17)) rfl rfl (fun c3_ => ?_) (fun c3_ => ?_)
  · have d4_ : Int32.toInt (M.1 124 16) ≤ Int32.toInt (M.1 124 17) := (zi_le _ _).mp c3_
    refine pw_blk hT 1 (S' := (24, [some (pvR 124)], [pvI (-1)], M)) rfl ⟨trivial, trivial⟩ ?_
    exact pw_ret hT rfl (r := some (pvI (-1))) (M' := M) ⟨rfl, rfl⟩ ⟨(by rw [if_pos c3_]), rfl⟩
  · have b5_ : 1 ≤ Int32.toInt (M.1 124 16) ∧ Int32.toInt (M.1 124 16) ≤ 100 := zr_nle_l 1 c3_ b2_ b1_ (by decide)
    have b6_ : 0 ≤ Int32.toInt (M.1 124 17) ∧ Int32.toInt (M.1 124 17) ≤ 99 := zr_nle_r 99 c3_ b1_ b5_ (by decide)
    have d7_ : Int32.toInt (M.1 124 16) > Int32.toInt (M.1 124 17) := Int.not_le.mp ((not_congr (zi_le _ _)).mp c3_)
    have b8_ : 0 ≤ Int32.toInt (M.1 132 (Int32.toNatClampNeg (M.1 124 17))) ∧ Int32.toInt (M.1 132 (Int32.toNatClampNeg (M.1 124 17))) ≤ 127 := pvok_r hok 132 (Int32.toNatClampNeg (M.1 124 17)) rfl
    refine pw_blk hT 6 (S' := (24, [some (pvR 124)], [pvI (M.1 132 (Int32.toNatClampNeg (M.1 124 17)))], M)) rfl ⟨trivial, rfl, trivial, rfl, ⟨rfl, (zr_in (n := 100) b6_ (by decide) (by decide))⟩, trivial, trivial⟩ ?_
    exact pw_ret hT rfl (r := some (pvI (M.1 132 (Int32.toNatClampNeg (M.1 124 17))))) (M' := M) ⟨rfl, rfl⟩ ⟨(by rw [if_neg c3_]), rfl⟩
set_option maxHeartbeats 4000000 in
set_option maxRecDepth 10000 in
theorem sf_X10_isDigit_124 (M : pvM) (hok : pvOk M) (d : Nat) : PW 37 d (0, [some (pvR 124)], [], M) (fun r X => r = some (pvI ((if (M.1 124 16) ≤ (M.1 124 17) then 0 else (if (M.1 132 (Int32.toNatClampNeg (M.1 124 17))) < 48 then 0 else (if 57 < (M.1 132 (Int32.toNatClampNeg (M.1 124 17))) then 0 else 1))))) ∧ X = M) := by
  have hT : pvdom 37 = pvD_37 := rfl
  refine pw_blk hT 2 (S' := (2, [some (pvR 124)], [pvR 124, pvR 124], M)) rfl ⟨trivial, trivial, trivial⟩ ?_
  refine pw_callT hT (as := [pvR 124]) (lo1 := [some (pvR 124)]) (d1 := d) (rest := [pvR 124]) rfl rfl rfl rfl rfl (fun _ => rfl) (Nat.zero_le _) rfl rfl rfl (sf_X10_peek_124 M hok d) ?_
  have b6_ : 0 ≤ Int32.toInt (M.1 124 16) ∧ Int32.toInt (M.1 124 16) ≤ 100 := pvok_r hok 124 16 rfl
  have b7_ : 0 ≤ Int32.toInt (M.1 124 17) ∧ Int32.toInt (M.1 124 17) ≤ 100 := pvok_r hok 124 17 rfl
  by_cases c8_ : (M.1 124 16) ≤ (M.1 124 17)
  · refine pw_eqI (if_pos c8_) ?_
    have d9_ : Int32.toInt (M.1 124 16) ≤ Int32.toInt (M.1 124 17) := (zi_le _ _).mp c8_
    show PW 37 d (5, [some (pvR 124)], [pvI (-1), pvR 124], M) _
    refine pw_blk hT 2 (S' := (9, [some (pvR 124)], [pvI 57, pvI 48, pvI (-1), pvR 124], M)) rfl ⟨trivial, trivial, trivial⟩ ?_
    refine pw_callT hT (as := [pvR 124, pvI (-1), pvI 48, pvI 57]) (lo1 := [some (pvR 124), some (pvI (-1)), some (pvI 48), some (pvI 57)]) (d1 := d) (rest := []) rfl rfl rfl rfl rfl (fun _ => rfl) (Nat.zero_le _) rfl rfl rfl (sf_X10_in_124_x_x_x M hok (-1) 48 57 d) ?_
    refine pw_eqI (if_pos (by decide)) ?_
    show PW 37 d (12, [some (pvR 124)], [pvI 0], M) _
    exact pw_ret hT rfl (r := some (pvI 0)) (M' := M) ⟨Or.inl rfl, rfl, rfl⟩ ⟨(by rw [if_pos c8_]), rfl⟩
  · refine pw_eqI (if_neg c8_) ?_
    have b15_ : 1 ≤ Int32.toInt (M.1 124 16) ∧ Int32.toInt (M.1 124 16) ≤ 100 := zr_nle_l 1 c8_ b6_ b7_ (by decide)
    have b16_ : 0 ≤ Int32.toInt (M.1 124 17) ∧ Int32.toInt (M.1 124 17) ≤ 99 := zr_nle_r 99 c8_ b7_ b15_ (by decide)
    have d17_ : Int32.toInt (M.1 124 16) > Int32.toInt (M.1 124 17) := Int.not_le.mp ((not_congr (zi_le _ _)).mp c8_)
    have b18_ : 0 ≤ Int32.toInt (M.1 132 (Int32.toNatClampNeg (M.1 124 17))) ∧ Int32.toInt (M.1 132 (Int32.toNatClampNeg (M.1 124 17))) ≤ 127 := pvok_r hok 132 (Int32.toNatClampNeg (M.1 124 17)) rfl
    show PW 37 d (5, [some (pvR 124)], [pvI (M.1 132 (Int32.toNatClampNeg (M.1 124 17))), pvR 124], M) _
    refine pw_blk hT 2 (S' := (9, [some (pvR 124)], [pvI 57, pvI 48, pvI (M.1 132 (Int32.toNatClampNeg (M.1 124 17))), pvR 124], M)) rfl ⟨trivial, trivial, trivial⟩ ?_
    refine pw_callT hT (as := [pvR 124, pvI (M.1 132 (Int32.toNatClampNeg (M.1 124 17))), pvI 48, pvI 57]) (lo1 := [some (pvR 124), some (pvI (M.1 132 (Int32.toNatClampNeg (M.1 124 17)))), some (pvI 48), some (pvI 57)]) (d1 := d) (rest := []) rfl rfl rfl rfl rfl (fun _ => rfl) (Nat.zero_le _) rfl rfl rfl (sf_X10_in_124_x_x_x M hok (M.1 132 (Int32.toNatClampNeg (M.1 124 17))) 48 57 d) ?_
    by_cases c24_ : (M.1 132 (Int32.toNatClampNeg (M.1 124 17))) < 48
    · refine pw_eqI (if_pos c24_) ?_
      have b25_ : 0 ≤ Int32.toInt (M.1 132 (Int32.toNatClampNeg (M.1 124 17))) ∧ Int32.toInt (M.1 132 (Int32.toNatClampNeg (M.1 124 17))) ≤ 47 := zr_lt_l 47 c24_ b18_ (show 48 ≤ Int32.toInt 48 ∧ Int32.toInt 48 ≤ 48 from (by decide)) (by decide)
      show PW 37 d (12, [some (pvR 124)], [pvI 0], M) _
      exact pw_ret hT rfl (r := some (pvI 0)) (M' := M) ⟨Or.inl rfl, rfl, rfl⟩ ⟨(by rw [if_neg c8_, if_pos c24_]), rfl⟩
    · refine pw_eqI (if_neg c24_) ?_
      have b26_ : 48 ≤ Int32.toInt (M.1 132 (Int32.toNatClampNeg (M.1 124 17))) ∧ Int32.toInt (M.1 132 (Int32.toNatClampNeg (M.1 124 17))) ≤ 127 := zr_nlt_l 48 c24_ b18_ (show 48 ≤ Int32.toInt 48 ∧ Int32.toInt 48 ≤ 48 from (by decide)) (by decide)
      by_cases c27_ : 57 < (M.1 132 (Int32.toNatClampNeg (M.1 124 17)))
      · refine pw_eqI (if_pos c27_) ?_
        have b28_ : 58 ≤ Int32.toInt (M.1 132 (Int32.toNatClampNeg (M.1 124 17))) ∧ Int32.toInt (M.1 132 (Int32.toNatClampNeg (M.1 124 17))) ≤ 127 := zr_lt_r 58 c27_ b26_ (show 57 ≤ Int32.toInt 57 ∧ Int32.toInt 57 ≤ 57 from (by decide)) (by decide)
        show PW 37 d (12, [some (pvR 124)], [pvI 0], M) _
        exact pw_ret hT rfl (r := some (pvI 0)) (M' := M) ⟨Or.inl rfl, rfl, rfl⟩ ⟨(by rw [if_neg c8_, if_neg c24_, if_pos c27_]), rfl⟩
      · refine pw_eqI (if_neg c27_) ?_
        have b29_ : 48 ≤ Int32.toInt (M.1 132 (Int32.toNatClampNeg (M.1 124 17))) ∧ Int32.toInt (M.1 132 (Int32.toNatClampNeg (M.1 124 17))) ≤ 57 := zr_nlt_r 57 c27_ b26_ (show 57 ≤ Int32.toInt 57 ∧ Int32.toInt 57 ≤ 57 from (by decide)) (by decide)
        show PW 37 d (12, [some (pvR 124)], [pvI 1], M) _
        exact pw_ret hT rfl (r := some (pvI 1)) (M' := M) ⟨Or.inr rfl, rfl, rfl⟩ ⟨(by rw [if_neg c8_, if_neg c24_, if_neg c27_]), rfl⟩
set_option maxHeartbeats 4000000 in
set_option maxRecDepth 10000 in
theorem sf_X10_isLimit_124_x (M : pvM) (hok : pvOk M) (n1 : Int32) (d : Nat) : PW 38 d (0, [some (pvR 124), some (pvI n1)], [], M) (fun r X => r = some (pvI ((if n1 < 0 then 0 else (if 99999 < n1 then 0 else 1)))) ∧ X = M) := by
  have hT : pvdom 38 = pvD_38 := rfl
  refine pw_blk hT 4 (S' := (6, [some (pvR 124), some (pvI n1)], [pvI 99999, pvI 0, pvI n1, pvR 124], M)) rfl ⟨trivial, trivial, trivial, trivial, trivial⟩ ?_
  refine pw_callT hT (as := [pvR 124, pvI n1, pvI 0, pvI 99999]) (lo1 := [some (pvR 124), some (pvI n1), some (pvI 0), some (pvI 99999)]) (d1 := d) (rest := []) rfl rfl rfl rfl rfl (fun _ => rfl) (Nat.zero_le _) rfl rfl rfl (sf_X10_in_124_x_x_x M hok n1 0 99999 d) ?_
  by_cases c6_ : n1 < 0
  · refine pw_eqI (if_pos c6_) ?_
    have b7_ : (-2147483648) ≤ Int32.toInt n1 ∧ Int32.toInt n1 ≤ (-1) := zr_lt_l (-1) c6_ (zbnd n1) (show 0 ≤ Int32.toInt 0 ∧ Int32.toInt 0 ≤ 0 from (by decide)) (by decide)
    show PW 38 d (9, [some (pvR 124), some (pvI n1)], [pvI 0], M) _
    exact pw_ret hT rfl (r := some (pvI 0)) (M' := M) ⟨Or.inl rfl, rfl, rfl⟩ ⟨(by rw [if_pos c6_]), rfl⟩
  · refine pw_eqI (if_neg c6_) ?_
    have b8_ : 0 ≤ Int32.toInt n1 ∧ Int32.toInt n1 ≤ 2147483647 := zr_nlt_l 0 c6_ (zbnd n1) (show 0 ≤ Int32.toInt 0 ∧ Int32.toInt 0 ≤ 0 from (by decide)) (by decide)
    by_cases c9_ : 99999 < n1
    · refine pw_eqI (if_pos c9_) ?_
      have b10_ : 100000 ≤ Int32.toInt n1 ∧ Int32.toInt n1 ≤ 2147483647 := zr_lt_r 100000 c9_ b8_ (show 99999 ≤ Int32.toInt 99999 ∧ Int32.toInt 99999 ≤ 99999 from (by decide)) (by decide)
      show PW 38 d (9, [some (pvR 124), some (pvI n1)], [pvI 0], M) _
      exact pw_ret hT rfl (r := some (pvI 0)) (M' := M) ⟨Or.inl rfl, rfl, rfl⟩ ⟨(by rw [if_neg c6_, if_pos c9_]), rfl⟩
    · refine pw_eqI (if_neg c9_) ?_
      have b11_ : 0 ≤ Int32.toInt n1 ∧ Int32.toInt n1 ≤ 99999 := zr_nlt_r 99999 c9_ b8_ (show 99999 ≤ Int32.toInt 99999 ∧ Int32.toInt 99999 ≤ 99999 from (by decide)) (by decide)
      show PW 38 d (9, [some (pvR 124), some (pvI n1)], [pvI 1], M) _
      exact pw_ret hT rfl (r := some (pvI 1)) (M' := M) ⟨Or.inr rfl, rfl, rfl⟩ ⟨(by rw [if_neg c6_, if_neg c9_]), rfl⟩
set_option maxHeartbeats 4000000 in
set_option maxRecDepth 10000 in
theorem sf_X10_isPlace_124_x_x (M : pvM) (hok : pvOk M) (n1 : Int32) (n2 : Int32) (d : Nat) : PW 40 d (0, [some (pvR 124), some (pvI n1), some (pvI n2)], [], M) (fun r X => r = some (pvI ((if n1 < 0 then 0 else (if 3 < n1 then 0 else (if n2 < 0 then 0 else (if 4 < n2 then 0 else 1)))))) ∧ X = M) := by
  have hT : pvdom 40 = pvD_40 := rfl
  refine pw_blk hT 4 (S' := (4, [some (pvR 124), some (pvI n1), some (pvI n2)], [pvI 3, pvI 0, pvI n1, pvR 124], M)) rfl ⟨trivial, trivial, trivial, trivial, trivial⟩ ?_
  refine pw_callT hT (as := [pvR 124, pvI n1, pvI 0, pvI 3]) (lo1 := [some (pvR 124), some (pvI n1), some (pvI 0), some (pvI 3)]) (d1 := d) (rest := []) rfl rfl rfl rfl rfl (fun _ => rfl) (Nat.zero_le _) rfl rfl rfl (sf_X10_in_124_x_x_x M hok n1 0 3 d) ?_
  by_cases c6_ : n1 < 0
  · refine pw_eqI (if_pos c6_) ?_
    have b7_ : (-2147483648) ≤ Int32.toInt n1 ∧ Int32.toInt n1 ≤ (-1) := zr_lt_l (-1) c6_ (zbnd n1) (show 0 ≤ Int32.toInt 0 ∧ Int32.toInt 0 ≤ 0 from (by decide)) (by decide)
    show PW 40 d (7, [some (pvR 124), some (pvI n1), some (pvI n2)], [pvI 0], M) _
    refine pw_if hT (c := 0 = 0) rfl rfl (fun c8_ => ?_) (fun c8_ => absurd (by decide) c8_)
    refine pw_blk hT 1 (S' := (25, [some (pvR 124), some (pvI n1), some (pvI n2)], [pvI 0], M)) rfl ⟨trivial, trivial⟩ ?_
    exact pw_ret hT rfl (r := some (pvI 0)) (M' := M) ⟨Or.inl rfl, rfl, rfl⟩ ⟨(by rw [if_pos c6_]), rfl⟩
  · refine pw_eqI (if_neg c6_) ?_
    have b9_ : 0 ≤ Int32.toInt n1 ∧ Int32.toInt n1 ≤ 2147483647 := zr_nlt_l 0 c6_ (zbnd n1) (show 0 ≤ Int32.toInt 0 ∧ Int32.toInt 0 ≤ 0 from (by decide)) (by decide)
    by_cases c10_ : 3 < n1
    · refine pw_eqI (if_pos c10_) ?_
      have b11_ : 4 ≤ Int32.toInt n1 ∧ Int32.toInt n1 ≤ 2147483647 := zr_lt_r 4 c10_ b9_ (show 3 ≤ Int32.toInt 3 ∧ Int32.toInt 3 ≤ 3 from (by decide)) (by decide)
      show PW 40 d (7, [some (pvR 124), some (pvI n1), some (pvI n2)], [pvI 0], M) _
      refine pw_if hT (c := 0 = 0) rfl rfl (fun c12_ => ?_) (fun c12_ => absurd (by decide) c12_)
      refine pw_blk hT 1 (S' := (25, [some (pvR 124), some (pvI n1), some (pvI n2)], [pvI 0], M)) rfl ⟨trivial, trivial⟩ ?_
      exact pw_ret hT rfl (r := some (pvI 0)) (M' := M) ⟨Or.inl rfl, rfl, rfl⟩ ⟨(by rw [if_neg c6_, if_pos c10_]), rfl⟩
    · refine pw_eqI (if_neg c10_) ?_
      have b13_ : 0 ≤ Int32.toInt n1 ∧ Int32.toInt n1 ≤ 3 := zr_nlt_r 3 c10_ b9_ (show 3 ≤ Int32.toInt 3 ∧ Int32.toInt 3 ≤ 3 from (by decide)) (by decide)
      show PW 40 d (7, [some (pvR 124), some (pvI n1), some (pvI n2)], [pvI 1], M) _
      refine pw_if hT (c := 1 = 0) rfl rfl (fun c14_ => absurd c14_ (by decide)) (fun c14_ => ?_)
      refine pw_blk hT 4 (S' := (14, [some (pvR 124), some (pvI n1), some (pvI n2)], [pvI 4, pvI 0, pvI n2, pvR 124], M)) rfl ⟨trivial, trivial, trivial, trivial, trivial⟩ ?_
      refine pw_callT hT (as := [pvR 124, pvI n2, pvI 0, pvI 4]) (lo1 := [some (pvR 124), some (pvI n2), some (pvI 0), some (pvI 4)]) (d1 := d) (rest := []) rfl rfl rfl rfl rfl (fun _ => rfl) (Nat.zero_le _) rfl rfl rfl (sf_X10_in_124_x_x_x M hok n2 0 4 d) ?_
      by_cases c20_ : n2 < 0
      · refine pw_eqI (if_pos c20_) ?_
        have b21_ : (-2147483648) ≤ Int32.toInt n2 ∧ Int32.toInt n2 ≤ (-1) := zr_lt_l (-1) c20_ (zbnd n2) (show 0 ≤ Int32.toInt 0 ∧ Int32.toInt 0 ≤ 0 from (by decide)) (by decide)
        show PW 40 d (17, [some (pvR 124), some (pvI n1), some (pvI n2)], [pvI 0], M) _
        refine pw_if hT (c := 0 = 0) rfl rfl (fun c22_ => ?_) (fun c22_ => absurd (by decide) c22_)
        refine pw_blk hT 1 (S' := (25, [some (pvR 124), some (pvI n1), some (pvI n2)], [pvI 0], M)) rfl ⟨trivial, trivial⟩ ?_
        exact pw_ret hT rfl (r := some (pvI 0)) (M' := M) ⟨Or.inl rfl, rfl, rfl⟩ ⟨(by rw [if_neg c6_, if_neg c10_, if_pos c20_]), rfl⟩
      · refine pw_eqI (if_neg c20_) ?_
        have b23_ : 0 ≤ Int32.toInt n2 ∧ Int32.toInt n2 ≤ 2147483647 := zr_nlt_l 0 c20_ (zbnd n2) (show 0 ≤ Int32.toInt 0 ∧ Int32.toInt 0 ≤ 0 from (by decide)) (by decide)
        by_cases c24_ : 4 < n2
        · refine pw_eqI (if_pos c24_) ?_
          have b25_ : 5 ≤ Int32.toInt n2 ∧ Int32.toInt n2 ≤ 2147483647 := zr_lt_r 5 c24_ b23_ (show 4 ≤ Int32.toInt 4 ∧ Int32.toInt 4 ≤ 4 from (by decide)) (by decide)
          show PW 40 d (17, [some (pvR 124), some (pvI n1), some (pvI n2)], [pvI 0], M) _
          refine pw_if hT (c := 0 = 0) rfl rfl (fun c26_ => ?_) (fun c26_ => absurd (by decide) c26_)
          refine pw_blk hT 1 (S' := (25, [some (pvR 124), some (pvI n1), some (pvI n2)], [pvI 0], M)) rfl ⟨trivial, trivial⟩ ?_
          exact pw_ret hT rfl (r := some (pvI 0)) (M' := M) ⟨Or.inl rfl, rfl, rfl⟩ ⟨(by rw [if_neg c6_, if_neg c10_, if_neg c20_, if_pos c24_]), rfl⟩
        · refine pw_eqI (if_neg c24_) ?_
          have b27_ : 0 ≤ Int32.toInt n2 ∧ Int32.toInt n2 ≤ 4 := zr_nlt_r 4 c24_ b23_ (show 4 ≤ Int32.toInt 4 ∧ Int32.toInt 4 ≤ 4 from (by decide)) (by decide)
          show PW 40 d (17, [some (pvR 124), some (pvI n1), some (pvI n2)], [pvI 1], M) _
          refine pw_if hT (c := 1 = 0) rfl rfl (fun c28_ => absurd c28_ (by decide)) (fun c28_ => ?_)
          refine pw_blk hT 2 (S' := (25, [some (pvR 124), some (pvI n1), some (pvI n2)], [pvI 1], M)) rfl ⟨trivial, trivial, trivial⟩ ?_
          exact pw_ret hT rfl (r := some (pvI 1)) (M' := M) ⟨Or.inr rfl, rfl, rfl⟩ ⟨(by rw [if_neg c6_, if_neg c10_, if_neg c20_, if_neg c24_]), rfl⟩
set_option maxHeartbeats 4000000 in
set_option maxRecDepth 10000 in
theorem sf_X10_isTape_124_x (M : pvM) (hok : pvOk M) (n1 : Int32) (d : Nat) : PW 41 d (0, [some (pvR 124), some (pvI n1)], [], M) (fun r X => r = some (pvI ((if n1 < 0 then 0 else (if 5 < n1 then 0 else 1)))) ∧ X = M) := by
  have hT : pvdom 41 = pvD_41 := rfl
  refine pw_blk hT 4 (S' := (4, [some (pvR 124), some (pvI n1)], [pvI 5, pvI 0, pvI n1, pvR 124], M)) rfl ⟨trivial, trivial, trivial, trivial, trivial⟩ ?_
  refine pw_callT hT (as := [pvR 124, pvI n1, pvI 0, pvI 5]) (lo1 := [some (pvR 124), some (pvI n1), some (pvI 0), some (pvI 5)]) (d1 := d) (rest := []) rfl rfl rfl rfl rfl (fun _ => rfl) (Nat.zero_le _) rfl rfl rfl (sf_X10_in_124_x_x_x M hok n1 0 5 d) ?_
  by_cases c6_ : n1 < 0
  · refine pw_eqI (if_pos c6_) ?_
    have b7_ : (-2147483648) ≤ Int32.toInt n1 ∧ Int32.toInt n1 ≤ (-1) := zr_lt_l (-1) c6_ (zbnd n1) (show 0 ≤ Int32.toInt 0 ∧ Int32.toInt 0 ≤ 0 from (by decide)) (by decide)
    show PW 41 d (7, [some (pvR 124), some (pvI n1)], [pvI 0], M) _
    exact pw_ret hT rfl (r := some (pvI 0)) (M' := M) ⟨Or.inl rfl, rfl, rfl⟩ ⟨(by rw [if_pos c6_]), rfl⟩
  · refine pw_eqI (if_neg c6_) ?_
    have b8_ : 0 ≤ Int32.toInt n1 ∧ Int32.toInt n1 ≤ 2147483647 := zr_nlt_l 0 c6_ (zbnd n1) (show 0 ≤ Int32.toInt 0 ∧ Int32.toInt 0 ≤ 0 from (by decide)) (by decide)
    by_cases c9_ : 5 < n1
    · refine pw_eqI (if_pos c9_) ?_
      have b10_ : 6 ≤ Int32.toInt n1 ∧ Int32.toInt n1 ≤ 2147483647 := zr_lt_r 6 c9_ b8_ (show 5 ≤ Int32.toInt 5 ∧ Int32.toInt 5 ≤ 5 from (by decide)) (by decide)
      show PW 41 d (7, [some (pvR 124), some (pvI n1)], [pvI 0], M) _
      exact pw_ret hT rfl (r := some (pvI 0)) (M' := M) ⟨Or.inl rfl, rfl, rfl⟩ ⟨(by rw [if_neg c6_, if_pos c9_]), rfl⟩
    · refine pw_eqI (if_neg c9_) ?_
      have b11_ : 0 ≤ Int32.toInt n1 ∧ Int32.toInt n1 ≤ 5 := zr_nlt_r 5 c9_ b8_ (show 5 ≤ Int32.toInt 5 ∧ Int32.toInt 5 ≤ 5 from (by decide)) (by decide)
      show PW 41 d (7, [some (pvR 124), some (pvI n1)], [pvI 1], M) _
      exact pw_ret hT rfl (r := some (pvI 1)) (M' := M) ⟨Or.inr rfl, rfl, rfl⟩ ⟨(by rw [if_neg c6_, if_neg c9_]), rfl⟩
set_option maxHeartbeats 4000000 in
set_option maxRecDepth 10000 in
theorem sf_X10_narrow_124_x_x (M : pvM) (hok : pvOk M) (n1 : Int32) (n2 : Int64) (d : Nat) : PW 56 d (0, [some (pvR 124), some (pvI n1), some (pvJ n2), none], [], M) (fun r X => (∃ x : Int64, r = some (pvJ x)) ∧ X = M) := by
  have hT : pvdom 56 = pvD_56 := rfl
  refine pw_blk hT 1 (S' := (1, [some (pvR 124), some (pvI n1), some (pvJ n2), none], [pvI n1], M)) rfl ⟨trivial, trivial⟩ ?_
  refine pw_ifn hT (c := n1 = 0) rfl rfl (fun c1_ => ?_) (fun c1_ => ?_)
  · refine pw_blk hT 2 (S' := (13, [some (pvR 124), some (pvI n1), some (pvJ n2), none], [pvI 1, pvI n1], M)) rfl ⟨trivial, trivial, trivial⟩ ?_
    refine pw_icn hT (c := n1 = 1) rfl rfl (fun c2_ => ?_) (fun c2_ => ?_)
    · refine pw_blk hT 2 (S' := (25, [some (pvR 124), some (pvI n1), some (pvJ n2), none], [pvI 2, pvI n1], M)) rfl ⟨trivial, trivial, trivial⟩ ?_
      refine pw_icn hT (c := n1 = 2) rfl rfl (fun c3_ => ?_) (fun c3_ => ?_)
      · refine pw_blk hT 2 (S' := (36, [some (pvR 124), some (pvI n1), some (pvJ n2), none], [pvI 4, pvI n1], M)) rfl ⟨trivial, trivial, trivial⟩ ?_
        refine pw_icn hT (c := n1 = 4) rfl rfl (fun c4_ => ?_) (fun c4_ => ?_)
        · refine pw_blk hT 1 (S' := (54, [some (pvR 124), some (pvI n1), some (pvJ n2), none], [pvJ n2], M)) rfl ⟨trivial, trivial⟩ ?_
          exact pw_ret hT rfl (r := some (pvJ n2)) (M' := M) ⟨rfl, rfl⟩ ⟨⟨_, rfl⟩, rfl⟩
        · have b5_ : 4 ≤ Int32.toInt n1 ∧ Int32.toInt n1 ≤ 4 := (by have u0 := (zbnd n1); have u1 := (zi_eq _ _).mp c4_; have u2 := (show 4 ≤ Int32.toInt 4 ∧ Int32.toInt 4 ≤ 4 from (by decide)); omega)
          refine pw_blk hT 3 (S' := (42, [some (pvR 124), some (pvI n1), some (pvJ n2), none], [pvI (lg_cmp n2 0)], M)) rfl ⟨trivial, trivial, trivial, trivial⟩ ?_
          refine pw_if hT (c := (lg_cmp n2 0) = 0) rfl rfl (fun c6_ => ?_) (fun c6_ => ?_)
          · have b7_ : 0 ≤ Int32.toInt (lg_cmp n2 0) ∧ Int32.toInt (lg_cmp n2 0) ≤ 0 := (by have u0 := (zbnd (lg_cmp n2 0)); have u1 := (zi_eq _ _).mp c6_; have u2 := (show 0 ≤ Int32.toInt 0 ∧ Int32.toInt 0 ≤ 0 from (by decide)); omega)
            refine pw_blk hT 2 (S' := (54, [some (pvR 124), some (pvI n1), some (pvJ n2), none], [pvJ 0], M)) rfl ⟨trivial, trivial, trivial⟩ ?_
            exact pw_ret hT rfl (r := some (pvJ 0)) (M' := M) ⟨rfl, rfl⟩ ⟨⟨_, rfl⟩, rfl⟩
          · refine pw_blk hT 2 (S' := (54, [some (pvR 124), some (pvI n1), some (pvJ n2), none], [pvJ 1], M)) rfl ⟨trivial, trivial, trivial⟩ ?_
            exact pw_ret hT rfl (r := some (pvJ 1)) (M' := M) ⟨rfl, rfl⟩ ⟨⟨_, rfl⟩, rfl⟩
      · have b8_ : 2 ≤ Int32.toInt n1 ∧ Int32.toInt n1 ≤ 2 := (by have u0 := (zbnd n1); have u1 := (zi_eq _ _).mp c3_; have u2 := (show 2 ≤ Int32.toInt 2 ∧ Int32.toInt 2 ≤ 2 from (by decide)); omega)
        refine pw_blk hT 4 (S' := (54, [some (pvR 124), some (pvI n1), some (pvJ n2), none], [pvJ (Int32.toInt64 (Int64.toInt32 n2))], M)) rfl ⟨trivial, trivial, trivial, trivial, trivial⟩ ?_
        exact pw_ret hT rfl (r := some (pvJ (Int32.toInt64 (Int64.toInt32 n2)))) (M' := M) ⟨rfl, rfl⟩ ⟨⟨_, rfl⟩, rfl⟩
    · have b9_ : 1 ≤ Int32.toInt n1 ∧ Int32.toInt n1 ≤ 1 := (by have u0 := (zbnd n1); have u1 := (zi_eq _ _).mp c2_; have u2 := (show 1 ≤ Int32.toInt 1 ∧ Int32.toInt 1 ≤ 1 from (by decide)); omega)
      refine pw_blk hT 5 (S' := (54, [some (pvR 124), some (pvI n1), some (pvJ n2), none], [pvJ (Int32.toInt64 (Int16.toInt32 (Int32.toInt16 (Int64.toInt32 n2))))], M)) rfl ⟨trivial, trivial, trivial, trivial, trivial, trivial⟩ ?_
      exact pw_ret hT rfl (r := some (pvJ (Int32.toInt64 (Int16.toInt32 (Int32.toInt16 (Int64.toInt32 n2)))))) (M' := M) ⟨rfl, rfl⟩ ⟨⟨_, rfl⟩, rfl⟩
  · have b10_ : 0 ≤ Int32.toInt n1 ∧ Int32.toInt n1 ≤ 0 := (by have u0 := (zbnd n1); have u1 := (zi_eq _ _).mp c1_; have u2 := (show 0 ≤ Int32.toInt 0 ∧ Int32.toInt 0 ≤ 0 from (by decide)); omega)
    refine pw_blk hT 5 (S' := (54, [some (pvR 124), some (pvI n1), some (pvJ n2), none], [pvJ (Int32.toInt64 (Int8.toInt32 (Int32.toInt8 (Int64.toInt32 n2))))], M)) rfl ⟨trivial, trivial, trivial, trivial, trivial, trivial⟩ ?_
    exact pw_ret hT rfl (r := some (pvJ (Int32.toInt64 (Int8.toInt32 (Int32.toInt8 (Int64.toInt32 n2)))))) (M' := M) ⟨rfl, rfl⟩ ⟨⟨_, rfl⟩, rfl⟩
def fpL_X10_item_124_x_x_x : List (Nat × Nat × Nat) := []
def fp_X10_item_124_x_x_x (q k : Nat) : Bool := pvfp fpL_X10_item_124_x_x_x q k
set_option maxHeartbeats 4000000 in
set_option maxRecDepth 10000 in
theorem sf_X10_item_124_x_x_x (M : pvM) (hok : pvOk M) (n1 : Int32) (n2 : Int32) (n3 : Int64) (d : Nat) : PW 43 d (0, [some (pvR 124), some (pvI n1), some (pvI n2), some (pvJ n3), none], [], M) (fun r X => (∃ x : Int32, r = some (pvI x) ∧ (-13) ≤ Int32.toInt x ∧ Int32.toInt x ≤ 1) ∧ pvOk X ∧ pvFr fp_X10_item_124_x_x_x M X) := by
  have hT : pvdom 43 = pvD_43 := rfl
  refine pw_blk hT 2 (S' := (2, [some (pvR 124), some (pvI n1), some (pvI n2), some (pvJ n3), none], [pvI n1, pvR 124], M)) rfl ⟨trivial, trivial, trivial⟩ ?_
  refine pw_callT hT (as := [pvR 124, pvI n1]) (lo1 := [some (pvR 124), some (pvI n1)]) (d1 := d) (rest := []) rfl rfl rfl rfl rfl (fun _ => rfl) (Nat.zero_le _) rfl rfl rfl (sf_X10_isTape_124_x M hok n1 d) ?_
  by_cases c6_ : n1 < 0
  · refine pw_eqI (if_pos c6_) ?_
    have b7_ : (-2147483648) ≤ Int32.toInt n1 ∧ Int32.toInt n1 ≤ (-1) := zr_lt_l (-1) c6_ (zbnd n1) (show 0 ≤ Int32.toInt 0 ∧ Int32.toInt 0 ≤ 0 from (by decide)) (by decide)
    show PW 43 d (5, [some (pvR 124), some (pvI n1), some (pvI n2), some (pvJ n3), none], [pvI 0], M) _
    refine pw_ifn hT (c := 0 = 0) rfl rfl (fun c8_ => absurd (by decide) c8_) (fun c8_ => ?_)
    refine pw_blk hT 1 (S' := (9, [some (pvR 124), some (pvI n1), some (pvI n2), some (pvJ n3), none], [pvI (-1)], M)) rfl ⟨trivial, trivial⟩ ?_
    exact pw_ret hT rfl (r := some (pvI (-1))) (M' := M) ⟨rfl, rfl⟩ ⟨⟨_, rfl, (zr_wide (show (-1) ≤ Int32.toInt (-1) ∧ Int32.toInt (-1) ≤ (-1) from (by decide)) (by decide) (by decide))⟩, hok, pvfr_0⟩
  · refine pw_eqI (if_neg c6_) ?_
    have b9_ : 0 ≤ Int32.toInt n1 ∧ Int32.toInt n1 ≤ 2147483647 := zr_nlt_l 0 c6_ (zbnd n1) (show 0 ≤ Int32.toInt 0 ∧ Int32.toInt 0 ≤ 0 from (by decide)) (by decide)
    by_cases c10_ : 5 < n1
    · refine pw_eqI (if_pos c10_) ?_
      have b11_ : 6 ≤ Int32.toInt n1 ∧ Int32.toInt n1 ≤ 2147483647 := zr_lt_r 6 c10_ b9_ (show 5 ≤ Int32.toInt 5 ∧ Int32.toInt 5 ≤ 5 from (by decide)) (by decide)
      show PW 43 d (5, [some (pvR 124), some (pvI n1), some (pvI n2), some (pvJ n3), none], [pvI 0], M) _
      refine pw_ifn hT (c := 0 = 0) rfl rfl (fun c12_ => absurd (by decide) c12_) (fun c12_ => ?_)
      refine pw_blk hT 1 (S' := (9, [some (pvR 124), some (pvI n1), some (pvI n2), some (pvJ n3), none], [pvI (-1)], M)) rfl ⟨trivial, trivial⟩ ?_
      exact pw_ret hT rfl (r := some (pvI (-1))) (M' := M) ⟨rfl, rfl⟩ ⟨⟨_, rfl, (zr_wide (show (-1) ≤ Int32.toInt (-1) ∧ Int32.toInt (-1) ≤ (-1) from (by decide)) (by decide) (by decide))⟩, hok, pvfr_0⟩
    · refine pw_eqI (if_neg c10_) ?_
      have b13_ : 0 ≤ Int32.toInt n1 ∧ Int32.toInt n1 ≤ 5 := zr_nlt_r 5 c10_ b9_ (show 5 ≤ Int32.toInt 5 ∧ Int32.toInt 5 ≤ 5 from (by decide)) (by decide)
      show PW 43 d (5, [some (pvR 124), some (pvI n1), some (pvI n2), some (pvJ n3), none], [pvI 1], M) _
      refine pw_ifn hT (c := 1 = 0) rfl rfl (fun c14_ => ?_) (fun c14_ => absurd c14_ (by decide))
      have b15_ : (-1) ≤ Int32.toInt (M.1 164 (Int32.toNatClampNeg n1)) ∧ Int32.toInt (M.1 164 (Int32.toNatClampNeg n1)) ≤ 4 := pvok_r hok 164 (Int32.toNatClampNeg n1) rfl
      refine pw_blk hT 4 (S' := (16, [some (pvR 124), some (pvI n1), some (pvI n2), some (pvJ n3), none], [pvI (M.1 164 (Int32.toNatClampNeg n1))], M)) rfl ⟨trivial, rfl, trivial, ⟨rfl, (zr_in (n := 6) b13_ (by decide) (by decide))⟩, trivial⟩ ?_
      refine pw_if hT (c := 0 ≤ (M.1 164 (Int32.toNatClampNeg n1))) rfl rfl (fun c16_ => ?_) (fun c16_ => ?_)
      · have b17_ : 0 ≤ Int32.toInt (M.1 164 (Int32.toNatClampNeg n1)) ∧ Int32.toInt (M.1 164 (Int32.toNatClampNeg n1)) ≤ 4 := zr_le_r 0 c16_ b15_ (show 0 ≤ Int32.toInt 0 ∧ Int32.toInt 0 ≤ 0 from (by decide)) (by decide)
        have b18_ : 0 ≤ Int32.toInt (M.1 165 (Int32.toNatClampNeg n1)) ∧ Int32.toInt (M.1 165 (Int32.toNatClampNeg n1)) ≤ 60 := pvok_r hok 165 (Int32.toNatClampNeg n1) rfl
        obtain ⟨q20_, b19_⟩ : (Int32.toInt ((M.1 165 (Int32.toNatClampNeg n1)) - 1) = Int32.toInt (M.1 165 (Int32.toNatClampNeg n1)) - 1) ∧ ((-1) ≤ Int32.toInt ((M.1 165 (Int32.toNatClampNeg n1)) - 1) ∧ Int32.toInt ((M.1 165 (Int32.toNatClampNeg n1)) - 1) ≤ 59) := zsub_k (M.1 165 (Int32.toNatClampNeg n1)) 1 1 (-1) 59 b18_ (by decide) (by decide) (by decide) (by decide) (by decide)
        refine pw_blk hT 9 (S' := (33, [some (pvR 124), some (pvI n1), some (pvI n2), some (pvJ n3), none], [pvI ((M.1 165 (Int32.toNatClampNeg n1)) - 1), pvI 0, pvI n2, pvR 124], M)) rfl ⟨trivial, trivial, trivial, trivial, rfl, trivial, ⟨rfl, (zr_in (n := 6) b13_ (by decide) (by decide))⟩, trivial, trivial, trivial⟩ ?_
        refine pw_callT hT (as := [pvR 124, pvI n2, pvI 0, pvI ((M.1 165 (Int32.toNatClampNeg n1)) - 1)]) (lo1 := [some (pvR 124), some (pvI n2), some (pvI 0), some (pvI ((M.1 165 (Int32.toNatClampNeg n1)) - 1))]) (d1 := d) (rest := []) rfl rfl rfl rfl rfl (fun _ => rfl) (Nat.zero_le _) rfl rfl rfl (sf_X10_in_124_x_x_x M hok n2 0 ((M.1 165 (Int32.toNatClampNeg n1)) - 1) d) ?_
        by_cases c26_ : n2 < 0
        · refine pw_eqI (if_pos c26_) ?_
          have b27_ : (-2147483648) ≤ Int32.toInt n2 ∧ Int32.toInt n2 ≤ (-1) := zr_lt_l (-1) c26_ (zbnd n2) (show 0 ≤ Int32.toInt 0 ∧ Int32.toInt 0 ≤ 0 from (by decide)) (by decide)
          show PW 43 d (36, [some (pvR 124), some (pvI n1), some (pvI n2), some (pvJ n3), none], [pvI 0], M) _
          refine pw_ifn hT (c := 0 = 0) rfl rfl (fun c28_ => absurd (by decide) c28_) (fun c28_ => ?_)
          refine pw_blk hT 1 (S' := (41, [some (pvR 124), some (pvI n1), some (pvI n2), some (pvJ n3), none], [pvI (-13)], M)) rfl ⟨trivial, trivial⟩ ?_
          exact pw_ret hT rfl (r := some (pvI (-13))) (M' := M) ⟨rfl, rfl⟩ ⟨⟨_, rfl, (zr_wide (show (-13) ≤ Int32.toInt (-13) ∧ Int32.toInt (-13) ≤ (-13) from (by decide)) (by decide) (by decide))⟩, hok, pvfr_0⟩
        · refine pw_eqI (if_neg c26_) ?_
          have b29_ : 0 ≤ Int32.toInt n2 ∧ Int32.toInt n2 ≤ 2147483647 := zr_nlt_l 0 c26_ (zbnd n2) (show 0 ≤ Int32.toInt 0 ∧ Int32.toInt 0 ≤ 0 from (by decide)) (by decide)
          by_cases c30_ : ((M.1 165 (Int32.toNatClampNeg n1)) - 1) < n2
          · refine pw_eqI (if_pos c30_) ?_
            have d31_ : Int32.toInt ((M.1 165 (Int32.toNatClampNeg n1)) - 1) < Int32.toInt n2 := (zi_lt _ _).mp c30_
            show PW 43 d (36, [some (pvR 124), some (pvI n1), some (pvI n2), some (pvJ n3), none], [pvI 0], M) _
            refine pw_ifn hT (c := 0 = 0) rfl rfl (fun c32_ => absurd (by decide) c32_) (fun c32_ => ?_)
            refine pw_blk hT 1 (S' := (41, [some (pvR 124), some (pvI n1), some (pvI n2), some (pvJ n3), none], [pvI (-13)], M)) rfl ⟨trivial, trivial⟩ ?_
            exact pw_ret hT rfl (r := some (pvI (-13))) (M' := M) ⟨rfl, rfl⟩ ⟨⟨_, rfl, (zr_wide (show (-13) ≤ Int32.toInt (-13) ∧ Int32.toInt (-13) ≤ (-13) from (by decide)) (by decide) (by decide))⟩, hok, pvfr_0⟩
          · refine pw_eqI (if_neg c30_) ?_
            have b33_ : 0 ≤ Int32.toInt ((M.1 165 (Int32.toNatClampNeg n1)) - 1) ∧ Int32.toInt ((M.1 165 (Int32.toNatClampNeg n1)) - 1) ≤ 59 := zr_nlt_l 0 c30_ b19_ b29_ (by decide)
            have b34_ : 0 ≤ Int32.toInt n2 ∧ Int32.toInt n2 ≤ 59 := zr_nlt_r 59 c30_ b29_ b33_ (by decide)
            have d35_ : Int32.toInt ((M.1 165 (Int32.toNatClampNeg n1)) - 1) ≥ Int32.toInt n2 := Int.not_lt.mp ((not_congr (zi_lt _ _)).mp c30_)
            show PW 43 d (36, [some (pvR 124), some (pvI n1), some (pvI n2), some (pvJ n3), none], [pvI 1], M) _
            refine pw_ifn hT (c := 1 = 0) rfl rfl (fun c36_ => ?_) (fun c36_ => absurd c36_ (by decide))
            have q37_ : Int32.toInt (60 * n1) = 60 * Int32.toInt n1 := by have u0 : Int32.toInt 60 = 60 := (by decide); have u1 := b13_; have u2 := zmul 60 n1 (by rw [u0]; omega) (by rw [u0]; omega); rw [u0] at u2; omega
            have b38_ : 0 ≤ Int32.toInt (60 * n1) ∧ Int32.toInt (60 * n1) ≤ 300 := (by have u1 := b13_; omega)
            obtain ⟨q40_, b39_⟩ : (Int32.toInt ((60 * n1) + n2) = Int32.toInt (60 * n1) + Int32.toInt n2) ∧ (0 ≤ Int32.toInt ((60 * n1) + n2) ∧ Int32.toInt ((60 * n1) + n2) ≤ 359) := zadd_r (60 * n1) n2 0 359 b38_ b34_ (by decide) (by decide) (by decide) (by decide)
            refine pw_blk hT 13 (S' := (60, [some (pvR 124), some (pvI n1), some (pvI n2), some (pvJ n3), none], [pvJ n3, pvI (M.1 164 (Int32.toNatClampNeg n1)), pvR 124, pvI ((60 * n1) + n2), pvR 166], M)) rfl ⟨trivial, rfl, trivial, trivial, trivial, trivial, trivial, trivial, trivial, rfl, trivial, ⟨rfl, (zr_in (n := 6) b13_ (by decide) (by decide))⟩, trivial, trivial⟩ ?_
            refine pw_callJp hT (as := [pvR 124, pvI (M.1 164 (Int32.toNatClampNeg n1)), pvJ n3]) (lo1 := [some (pvR 124), some (pvI (M.1 164 (Int32.toNatClampNeg n1))), some (pvJ n3), none]) (d1 := d) (rest := [pvI ((60 * n1) + n2), pvR 166]) rfl rfl rfl rfl rfl (fun _ => rfl) (Nat.zero_le _) rfl rfl rfl (sf_X10_narrow_124_x_x M hok (M.1 164 (Int32.toNatClampNeg n1)) n3 d) (fun x41_ b43_ => ?_)
            refine pw_blkw hT 1 (pc := 64) (lo := [some (pvR 124), some (pvI n1), some (pvI n2), some (pvJ n3), none]) (st := []) (M := pvw M 166 (Int32.toNatClampNeg ((60 * n1) + n2)) x41_) rfl ⟨⟨rfl, (zr_in (n := 360) b39_ (by decide) (by decide))⟩, trivial⟩ (fun M46_ e47_ => ?_)
            have o48_ : pvOk M46_ := pvok_w e47_ hok
            have f49_ : pvFr fp_X10_item_124_x_x_x M M46_ := pvfr_w e47_ pvfr_0
            refine pw_blk hT 1 (S' := (65, [some (pvR 124), some (pvI n1), some (pvI n2), some (pvJ n3), none], [pvI 1], M46_)) rfl ⟨trivial, trivial⟩ ?_
            exact pw_ret hT rfl (r := some (pvI 1)) (M' := M46_) ⟨rfl, rfl⟩ ⟨⟨_, rfl, (zr_wide (show 1 ≤ Int32.toInt 1 ∧ Int32.toInt 1 ≤ 1 from (by decide)) (by decide) (by decide))⟩, o48_, f49_⟩
      · have b50_ : (-1) ≤ Int32.toInt (M.1 164 (Int32.toNatClampNeg n1)) ∧ Int32.toInt (M.1 164 (Int32.toNatClampNeg n1)) ≤ (-1) := zr_nle_r (-1) c16_ b15_ (show 0 ≤ Int32.toInt 0 ∧ Int32.toInt 0 ≤ 0 from (by decide)) (by decide)
        refine pw_blk hT 1 (S' := (21, [some (pvR 124), some (pvI n1), some (pvI n2), some (pvJ n3), none], [pvI (-11)], M)) rfl ⟨trivial, trivial⟩ ?_
        exact pw_ret hT rfl (r := some (pvI (-11))) (M' := M) ⟨rfl, rfl⟩ ⟨⟨_, rfl, (zr_wide (show (-11) ≤ Int32.toInt (-11) ∧ Int32.toInt (-11) ≤ (-11) from (by decide)) (by decide) (by decide))⟩, hok, pvfr_0⟩
set_option maxHeartbeats 4000000 in
set_option maxRecDepth 10000 in
theorem sf_X10_judge_124_x_x (M : pvM) (hok : pvOk M) (n1 : Int32) (n2 : Int32) (d : Nat) : PW 44 d (0, [some (pvR 124), some (pvI n1), some (pvI n2), none], [], M) (fun r X => (∃ x : Int32, r = some (pvI x) ∧ (-12) ≤ Int32.toInt x ∧ Int32.toInt x ≤ 106) ∧ X = M) := by
  have hT : pvdom 44 = pvD_44 := rfl
  refine pw_blk hT 2 (S' := (2, [some (pvR 124), some (pvI n1), some (pvI n2), none], [pvI n1, pvR 124], M)) rfl ⟨trivial, trivial, trivial⟩ ?_
  refine pw_callT hT (as := [pvR 124, pvI n1]) (lo1 := [some (pvR 124), some (pvI n1)]) (d1 := d) (rest := []) rfl rfl rfl rfl rfl (fun _ => rfl) (Nat.zero_le _) rfl rfl rfl (sf_X10_isTape_124_x M hok n1 d) ?_
  by_cases c6_ : n1 < 0
  · refine pw_eqI (if_pos c6_) ?_
    have b7_ : (-2147483648) ≤ Int32.toInt n1 ∧ Int32.toInt n1 ≤ (-1) := zr_lt_l (-1) c6_ (zbnd n1) (show 0 ≤ Int32.toInt 0 ∧ Int32.toInt 0 ≤ 0 from (by decide)) (by decide)
    show PW 44 d (5, [some (pvR 124), some (pvI n1), some (pvI n2), none], [pvI 0], M) _
    refine pw_ifn hT (c := 0 = 0) rfl rfl (fun c8_ => absurd (by decide) c8_) (fun c8_ => ?_)
    refine pw_blk hT 1 (S' := (9, [some (pvR 124), some (pvI n1), some (pvI n2), none], [pvI (-1)], M)) rfl ⟨trivial, trivial⟩ ?_
    exact pw_ret hT rfl (r := some (pvI (-1))) (M' := M) ⟨rfl, rfl⟩ ⟨⟨_, rfl, (zr_wide (show (-1) ≤ Int32.toInt (-1) ∧ Int32.toInt (-1) ≤ (-1) from (by decide)) (by decide) (by decide))⟩, rfl⟩
  · refine pw_eqI (if_neg c6_) ?_
    have b9_ : 0 ≤ Int32.toInt n1 ∧ Int32.toInt n1 ≤ 2147483647 := zr_nlt_l 0 c6_ (zbnd n1) (show 0 ≤ Int32.toInt 0 ∧ Int32.toInt 0 ≤ 0 from (by decide)) (by decide)
    by_cases c10_ : 5 < n1
    · refine pw_eqI (if_pos c10_) ?_
      have b11_ : 6 ≤ Int32.toInt n1 ∧ Int32.toInt n1 ≤ 2147483647 := zr_lt_r 6 c10_ b9_ (show 5 ≤ Int32.toInt 5 ∧ Int32.toInt 5 ≤ 5 from (by decide)) (by decide)
      show PW 44 d (5, [some (pvR 124), some (pvI n1), some (pvI n2), none], [pvI 0], M) _
      refine pw_ifn hT (c := 0 = 0) rfl rfl (fun c12_ => absurd (by decide) c12_) (fun c12_ => ?_)
      refine pw_blk hT 1 (S' := (9, [some (pvR 124), some (pvI n1), some (pvI n2), none], [pvI (-1)], M)) rfl ⟨trivial, trivial⟩ ?_
      exact pw_ret hT rfl (r := some (pvI (-1))) (M' := M) ⟨rfl, rfl⟩ ⟨⟨_, rfl, (zr_wide (show (-1) ≤ Int32.toInt (-1) ∧ Int32.toInt (-1) ≤ (-1) from (by decide)) (by decide) (by decide))⟩, rfl⟩
    · refine pw_eqI (if_neg c10_) ?_
      have b13_ : 0 ≤ Int32.toInt n1 ∧ Int32.toInt n1 ≤ 5 := zr_nlt_r 5 c10_ b9_ (show 5 ≤ Int32.toInt 5 ∧ Int32.toInt 5 ≤ 5 from (by decide)) (by decide)
      show PW 44 d (5, [some (pvR 124), some (pvI n1), some (pvI n2), none], [pvI 1], M) _
      refine pw_ifn hT (c := 1 = 0) rfl rfl (fun c14_ => ?_) (fun c14_ => absurd c14_ (by decide))
      have b15_ : (-1) ≤ Int32.toInt (M.1 164 (Int32.toNatClampNeg n1)) ∧ Int32.toInt (M.1 164 (Int32.toNatClampNeg n1)) ≤ 4 := pvok_r hok 164 (Int32.toNatClampNeg n1) rfl
      refine pw_blk hT 4 (S' := (16, [some (pvR 124), some (pvI n1), some (pvI n2), none], [pvI (M.1 164 (Int32.toNatClampNeg n1))], M)) rfl ⟨trivial, rfl, trivial, ⟨rfl, (zr_in (n := 6) b13_ (by decide) (by decide))⟩, trivial⟩ ?_
      refine pw_if hT (c := (M.1 164 (Int32.toNatClampNeg n1)) < 0) rfl rfl (fun c16_ => ?_) (fun c16_ => ?_)
      · have b17_ : (-1) ≤ Int32.toInt (M.1 164 (Int32.toNatClampNeg n1)) ∧ Int32.toInt (M.1 164 (Int32.toNatClampNeg n1)) ≤ (-1) := zr_lt_l (-1) c16_ b15_ (show 0 ≤ Int32.toInt 0 ∧ Int32.toInt 0 ≤ 0 from (by decide)) (by decide)
        refine pw_blk hT 2 (S' := (34, [some (pvR 124), some (pvI n1), some (pvI n2), some (pvI 0)], [], M)) rfl ⟨trivial, trivial, trivial⟩ ?_
        have hlz28_ : ∀ (nz28_ : Nat) (i3z28_ : Int32), (0 ≤ Int32.toInt i3z28_ ∧ Int32.toInt i3z28_ ≤ 0) → (zhide (0 < nz28_)) → PW 44 d (34, [some (pvR 124), some (pvI n1), some (pvI n2), some (pvI i3z28_)], [], M) (fun r X => (∃ x : Int32, r = some (pvI x) ∧ (-12) ≤ Int32.toInt x ∧ Int32.toInt x ≤ 106) ∧ X = M) := by
          intro nz28_
          induction nz28_ with
          | zero => intro i3z28_ h3z28_ hmz28_; exact absurd (zshow hmz28_) (Nat.not_lt_zero _)
          | succ nz28_ ihz28_ =>
            intro i3z28_ h3z28_ hmz28_
            have b29_ : 0 ≤ Int32.toInt (M.1 124 0) ∧ Int32.toInt (M.1 124 0) ≤ 7 := pvok_r hok 124 0 rfl
            refine pw_blk hT 3 (S' := (39, [some (pvR 124), some (pvI n1), some (pvI n2), some (pvI i3z28_)], [pvI (M.1 124 0), pvI i3z28_], M)) rfl ⟨trivial, trivial, rfl, trivial⟩ ?_
            refine pw_ic hT (c := (M.1 124 0) ≤ i3z28_) rfl rfl (fun c30_ => ?_) (fun c30_ => ?_)
            · have b31_ : 0 ≤ Int32.toInt (M.1 124 0) ∧ Int32.toInt (M.1 124 0) ≤ 0 := zr_le_l 0 c30_ b29_ h3z28_ (by decide)
              have d32_ : Int32.toInt (M.1 124 0) ≤ Int32.toInt i3z28_ := (zi_le _ _).mp c30_
              refine pw_blk hT 1 (S' := (115, [some (pvR 124), some (pvI n1), some (pvI n2), some (pvI i3z28_)], [pvI (-5)], M)) rfl ⟨trivial, trivial⟩ ?_
              exact pw_ret hT rfl (r := some (pvI (-5))) (M' := M) ⟨rfl, rfl⟩ ⟨⟨_, rfl, (zr_wide (show (-5) ≤ Int32.toInt (-5) ∧ Int32.toInt (-5) ≤ (-5) from (by decide)) (by decide) (by decide))⟩, rfl⟩
            · have b33_ : 1 ≤ Int32.toInt (M.1 124 0) ∧ Int32.toInt (M.1 124 0) ≤ 7 := zr_nle_l 1 c30_ b29_ h3z28_ (by decide)
              have d34_ : Int32.toInt (M.1 124 0) > Int32.toInt i3z28_ := Int.not_le.mp ((not_congr (zi_le _ _)).mp c30_)
              refine pw_blk hT 4 (S' := (48, [some (pvR 124), some (pvI n1), some (pvI n2), some (pvI i3z28_)], [pvI (M.1 164 (Int32.toNatClampNeg n1))], M)) rfl ⟨trivial, rfl, trivial, ⟨rfl, (zr_in (n := 6) b13_ (by decide) (by decide))⟩, trivial⟩ ?_
              refine pw_if hT (c := (M.1 164 (Int32.toNatClampNeg n1)) < 0) rfl rfl (fun c35_ => ?_) (fun c35_ => absurd c16_ c35_)
              obtain ⟨q37_, b36_⟩ : (Int32.toInt (100 + i3z28_) = 100 + Int32.toInt i3z28_) ∧ (100 ≤ Int32.toInt (100 + i3z28_) ∧ Int32.toInt (100 + i3z28_) ≤ 100) := zadd_q 100 i3z28_ 100 100 100 h3z28_ (by decide) (by decide) (by decide) (by decide) (by decide)
              refine pw_blk hT 3 (S' := (73, [some (pvR 124), some (pvI n1), some (pvI n2), some (pvI i3z28_)], [pvI (100 + i3z28_)], M)) rfl ⟨trivial, trivial, trivial, trivial⟩ ?_
              exact pw_ret hT rfl (r := some (pvI (100 + i3z28_))) (M' := M) ⟨rfl, rfl⟩ ⟨⟨_, rfl, (zr_wide b36_ (by decide) (by decide))⟩, rfl⟩
        exact hlz28_ _ 0 (show 0 ≤ Int32.toInt 0 ∧ Int32.toInt 0 ≤ 0 from (by decide)) (zhid (Nat.lt_succ_self _))
      · have b38_ : 0 ≤ Int32.toInt (M.1 164 (Int32.toNatClampNeg n1)) ∧ Int32.toInt (M.1 164 (Int32.toNatClampNeg n1)) ≤ 4 := zr_nlt_l 0 c16_ b15_ (show 0 ≤ Int32.toInt 0 ∧ Int32.toInt 0 ≤ 0 from (by decide)) (by decide)
        refine pw_blk hT 5 (S' := (26, [some (pvR 124), some (pvI n1), some (pvI n2), none], [pvI 4, pvI (M.1 164 (Int32.toNatClampNeg n1))], M)) rfl ⟨trivial, rfl, trivial, ⟨rfl, (zr_in (n := 6) b13_ (by decide) (by decide))⟩, trivial, trivial⟩ ?_
        refine pw_ic hT (c := (M.1 164 (Int32.toNatClampNeg n1)) = 4) rfl rfl (fun c39_ => ?_) (fun c39_ => ?_)
        · have b40_ : 4 ≤ Int32.toInt (M.1 164 (Int32.toNatClampNeg n1)) ∧ Int32.toInt (M.1 164 (Int32.toNatClampNeg n1)) ≤ 4 := (by have u0 := b38_; have u1 := (zi_eq _ _).mp c39_; have u2 := (show 4 ≤ Int32.toInt 4 ∧ Int32.toInt 4 ≤ 4 from (by decide)); omega)
          refine pw_blk hT 2 (S' := (34, [some (pvR 124), some (pvI n1), some (pvI n2), some (pvI 0)], [], M)) rfl ⟨trivial, trivial, trivial⟩ ?_
          have hlz170_ : ∀ (nz170_ : Nat) (i3z170_ : Int32), (0 ≤ Int32.toInt i3z170_ ∧ Int32.toInt i3z170_ ≤ 7) → (zhide ((8 - Int32.toInt i3z170_).toNat < nz170_)) → PW 44 d (34, [some (pvR 124), some (pvI n1), some (pvI n2), some (pvI i3z170_)], [], M) (fun r X => (∃ x : Int32, r = some (pvI x) ∧ (-12) ≤ Int32.toInt x ∧ Int32.toInt x ≤ 106) ∧ X = M) := by
            intro nz170_
            induction nz170_ with
            | zero => intro i3z170_ h3z170_ hmz170_; exact absurd (zshow hmz170_) (Nat.not_lt_zero _)
            | succ nz170_ ihz170_ =>
              intro i3z170_ h3z170_ hmz170_
              have b171_ : 0 ≤ Int32.toInt (M.1 124 0) ∧ Int32.toInt (M.1 124 0) ≤ 7 := pvok_r hok 124 0 rfl
              refine pw_blk hT 3 (S' := (39, [some (pvR 124), some (pvI n1), some (pvI n2), some (pvI i3z170_)], [pvI (M.1 124 0), pvI i3z170_], M)) rfl ⟨trivial, trivial, rfl, trivial⟩ ?_
              refine pw_ic hT (c := (M.1 124 0) ≤ i3z170_) rfl rfl (fun c172_ => ?_) (fun c172_ => ?_)
              · have d173_ : Int32.toInt (M.1 124 0) ≤ Int32.toInt i3z170_ := (zi_le _ _).mp c172_
                refine pw_blk hT 1 (S' := (115, [some (pvR 124), some (pvI n1), some (pvI n2), some (pvI i3z170_)], [pvI (-5)], M)) rfl ⟨trivial, trivial⟩ ?_
                exact pw_ret hT rfl (r := some (pvI (-5))) (M' := M) ⟨rfl, rfl⟩ ⟨⟨_, rfl, (zr_wide (show (-5) ≤ Int32.toInt (-5) ∧ Int32.toInt (-5) ≤ (-5) from (by decide)) (by decide) (by decide))⟩, rfl⟩
              · have b174_ : 1 ≤ Int32.toInt (M.1 124 0) ∧ Int32.toInt (M.1 124 0) ≤ 7 := zr_nle_l 1 c172_ b171_ h3z170_ (by decide)
                have b175_ : 0 ≤ Int32.toInt i3z170_ ∧ Int32.toInt i3z170_ ≤ 6 := zr_nle_r 6 c172_ h3z170_ b174_ (by decide)
                have d176_ : Int32.toInt (M.1 124 0) > Int32.toInt i3z170_ := Int.not_le.mp ((not_congr (zi_le _ _)).mp c172_)
                refine pw_blk hT 4 (S' := (48, [some (pvR 124), some (pvI n1), some (pvI n2), some (pvI i3z170_)], [pvI (M.1 164 (Int32.toNatClampNeg n1))], M)) rfl ⟨trivial, rfl, trivial, ⟨rfl, (zr_in (n := 6) b13_ (by decide) (by decide))⟩, trivial⟩ ?_
                refine pw_if hT (c := (M.1 164 (Int32.toNatClampNeg n1)) < 0) rfl rfl (fun c177_ => absurd c177_ c16_) (fun c177_ => ?_)
                refine pw_blk hT 1 (S' := (52, [some (pvR 124), some (pvI n1), some (pvI n2), some (pvI i3z170_)], [pvI n2], M)) rfl ⟨trivial, trivial⟩ ?_
                refine pw_if hT (c := n2 < 0) rfl rfl (fun c178_ => ?_) (fun c178_ => ?_)
                · have b179_ : (-2147483648) ≤ Int32.toInt n2 ∧ Int32.toInt n2 ≤ (-1) := zr_lt_l (-1) c178_ (zbnd n2) (show 0 ≤ Int32.toInt 0 ∧ Int32.toInt 0 ≤ 0 from (by decide)) (by decide)
                  obtain ⟨q181_, b180_⟩ : (Int32.toInt (100 + i3z170_) = 100 + Int32.toInt i3z170_) ∧ (100 ≤ Int32.toInt (100 + i3z170_) ∧ Int32.toInt (100 + i3z170_) ≤ 106) := zadd_q 100 i3z170_ 100 100 106 b175_ (by decide) (by decide) (by decide) (by decide) (by decide)
                  refine pw_blk hT 3 (S' := (73, [some (pvR 124), some (pvI n1), some (pvI n2), some (pvI i3z170_)], [pvI (100 + i3z170_)], M)) rfl ⟨trivial, trivial, trivial, trivial⟩ ?_
                  exact pw_ret hT rfl (r := some (pvI (100 + i3z170_))) (M' := M) ⟨rfl, rfl⟩ ⟨⟨_, rfl, (zr_wide b180_ (by decide) (by decide))⟩, rfl⟩
                · have b182_ : 0 ≤ Int32.toInt n2 ∧ Int32.toInt n2 ≤ 2147483647 := zr_nlt_l 0 c178_ (zbnd n2) (show 0 ≤ Int32.toInt 0 ∧ Int32.toInt 0 ≤ 0 from (by decide)) (by decide)
                  have b183_ : 0 ≤ Int32.toInt (M.1 165 (Int32.toNatClampNeg n1)) ∧ Int32.toInt (M.1 165 (Int32.toNatClampNeg n1)) ≤ 60 := pvok_r hok 165 (Int32.toNatClampNeg n1) rfl
                  obtain ⟨q185_, b184_⟩ : (Int32.toInt ((M.1 165 (Int32.toNatClampNeg n1)) - i3z170_) = Int32.toInt (M.1 165 (Int32.toNatClampNeg n1)) - Int32.toInt i3z170_) ∧ ((-6) ≤ Int32.toInt ((M.1 165 (Int32.toNatClampNeg n1)) - i3z170_) ∧ Int32.toInt ((M.1 165 (Int32.toNatClampNeg n1)) - i3z170_) ≤ 60) := zsub_r (M.1 165 (Int32.toNatClampNeg n1)) i3z170_ (-6) 60 b183_ b175_ (by decide) (by decide) (by decide) (by decide)
                  obtain ⟨q187_, b186_⟩ : (Int32.toInt (((M.1 165 (Int32.toNatClampNeg n1)) - i3z170_) - 1) = Int32.toInt ((M.1 165 (Int32.toNatClampNeg n1)) - i3z170_) - 1) ∧ ((-7) ≤ Int32.toInt (((M.1 165 (Int32.toNatClampNeg n1)) - i3z170_) - 1) ∧ Int32.toInt (((M.1 165 (Int32.toNatClampNeg n1)) - i3z170_) - 1) ≤ 59) := zsub_k ((M.1 165 (Int32.toNatClampNeg n1)) - i3z170_) 1 1 (-7) 59 b184_ (by decide) (by decide) (by decide) (by decide) (by decide)
                  refine pw_blk hT 9 (S' := (66, [some (pvR 124), some (pvI n1), some (pvI n2), some (pvI i3z170_)], [pvI (((M.1 165 (Int32.toNatClampNeg n1)) - i3z170_) - 1), pvI n2], M)) rfl ⟨trivial, trivial, rfl, trivial, ⟨rfl, (zr_in (n := 6) b13_ (by decide) (by decide))⟩, trivial, trivial, trivial, trivial, trivial⟩ ?_
                  refine pw_ic hT (c := n2 ≤ (((M.1 165 (Int32.toNatClampNeg n1)) - i3z170_) - 1)) rfl rfl (fun c188_ => ?_) (fun c188_ => ?_)
                  · have b189_ : 0 ≤ Int32.toInt n2 ∧ Int32.toInt n2 ≤ 59 := zr_le_l 59 c188_ b182_ b186_ (by decide)
                    have b190_ : 0 ≤ Int32.toInt (((M.1 165 (Int32.toNatClampNeg n1)) - i3z170_) - 1) ∧ Int32.toInt (((M.1 165 (Int32.toNatClampNeg n1)) - i3z170_) - 1) ≤ 59 := zr_le_r 0 c188_ b186_ b189_ (by decide)
                    have d191_ : Int32.toInt n2 ≤ Int32.toInt (((M.1 165 (Int32.toNatClampNeg n1)) - i3z170_) - 1) := (zi_le _ _).mp c188_
                    have q192_ : Int32.toInt (60 * n1) = 60 * Int32.toInt n1 := by have u0 : Int32.toInt 60 = 60 := (by decide); have u1 := b13_; have u2 := zmul 60 n1 (by rw [u0]; omega) (by rw [u0]; omega); rw [u0] at u2; omega
                    have b193_ : 0 ≤ Int32.toInt (60 * n1) ∧ Int32.toInt (60 * n1) ≤ 300 := (by have u1 := b13_; omega)
                    obtain ⟨q195_, b194_⟩ : (Int32.toInt ((60 * n1) + n2) = Int32.toInt (60 * n1) + Int32.toInt n2) ∧ (0 ≤ Int32.toInt ((60 * n1) + n2) ∧ Int32.toInt ((60 * n1) + n2) ≤ 359) := zadd_r (60 * n1) n2 0 359 b193_ b189_ (by decide) (by decide) (by decide) (by decide)
                    obtain ⟨q197_, b196_⟩ : (Int32.toInt (((60 * n1) + n2) + i3z170_) = Int32.toInt ((60 * n1) + n2) + Int32.toInt i3z170_) ∧ (0 ≤ Int32.toInt (((60 * n1) + n2) + i3z170_) ∧ Int32.toInt (((60 * n1) + n2) + i3z170_) ≤ 365) := zadd_r ((60 * n1) + n2) i3z170_ 0 365 b194_ b175_ (by decide) (by decide) (by decide) (by decide)
                    have b198_ : 0 ≤ Int32.toInt (M.1 131 (Int32.toNatClampNeg i3z170_)) ∧ Int32.toInt (M.1 131 (Int32.toNatClampNeg i3z170_)) ≤ 1 := pvok_r hok 131 (Int32.toNatClampNeg i3z170_) rfl
                    refine pw_blk hT 14 (S' := (93, [some (pvR 124), some (pvI n1), some (pvI n2), some (pvI i3z170_)], [pvI (M.1 131 (Int32.toNatClampNeg i3z170_)), pvJ (M.2 166 (Int32.toNatClampNeg (((60 * n1) + n2) + i3z170_)))], M)) rfl ⟨trivial, rfl, trivial, trivial, trivial, trivial, trivial, trivial, trivial, ⟨rfl, (vp_in_iff.mpr (show 0 ≤ Int32.toInt (((60 * n1) + n2) + i3z170_) ∧ Int32.toInt (((60 * n1) + n2) + i3z170_) < ((360 : Nat) : Int) from (by have u0 := b196_; omega)))⟩, trivial, rfl, trivial, ⟨rfl, (zr_in (n := 7) b175_ (by decide) (by decide))⟩, trivial⟩ ?_
                    refine pw_if hT (c := (M.1 131 (Int32.toNatClampNeg i3z170_)) = 0) rfl rfl (fun c199_ => ?_) (fun c199_ => ?_)
                    · have b200_ : 0 ≤ Int32.toInt (M.1 131 (Int32.toNatClampNeg i3z170_)) ∧ Int32.toInt (M.1 131 (Int32.toNatClampNeg i3z170_)) ≤ 0 := (by have u0 := b198_; have u1 := (zi_eq _ _).mp c199_; have u2 := (show 0 ≤ Int32.toInt 0 ∧ Int32.toInt 0 ≤ 0 from (by decide)); omega)
                      refine pw_blk hT 2 (S' := (102, [some (pvR 124), some (pvI n1), some (pvI n2), some (pvI i3z170_)], [pvI (lg_cmp (M.2 166 (Int32.toNatClampNeg (((60 * n1) + n2) + i3z170_))) 0)], M)) rfl ⟨trivial, trivial, trivial⟩ ?_
                      refine pw_if hT (c := (lg_cmp (M.2 166 (Int32.toNatClampNeg (((60 * n1) + n2) + i3z170_))) 0) = 0) rfl rfl (fun c201_ => ?_) (fun c201_ => ?_)
                      · have b202_ : 0 ≤ Int32.toInt (lg_cmp (M.2 166 (Int32.toNatClampNeg (((60 * n1) + n2) + i3z170_))) 0) ∧ Int32.toInt (lg_cmp (M.2 166 (Int32.toNatClampNeg (((60 * n1) + n2) + i3z170_))) 0) ≤ 0 := (by have u0 := (zbnd (lg_cmp (M.2 166 (Int32.toNatClampNeg (((60 * n1) + n2) + i3z170_))) 0)); have u1 := (zi_eq _ _).mp c201_; have u2 := (show 0 ≤ Int32.toInt 0 ∧ Int32.toInt 0 ≤ 0 from (by decide)); omega)
                        obtain ⟨q204_, b203_⟩ : (Int32.toInt (i3z170_ + 1) = Int32.toInt i3z170_ + 1) ∧ (1 ≤ Int32.toInt (i3z170_ + 1) ∧ Int32.toInt (i3z170_ + 1) ≤ 7) := zadd_k i3z170_ 1 1 1 7 b175_ (by decide) (by decide) (by decide) (by decide) (by decide)
                        refine pw_blk hT 2 (S' := (34, [some (pvR 124), some (pvI n1), some (pvI n2), some (pvI (i3z170_ + 1))], [], M)) rfl ⟨trivial, trivial, trivial⟩ ?_
                        exact ihz170_ (i3z170_ + 1) (zr_wide b203_ (by decide) (by decide)) (zhid (pvms_up (zshow hmz170_) h3z170_ q204_ (by decide) (by decide)))
                      · refine pw_blk hT 1 (S' := (106, [some (pvR 124), some (pvI n1), some (pvI n2), some (pvI i3z170_)], [pvI i3z170_], M)) rfl ⟨trivial, trivial⟩ ?_
                        exact pw_ret hT rfl (r := some (pvI i3z170_)) (M' := M) ⟨rfl, rfl⟩ ⟨⟨_, rfl, (zr_wide b175_ (by decide) (by decide))⟩, rfl⟩
                    · have b205_ : 1 ≤ Int32.toInt (M.1 131 (Int32.toNatClampNeg i3z170_)) ∧ Int32.toInt (M.1 131 (Int32.toNatClampNeg i3z170_)) ≤ 1 := (by have u0 := b198_; have u1 := (not_congr (zi_eq _ _)).mp c199_; have u2 := (show 0 ≤ Int32.toInt 0 ∧ Int32.toInt 0 ≤ 0 from (by decide)); omega)
                      refine pw_blk hT 3 (S' := (102, [some (pvR 124), some (pvI n1), some (pvI n2), some (pvI i3z170_)], [pvI (lg_cmp (M.2 166 (Int32.toNatClampNeg (((60 * n1) + n2) + i3z170_))) 1)], M)) rfl ⟨trivial, trivial, trivial, trivial⟩ ?_
                      refine pw_if hT (c := (lg_cmp (M.2 166 (Int32.toNatClampNeg (((60 * n1) + n2) + i3z170_))) 1) = 0) rfl rfl (fun c206_ => ?_) (fun c206_ => ?_)
                      · have b207_ : 0 ≤ Int32.toInt (lg_cmp (M.2 166 (Int32.toNatClampNeg (((60 * n1) + n2) + i3z170_))) 1) ∧ Int32.toInt (lg_cmp (M.2 166 (Int32.toNatClampNeg (((60 * n1) + n2) + i3z170_))) 1) ≤ 0 := (by have u0 := (zbnd (lg_cmp (M.2 166 (Int32.toNatClampNeg (((60 * n1) + n2) + i3z170_))) 1)); have u1 := (zi_eq _ _).mp c206_; have u2 := (show 0 ≤ Int32.toInt 0 ∧ Int32.toInt 0 ≤ 0 from (by decide)); omega)
                        obtain ⟨q209_, b208_⟩ : (Int32.toInt (i3z170_ + 1) = Int32.toInt i3z170_ + 1) ∧ (1 ≤ Int32.toInt (i3z170_ + 1) ∧ Int32.toInt (i3z170_ + 1) ≤ 7) := zadd_k i3z170_ 1 1 1 7 b175_ (by decide) (by decide) (by decide) (by decide) (by decide)
                        refine pw_blk hT 2 (S' := (34, [some (pvR 124), some (pvI n1), some (pvI n2), some (pvI (i3z170_ + 1))], [], M)) rfl ⟨trivial, trivial, trivial⟩ ?_
                        exact ihz170_ (i3z170_ + 1) (zr_wide b208_ (by decide) (by decide)) (zhid (pvms_up (zshow hmz170_) h3z170_ q209_ (by decide) (by decide)))
                      · refine pw_blk hT 1 (S' := (106, [some (pvR 124), some (pvI n1), some (pvI n2), some (pvI i3z170_)], [pvI i3z170_], M)) rfl ⟨trivial, trivial⟩ ?_
                        exact pw_ret hT rfl (r := some (pvI i3z170_)) (M' := M) ⟨rfl, rfl⟩ ⟨⟨_, rfl, (zr_wide b175_ (by decide) (by decide))⟩, rfl⟩
                  · have d210_ : Int32.toInt n2 > Int32.toInt (((M.1 165 (Int32.toNatClampNeg n1)) - i3z170_) - 1) := Int.not_le.mp ((not_congr (zi_le _ _)).mp c188_)
                    obtain ⟨q212_, b211_⟩ : (Int32.toInt (100 + i3z170_) = 100 + Int32.toInt i3z170_) ∧ (100 ≤ Int32.toInt (100 + i3z170_) ∧ Int32.toInt (100 + i3z170_) ≤ 106) := zadd_q 100 i3z170_ 100 100 106 b175_ (by decide) (by decide) (by decide) (by decide) (by decide)
                    refine pw_blk hT 3 (S' := (73, [some (pvR 124), some (pvI n1), some (pvI n2), some (pvI i3z170_)], [pvI (100 + i3z170_)], M)) rfl ⟨trivial, trivial, trivial, trivial⟩ ?_
                    exact pw_ret hT rfl (r := some (pvI (100 + i3z170_))) (M' := M) ⟨rfl, rfl⟩ ⟨⟨_, rfl, (zr_wide b211_ (by decide) (by decide))⟩, rfl⟩
          exact hlz170_ _ 0 (zr_wide (show 0 ≤ Int32.toInt 0 ∧ Int32.toInt 0 ≤ 0 from (by decide)) (by decide) (by decide)) (zhid (Nat.lt_succ_self _))
        · have b213_ : 0 ≤ Int32.toInt (M.1 164 (Int32.toNatClampNeg n1)) ∧ Int32.toInt (M.1 164 (Int32.toNatClampNeg n1)) ≤ 3 := (by have u0 := b38_; have u1 := (not_congr (zi_eq _ _)).mp c39_; have u2 := (show 4 ≤ Int32.toInt 4 ∧ Int32.toInt 4 ≤ 4 from (by decide)); omega)
          refine pw_blk hT 1 (S' := (31, [some (pvR 124), some (pvI n1), some (pvI n2), none], [pvI (-12)], M)) rfl ⟨trivial, trivial⟩ ?_
          exact pw_ret hT rfl (r := some (pvI (-12))) (M' := M) ⟨rfl, rfl⟩ ⟨⟨_, rfl, (zr_wide (show (-12) ≤ Int32.toInt (-12) ∧ Int32.toInt (-12) ≤ (-12) from (by decide)) (by decide) (by decide))⟩, rfl⟩
def fpL_X10_on_124_x : List (Nat × Nat × Nat) := [(0, 124, 33), (0, 141, 0), (0, 142, 0), (0, 143, 0)]
def fp_X10_on_124_x (q k : Nat) : Bool := pvfp fpL_X10_on_124_x q k
theorem fp_X10_on_124_x_fp_X10_layOpen_124 (a b : Nat) (h : fp_X10_layOpen_124 a b = true) : fp_X10_on_124_x a b = true := pvfp_sub (l1 := fpL_X10_layOpen_124) (l2 := fpL_X10_on_124_x) (by decide) a b h
theorem fp_X10_on_124_x_fp_X10_layRain_124 (a b : Nat) (h : fp_X10_layRain_124 a b = true) : fp_X10_on_124_x a b = true := pvfp_sub (l1 := fpL_X10_layRain_124) (l2 := fpL_X10_on_124_x) (by decide) a b h
set_option maxHeartbeats 4000000 in
set_option maxRecDepth 10000 in
theorem sf_X10_on_124_x (M : pvM) (hok : pvOk M) (n1 : Int32) (hz : pvWF M) (d : Nat) : PW 60 d (0, [some (pvR 124), some (pvI n1)], [], M) (fun r X => (∃ x : Int32, r = some (pvI x) ∧ (-2) ≤ Int32.toInt x ∧ Int32.toInt x ≤ 9000000) ∧ pvOk X ∧ pvFr fp_X10_on_124_x M X) := by
  have hT : pvdom 60 = pvD_60 := rfl
  refine pw_blk hT 4 (S' := (5, [some (pvR 124), some (pvI n1)], [pvI 99, pvI 0, pvI n1, pvR 124], M)) rfl ⟨trivial, trivial, trivial, trivial, trivial⟩ ?_
  refine pw_callT hT (as := [pvR 124, pvI n1, pvI 0, pvI 99]) (lo1 := [some (pvR 124), some (pvI n1), some (pvI 0), some (pvI 99)]) (d1 := d) (rest := []) rfl rfl rfl rfl rfl (fun _ => rfl) (Nat.zero_le _) rfl rfl rfl (sf_X10_in_124_x_x_x M hok n1 0 99 d) ?_
  by_cases c6_ : n1 < 0
  · refine pw_eqI (if_pos c6_) ?_
    have b7_ : (-2147483648) ≤ Int32.toInt n1 ∧ Int32.toInt n1 ≤ (-1) := zr_lt_l (-1) c6_ (zbnd n1) (show 0 ≤ Int32.toInt 0 ∧ Int32.toInt 0 ≤ 0 from (by decide)) (by decide)
    show PW 60 d (8, [some (pvR 124), some (pvI n1)], [pvI 0], M) _
    refine pw_ifn hT (c := 0 = 0) rfl rfl (fun c8_ => absurd (by decide) c8_) (fun c8_ => ?_)
    refine pw_blk hT 1 (S' := (13, [some (pvR 124), some (pvI n1)], [pvI (-2)], M)) rfl ⟨trivial, trivial⟩ ?_
    exact pw_ret hT rfl (r := some (pvI (-2))) (M' := M) ⟨rfl, rfl⟩ ⟨⟨_, rfl, (zr_wide (show (-2) ≤ Int32.toInt (-2) ∧ Int32.toInt (-2) ≤ (-2) from (by decide)) (by decide) (by decide))⟩, hok, pvfr_0⟩
  · refine pw_eqI (if_neg c6_) ?_
    have b9_ : 0 ≤ Int32.toInt n1 ∧ Int32.toInt n1 ≤ 2147483647 := zr_nlt_l 0 c6_ (zbnd n1) (show 0 ≤ Int32.toInt 0 ∧ Int32.toInt 0 ≤ 0 from (by decide)) (by decide)
    by_cases c10_ : 99 < n1
    · refine pw_eqI (if_pos c10_) ?_
      have b11_ : 100 ≤ Int32.toInt n1 ∧ Int32.toInt n1 ≤ 2147483647 := zr_lt_r 100 c10_ b9_ (show 99 ≤ Int32.toInt 99 ∧ Int32.toInt 99 ≤ 99 from (by decide)) (by decide)
      show PW 60 d (8, [some (pvR 124), some (pvI n1)], [pvI 0], M) _
      refine pw_ifn hT (c := 0 = 0) rfl rfl (fun c12_ => absurd (by decide) c12_) (fun c12_ => ?_)
      refine pw_blk hT 1 (S' := (13, [some (pvR 124), some (pvI n1)], [pvI (-2)], M)) rfl ⟨trivial, trivial⟩ ?_
      exact pw_ret hT rfl (r := some (pvI (-2))) (M' := M) ⟨rfl, rfl⟩ ⟨⟨_, rfl, (zr_wide (show (-2) ≤ Int32.toInt (-2) ∧ Int32.toInt (-2) ≤ (-2) from (by decide)) (by decide) (by decide))⟩, hok, pvfr_0⟩
    · refine pw_eqI (if_neg c10_) ?_
      have b13_ : 0 ≤ Int32.toInt n1 ∧ Int32.toInt n1 ≤ 99 := zr_nlt_r 99 c10_ b9_ (show 99 ≤ Int32.toInt 99 ∧ Int32.toInt 99 ≤ 99 from (by decide)) (by decide)
      show PW 60 d (8, [some (pvR 124), some (pvI n1)], [pvI 1], M) _
      refine pw_ifn hT (c := 1 = 0) rfl rfl (fun c14_ => ?_) (fun c14_ => absurd c14_ (by decide))
      refine pw_blk hT 1 (S' := (15, [some (pvR 124), some (pvI n1)], [pvR 124], M)) rfl ⟨trivial, trivial⟩ ?_
      refine pw_callV hT (as := [pvR 124]) (lo1 := [some (pvR 124), none, none]) (d1 := d) (rest := []) rfl rfl rfl rfl rfl (fun _ => rfl) (Nat.zero_le _) rfl rfl rfl (sf_X10_layRain_124 M hok hz d) (fun M16_ o18_ g19_ => ?_)
      have f20_ : pvFr fp_X10_on_124_x M M16_ := pvfr_t g19_ pvfr_0 fp_X10_on_124_x_fp_X10_layRain_124
      refine pw_blk hT 1 (S' := (19, [some (pvR 124), some (pvI n1)], [pvR 124], M16_)) rfl ⟨trivial, trivial⟩ ?_
      refine pw_callV hT (as := [pvR 124]) (lo1 := [some (pvR 124), none]) (d1 := d) (rest := []) rfl rfl rfl rfl rfl (fun _ => rfl) (Nat.zero_le _) rfl rfl rfl (sf_X10_layOpen_124 M16_ o18_ d) (fun M22_ o24_ g25_ => ?_)
      have f26_ : pvFr fp_X10_on_124_x M M22_ := pvfr_t g25_ f20_ fp_X10_on_124_x_fp_X10_layOpen_124
      have b27_ : 0 ≤ Int32.toInt (M22_.1 124 1) ∧ Int32.toInt (M22_.1 124 1) ≤ 9999 := pvok_r o24_ 124 1 rfl
      obtain ⟨q29_, b28_⟩ : (Int32.toInt ((M22_.1 124 1) + n1) = Int32.toInt (M22_.1 124 1) + Int32.toInt n1) ∧ (0 ≤ Int32.toInt ((M22_.1 124 1) + n1) ∧ Int32.toInt ((M22_.1 124 1) + n1) ≤ 10098) := zadd_r (M22_.1 124 1) n1 0 10098 b27_ b13_ (by decide) (by decide) (by decide) (by decide)
      refine pw_blk hT 7 (S' := (33, [some (pvR 124), some (pvI n1)], [pvI ((M22_.1 124 1) + n1), pvI (M22_.1 124 1), pvR 124], M22_)) rfl ⟨trivial, trivial, rfl, trivial, rfl, trivial, trivial, trivial⟩ ?_
      refine pw_callGp hT (as := [pvR 124, pvI (M22_.1 124 1), pvI ((M22_.1 124 1) + n1)]) (lo1 := [some (pvR 124), some (pvI (M22_.1 124 1)), some (pvI ((M22_.1 124 1) + n1)), none, none]) (d1 := d) (rest := []) rfl rfl rfl rfl rfl (fun _ => rfl) (Nat.zero_le _) rfl rfl rfl (sf_X10_harmFrom_124_x_x M22_ o24_ (M22_.1 124 1) ((M22_.1 124 1) + n1) (zr_wide b27_ (by decide) (by decide)) (zr_wide b28_ (by decide) (by decide)) d) (fun x30_ b32_ => ?_)
      exact pw_ret hT rfl (r := some (pvI x30_)) (M' := M22_) ⟨rfl, rfl⟩ ⟨⟨_, rfl, (zr_wide b32_ (by decide) (by decide))⟩, o24_, f26_⟩
set_option maxHeartbeats 4000000 in
set_option maxRecDepth 10000 in
theorem sf_X10_read_124_x_x (M : pvM) (hok : pvOk M) (n1 : Int32) (n2 : Int32) (d : Nat) : PW 68 d (0, [some (pvR 124), some (pvI n1), some (pvI n2)], [], M) (fun r X => (∃ x : Int64, r = some (pvJ x)) ∧ X = M) := by
  have hT : pvdom 68 = pvD_68 := rfl
  refine pw_blk hT 2 (S' := (2, [some (pvR 124), some (pvI n1), some (pvI n2)], [pvI n1, pvR 124], M)) rfl ⟨trivial, trivial, trivial⟩ ?_
  refine pw_callT hT (as := [pvR 124, pvI n1]) (lo1 := [some (pvR 124), some (pvI n1)]) (d1 := d) (rest := []) rfl rfl rfl rfl rfl (fun _ => rfl) (Nat.zero_le _) rfl rfl rfl (sf_X10_isTape_124_x M hok n1 d) ?_
  by_cases c6_ : n1 < 0
  · refine pw_eqI (if_pos c6_) ?_
    have b7_ : (-2147483648) ≤ Int32.toInt n1 ∧ Int32.toInt n1 ≤ (-1) := zr_lt_l (-1) c6_ (zbnd n1) (show 0 ≤ Int32.toInt 0 ∧ Int32.toInt 0 ≤ 0 from (by decide)) (by decide)
    show PW 68 d (5, [some (pvR 124), some (pvI n1), some (pvI n2)], [pvI 0], M) _
    refine pw_if hT (c := 0 = 0) rfl rfl (fun c8_ => ?_) (fun c8_ => absurd (by decide) c8_)
    refine pw_blk hT 2 (S' := (51, [some (pvR 124), some (pvI n1), some (pvI n2)], [pvJ (-9223372036854775808)], M)) rfl ⟨trivial, trivial, trivial⟩ ?_
    exact pw_ret hT rfl (r := some (pvJ (-9223372036854775808))) (M' := M) ⟨rfl, rfl⟩ ⟨⟨_, rfl⟩, rfl⟩
  · refine pw_eqI (if_neg c6_) ?_
    have b9_ : 0 ≤ Int32.toInt n1 ∧ Int32.toInt n1 ≤ 2147483647 := zr_nlt_l 0 c6_ (zbnd n1) (show 0 ≤ Int32.toInt 0 ∧ Int32.toInt 0 ≤ 0 from (by decide)) (by decide)
    by_cases c10_ : 5 < n1
    · refine pw_eqI (if_pos c10_) ?_
      have b11_ : 6 ≤ Int32.toInt n1 ∧ Int32.toInt n1 ≤ 2147483647 := zr_lt_r 6 c10_ b9_ (show 5 ≤ Int32.toInt 5 ∧ Int32.toInt 5 ≤ 5 from (by decide)) (by decide)
      show PW 68 d (5, [some (pvR 124), some (pvI n1), some (pvI n2)], [pvI 0], M) _
      refine pw_if hT (c := 0 = 0) rfl rfl (fun c12_ => ?_) (fun c12_ => absurd (by decide) c12_)
      refine pw_blk hT 2 (S' := (51, [some (pvR 124), some (pvI n1), some (pvI n2)], [pvJ (-9223372036854775808)], M)) rfl ⟨trivial, trivial, trivial⟩ ?_
      exact pw_ret hT rfl (r := some (pvJ (-9223372036854775808))) (M' := M) ⟨rfl, rfl⟩ ⟨⟨_, rfl⟩, rfl⟩
    · refine pw_eqI (if_neg c10_) ?_
      have b13_ : 0 ≤ Int32.toInt n1 ∧ Int32.toInt n1 ≤ 5 := zr_nlt_r 5 c10_ b9_ (show 5 ≤ Int32.toInt 5 ∧ Int32.toInt 5 ≤ 5 from (by decide)) (by decide)
      show PW 68 d (5, [some (pvR 124), some (pvI n1), some (pvI n2)], [pvI 1], M) _
      refine pw_if hT (c := 1 = 0) rfl rfl (fun c14_ => absurd c14_ (by decide)) (fun c14_ => ?_)
      have b15_ : (-1) ≤ Int32.toInt (M.1 164 (Int32.toNatClampNeg n1)) ∧ Int32.toInt (M.1 164 (Int32.toNatClampNeg n1)) ≤ 4 := pvok_r hok 164 (Int32.toNatClampNeg n1) rfl
      refine pw_blk hT 4 (S' := (14, [some (pvR 124), some (pvI n1), some (pvI n2)], [pvI (M.1 164 (Int32.toNatClampNeg n1))], M)) rfl ⟨trivial, rfl, trivial, ⟨rfl, (zr_in (n := 6) b13_ (by decide) (by decide))⟩, trivial⟩ ?_
      refine pw_if hT (c := (M.1 164 (Int32.toNatClampNeg n1)) < 0) rfl rfl (fun c16_ => ?_) (fun c16_ => ?_)
      · have b17_ : (-1) ≤ Int32.toInt (M.1 164 (Int32.toNatClampNeg n1)) ∧ Int32.toInt (M.1 164 (Int32.toNatClampNeg n1)) ≤ (-1) := zr_lt_l (-1) c16_ b15_ (show 0 ≤ Int32.toInt 0 ∧ Int32.toInt 0 ≤ 0 from (by decide)) (by decide)
        refine pw_blk hT 2 (S' := (51, [some (pvR 124), some (pvI n1), some (pvI n2)], [pvJ (-9223372036854775808)], M)) rfl ⟨trivial, trivial, trivial⟩ ?_
        exact pw_ret hT rfl (r := some (pvJ (-9223372036854775808))) (M' := M) ⟨rfl, rfl⟩ ⟨⟨_, rfl⟩, rfl⟩
      · have b18_ : 0 ≤ Int32.toInt (M.1 164 (Int32.toNatClampNeg n1)) ∧ Int32.toInt (M.1 164 (Int32.toNatClampNeg n1)) ≤ 4 := zr_nlt_l 0 c16_ b15_ (show 0 ≤ Int32.toInt 0 ∧ Int32.toInt 0 ≤ 0 from (by decide)) (by decide)
        have b19_ : 0 ≤ Int32.toInt (M.1 165 (Int32.toNatClampNeg n1)) ∧ Int32.toInt (M.1 165 (Int32.toNatClampNeg n1)) ≤ 60 := pvok_r hok 165 (Int32.toNatClampNeg n1) rfl
        obtain ⟨q21_, b20_⟩ : (Int32.toInt ((M.1 165 (Int32.toNatClampNeg n1)) - 1) = Int32.toInt (M.1 165 (Int32.toNatClampNeg n1)) - 1) ∧ ((-1) ≤ Int32.toInt ((M.1 165 (Int32.toNatClampNeg n1)) - 1) ∧ Int32.toInt ((M.1 165 (Int32.toNatClampNeg n1)) - 1) ≤ 59) := zsub_k (M.1 165 (Int32.toNatClampNeg n1)) 1 1 (-1) 59 b19_ (by decide) (by decide) (by decide) (by decide) (by decide)
        refine pw_blk hT 9 (S' := (28, [some (pvR 124), some (pvI n1), some (pvI n2)], [pvI ((M.1 165 (Int32.toNatClampNeg n1)) - 1), pvI 0, pvI n2, pvR 124], M)) rfl ⟨trivial, trivial, trivial, trivial, rfl, trivial, ⟨rfl, (zr_in (n := 6) b13_ (by decide) (by decide))⟩, trivial, trivial, trivial⟩ ?_
        refine pw_callT hT (as := [pvR 124, pvI n2, pvI 0, pvI ((M.1 165 (Int32.toNatClampNeg n1)) - 1)]) (lo1 := [some (pvR 124), some (pvI n2), some (pvI 0), some (pvI ((M.1 165 (Int32.toNatClampNeg n1)) - 1))]) (d1 := d) (rest := []) rfl rfl rfl rfl rfl (fun _ => rfl) (Nat.zero_le _) rfl rfl rfl (sf_X10_in_124_x_x_x M hok n2 0 ((M.1 165 (Int32.toNatClampNeg n1)) - 1) d) ?_
        by_cases c27_ : n2 < 0
        · refine pw_eqI (if_pos c27_) ?_
          have b28_ : (-2147483648) ≤ Int32.toInt n2 ∧ Int32.toInt n2 ≤ (-1) := zr_lt_l (-1) c27_ (zbnd n2) (show 0 ≤ Int32.toInt 0 ∧ Int32.toInt 0 ≤ 0 from (by decide)) (by decide)
          show PW 68 d (31, [some (pvR 124), some (pvI n1), some (pvI n2)], [pvI 0], M) _
          refine pw_ifn hT (c := 0 = 0) rfl rfl (fun c29_ => absurd (by decide) c29_) (fun c29_ => ?_)
          refine pw_blk hT 2 (S' := (51, [some (pvR 124), some (pvI n1), some (pvI n2)], [pvJ (-9223372036854775808)], M)) rfl ⟨trivial, trivial, trivial⟩ ?_
          exact pw_ret hT rfl (r := some (pvJ (-9223372036854775808))) (M' := M) ⟨rfl, rfl⟩ ⟨⟨_, rfl⟩, rfl⟩
        · refine pw_eqI (if_neg c27_) ?_
          have b30_ : 0 ≤ Int32.toInt n2 ∧ Int32.toInt n2 ≤ 2147483647 := zr_nlt_l 0 c27_ (zbnd n2) (show 0 ≤ Int32.toInt 0 ∧ Int32.toInt 0 ≤ 0 from (by decide)) (by decide)
          by_cases c31_ : ((M.1 165 (Int32.toNatClampNeg n1)) - 1) < n2
          · refine pw_eqI (if_pos c31_) ?_
            have d32_ : Int32.toInt ((M.1 165 (Int32.toNatClampNeg n1)) - 1) < Int32.toInt n2 := (zi_lt _ _).mp c31_
            show PW 68 d (31, [some (pvR 124), some (pvI n1), some (pvI n2)], [pvI 0], M) _
            refine pw_ifn hT (c := 0 = 0) rfl rfl (fun c33_ => absurd (by decide) c33_) (fun c33_ => ?_)
            refine pw_blk hT 2 (S' := (51, [some (pvR 124), some (pvI n1), some (pvI n2)], [pvJ (-9223372036854775808)], M)) rfl ⟨trivial, trivial, trivial⟩ ?_
            exact pw_ret hT rfl (r := some (pvJ (-9223372036854775808))) (M' := M) ⟨rfl, rfl⟩ ⟨⟨_, rfl⟩, rfl⟩
          · refine pw_eqI (if_neg c31_) ?_
            have b34_ : 0 ≤ Int32.toInt ((M.1 165 (Int32.toNatClampNeg n1)) - 1) ∧ Int32.toInt ((M.1 165 (Int32.toNatClampNeg n1)) - 1) ≤ 59 := zr_nlt_l 0 c31_ b20_ b30_ (by decide)
            have b35_ : 0 ≤ Int32.toInt n2 ∧ Int32.toInt n2 ≤ 59 := zr_nlt_r 59 c31_ b30_ b34_ (by decide)
            have d36_ : Int32.toInt ((M.1 165 (Int32.toNatClampNeg n1)) - 1) ≥ Int32.toInt n2 := Int.not_lt.mp ((not_congr (zi_lt _ _)).mp c31_)
            show PW 68 d (31, [some (pvR 124), some (pvI n1), some (pvI n2)], [pvI 1], M) _
            refine pw_ifn hT (c := 1 = 0) rfl rfl (fun c37_ => ?_) (fun c37_ => absurd c37_ (by decide))
            have q38_ : Int32.toInt (60 * n1) = 60 * Int32.toInt n1 := by have u0 : Int32.toInt 60 = 60 := (by decide); have u1 := b13_; have u2 := zmul 60 n1 (by rw [u0]; omega) (by rw [u0]; omega); rw [u0] at u2; omega
            have b39_ : 0 ≤ Int32.toInt (60 * n1) ∧ Int32.toInt (60 * n1) ≤ 300 := (by have u1 := b13_; omega)
            obtain ⟨q41_, b40_⟩ : (Int32.toInt ((60 * n1) + n2) = Int32.toInt (60 * n1) + Int32.toInt n2) ∧ (0 ≤ Int32.toInt ((60 * n1) + n2) ∧ Int32.toInt ((60 * n1) + n2) ≤ 359) := zadd_r (60 * n1) n2 0 359 b39_ b35_ (by decide) (by decide) (by decide) (by decide)
            refine pw_blk hT 8 (S' := (51, [some (pvR 124), some (pvI n1), some (pvI n2)], [pvJ (M.2 166 (Int32.toNatClampNeg ((60 * n1) + n2)))], M)) rfl ⟨trivial, rfl, trivial, trivial, trivial, trivial, trivial, ⟨rfl, (zr_in (n := 360) b40_ (by decide) (by decide))⟩, trivial⟩ ?_
            exact pw_ret hT rfl (r := some (pvJ (M.2 166 (Int32.toNatClampNeg ((60 * n1) + n2))))) (M' := M) ⟨rfl, rfl⟩ ⟨⟨_, rfl⟩, rfl⟩
def fpL_X10_shift_124_x_x_x_x_x : List (Nat × Nat × Nat) := []
def fp_X10_shift_124_x_x_x_x_x (q k : Nat) : Bool := pvfp fpL_X10_shift_124_x_x_x_x_x q k
set_option maxHeartbeats 4000000 in
set_option maxRecDepth 10000 in
theorem sf_X10_shift_124_x_x_x_x_x (M : pvM) (hok : pvOk M) (n1 : Int32) (n2 : Int32) (n3 : Int32) (n4 : Int32) (n5 : Int32) (d : Nat) : PW 73 d (0, [some (pvR 124), some (pvI n1), some (pvI n2), some (pvI n3), some (pvI n4), some (pvI n5), none], [], M) (fun r X => (∃ x : Int32, r = some (pvI x) ∧ (-13) ≤ Int32.toInt x ∧ Int32.toInt x ≤ 60) ∧ pvOk X ∧ pvFr fp_X10_shift_124_x_x_x_x_x M X) := by
  have hT : pvdom 73 = pvD_73 := rfl
  refine pw_blk hT 2 (S' := (2, [some (pvR 124), some (pvI n1), some (pvI n2), some (pvI n3), some (pvI n4), some (pvI n5), none], [pvI n1, pvR 124], M)) rfl ⟨trivial, trivial, trivial⟩ ?_
  refine pw_callT hT (as := [pvR 124, pvI n1]) (lo1 := [some (pvR 124), some (pvI n1)]) (d1 := d) (rest := []) rfl rfl rfl rfl rfl (fun _ => rfl) (Nat.zero_le _) rfl rfl rfl (sf_X10_isTape_124_x M hok n1 d) ?_
  by_cases c6_ : n1 < 0
  · refine pw_eqI (if_pos c6_) ?_
    have b7_ : (-2147483648) ≤ Int32.toInt n1 ∧ Int32.toInt n1 ≤ (-1) := zr_lt_l (-1) c6_ (zbnd n1) (show 0 ≤ Int32.toInt 0 ∧ Int32.toInt 0 ≤ 0 from (by decide)) (by decide)
    show PW 73 d (5, [some (pvR 124), some (pvI n1), some (pvI n2), some (pvI n3), some (pvI n4), some (pvI n5), none], [pvI 0], M) _
    refine pw_if hT (c := 0 = 0) rfl rfl (fun c8_ => ?_) (fun c8_ => absurd (by decide) c8_)
    refine pw_blk hT 1 (S' := (17, [some (pvR 124), some (pvI n1), some (pvI n2), some (pvI n3), some (pvI n4), some (pvI n5), none], [pvI (-1)], M)) rfl ⟨trivial, trivial⟩ ?_
    exact pw_ret hT rfl (r := some (pvI (-1))) (M' := M) ⟨rfl, rfl⟩ ⟨⟨_, rfl, (zr_wide (show (-1) ≤ Int32.toInt (-1) ∧ Int32.toInt (-1) ≤ (-1) from (by decide)) (by decide) (by decide))⟩, hok, pvfr_0⟩
  · refine pw_eqI (if_neg c6_) ?_
    have b9_ : 0 ≤ Int32.toInt n1 ∧ Int32.toInt n1 ≤ 2147483647 := zr_nlt_l 0 c6_ (zbnd n1) (show 0 ≤ Int32.toInt 0 ∧ Int32.toInt 0 ≤ 0 from (by decide)) (by decide)
    by_cases c10_ : 5 < n1
    · refine pw_eqI (if_pos c10_) ?_
      have b11_ : 6 ≤ Int32.toInt n1 ∧ Int32.toInt n1 ≤ 2147483647 := zr_lt_r 6 c10_ b9_ (show 5 ≤ Int32.toInt 5 ∧ Int32.toInt 5 ≤ 5 from (by decide)) (by decide)
      show PW 73 d (5, [some (pvR 124), some (pvI n1), some (pvI n2), some (pvI n3), some (pvI n4), some (pvI n5), none], [pvI 0], M) _
      refine pw_if hT (c := 0 = 0) rfl rfl (fun c12_ => ?_) (fun c12_ => absurd (by decide) c12_)
      refine pw_blk hT 1 (S' := (17, [some (pvR 124), some (pvI n1), some (pvI n2), some (pvI n3), some (pvI n4), some (pvI n5), none], [pvI (-1)], M)) rfl ⟨trivial, trivial⟩ ?_
      exact pw_ret hT rfl (r := some (pvI (-1))) (M' := M) ⟨rfl, rfl⟩ ⟨⟨_, rfl, (zr_wide (show (-1) ≤ Int32.toInt (-1) ∧ Int32.toInt (-1) ≤ (-1) from (by decide)) (by decide) (by decide))⟩, hok, pvfr_0⟩
    · refine pw_eqI (if_neg c10_) ?_
      have b13_ : 0 ≤ Int32.toInt n1 ∧ Int32.toInt n1 ≤ 5 := zr_nlt_r 5 c10_ b9_ (show 5 ≤ Int32.toInt 5 ∧ Int32.toInt 5 ≤ 5 from (by decide)) (by decide)
      show PW 73 d (5, [some (pvR 124), some (pvI n1), some (pvI n2), some (pvI n3), some (pvI n4), some (pvI n5), none], [pvI 1], M) _
      refine pw_if hT (c := 1 = 0) rfl rfl (fun c14_ => absurd c14_ (by decide)) (fun c14_ => ?_)
      refine pw_blk hT 2 (S' := (10, [some (pvR 124), some (pvI n1), some (pvI n2), some (pvI n3), some (pvI n4), some (pvI n5), none], [pvI n3, pvR 124], M)) rfl ⟨trivial, trivial, trivial⟩ ?_
      refine pw_callT hT (as := [pvR 124, pvI n3]) (lo1 := [some (pvR 124), some (pvI n3)]) (d1 := d) (rest := []) rfl rfl rfl rfl rfl (fun _ => rfl) (Nat.zero_le _) rfl rfl rfl (sf_X10_isTape_124_x M hok n3 d) ?_
      by_cases c20_ : n3 < 0
      · refine pw_eqI (if_pos c20_) ?_
        have b21_ : (-2147483648) ≤ Int32.toInt n3 ∧ Int32.toInt n3 ≤ (-1) := zr_lt_l (-1) c20_ (zbnd n3) (show 0 ≤ Int32.toInt 0 ∧ Int32.toInt 0 ≤ 0 from (by decide)) (by decide)
        show PW 73 d (13, [some (pvR 124), some (pvI n1), some (pvI n2), some (pvI n3), some (pvI n4), some (pvI n5), none], [pvI 0], M) _
        refine pw_ifn hT (c := 0 = 0) rfl rfl (fun c22_ => absurd (by decide) c22_) (fun c22_ => ?_)
        refine pw_blk hT 1 (S' := (17, [some (pvR 124), some (pvI n1), some (pvI n2), some (pvI n3), some (pvI n4), some (pvI n5), none], [pvI (-1)], M)) rfl ⟨trivial, trivial⟩ ?_
        exact pw_ret hT rfl (r := some (pvI (-1))) (M' := M) ⟨rfl, rfl⟩ ⟨⟨_, rfl, (zr_wide (show (-1) ≤ Int32.toInt (-1) ∧ Int32.toInt (-1) ≤ (-1) from (by decide)) (by decide) (by decide))⟩, hok, pvfr_0⟩
      · refine pw_eqI (if_neg c20_) ?_
        have b23_ : 0 ≤ Int32.toInt n3 ∧ Int32.toInt n3 ≤ 2147483647 := zr_nlt_l 0 c20_ (zbnd n3) (show 0 ≤ Int32.toInt 0 ∧ Int32.toInt 0 ≤ 0 from (by decide)) (by decide)
        by_cases c24_ : 5 < n3
        · refine pw_eqI (if_pos c24_) ?_
          have b25_ : 6 ≤ Int32.toInt n3 ∧ Int32.toInt n3 ≤ 2147483647 := zr_lt_r 6 c24_ b23_ (show 5 ≤ Int32.toInt 5 ∧ Int32.toInt 5 ≤ 5 from (by decide)) (by decide)
          show PW 73 d (13, [some (pvR 124), some (pvI n1), some (pvI n2), some (pvI n3), some (pvI n4), some (pvI n5), none], [pvI 0], M) _
          refine pw_ifn hT (c := 0 = 0) rfl rfl (fun c26_ => absurd (by decide) c26_) (fun c26_ => ?_)
          refine pw_blk hT 1 (S' := (17, [some (pvR 124), some (pvI n1), some (pvI n2), some (pvI n3), some (pvI n4), some (pvI n5), none], [pvI (-1)], M)) rfl ⟨trivial, trivial⟩ ?_
          exact pw_ret hT rfl (r := some (pvI (-1))) (M' := M) ⟨rfl, rfl⟩ ⟨⟨_, rfl, (zr_wide (show (-1) ≤ Int32.toInt (-1) ∧ Int32.toInt (-1) ≤ (-1) from (by decide)) (by decide) (by decide))⟩, hok, pvfr_0⟩
        · refine pw_eqI (if_neg c24_) ?_
          have b27_ : 0 ≤ Int32.toInt n3 ∧ Int32.toInt n3 ≤ 5 := zr_nlt_r 5 c24_ b23_ (show 5 ≤ Int32.toInt 5 ∧ Int32.toInt 5 ≤ 5 from (by decide)) (by decide)
          show PW 73 d (13, [some (pvR 124), some (pvI n1), some (pvI n2), some (pvI n3), some (pvI n4), some (pvI n5), none], [pvI 1], M) _
          refine pw_ifn hT (c := 1 = 0) rfl rfl (fun c28_ => ?_) (fun c28_ => absurd c28_ (by decide))
          have b29_ : (-1) ≤ Int32.toInt (M.1 164 (Int32.toNatClampNeg n1)) ∧ Int32.toInt (M.1 164 (Int32.toNatClampNeg n1)) ≤ 4 := pvok_r hok 164 (Int32.toNatClampNeg n1) rfl
          refine pw_blk hT 4 (S' := (24, [some (pvR 124), some (pvI n1), some (pvI n2), some (pvI n3), some (pvI n4), some (pvI n5), none], [pvI (M.1 164 (Int32.toNatClampNeg n1))], M)) rfl ⟨trivial, rfl, trivial, ⟨rfl, (zr_in (n := 6) b13_ (by decide) (by decide))⟩, trivial⟩ ?_
          refine pw_if hT (c := (M.1 164 (Int32.toNatClampNeg n1)) < 0) rfl rfl (fun c30_ => ?_) (fun c30_ => ?_)
          · have b31_ : (-1) ≤ Int32.toInt (M.1 164 (Int32.toNatClampNeg n1)) ∧ Int32.toInt (M.1 164 (Int32.toNatClampNeg n1)) ≤ (-1) := zr_lt_l (-1) c30_ b29_ (show 0 ≤ Int32.toInt 0 ∧ Int32.toInt 0 ≤ 0 from (by decide)) (by decide)
            refine pw_blk hT 1 (S' := (38, [some (pvR 124), some (pvI n1), some (pvI n2), some (pvI n3), some (pvI n4), some (pvI n5), none], [pvI (-11)], M)) rfl ⟨trivial, trivial⟩ ?_
            exact pw_ret hT rfl (r := some (pvI (-11))) (M' := M) ⟨rfl, rfl⟩ ⟨⟨_, rfl, (zr_wide (show (-11) ≤ Int32.toInt (-11) ∧ Int32.toInt (-11) ≤ (-11) from (by decide)) (by decide) (by decide))⟩, hok, pvfr_0⟩
          · have b32_ : 0 ≤ Int32.toInt (M.1 164 (Int32.toNatClampNeg n1)) ∧ Int32.toInt (M.1 164 (Int32.toNatClampNeg n1)) ≤ 4 := zr_nlt_l 0 c30_ b29_ (show 0 ≤ Int32.toInt 0 ∧ Int32.toInt 0 ≤ 0 from (by decide)) (by decide)
            have b33_ : (-1) ≤ Int32.toInt (M.1 164 (Int32.toNatClampNeg n3)) ∧ Int32.toInt (M.1 164 (Int32.toNatClampNeg n3)) ≤ 4 := pvok_r hok 164 (Int32.toNatClampNeg n3) rfl
            refine pw_blk hT 4 (S' := (33, [some (pvR 124), some (pvI n1), some (pvI n2), some (pvI n3), some (pvI n4), some (pvI n5), none], [pvI (M.1 164 (Int32.toNatClampNeg n3))], M)) rfl ⟨trivial, rfl, trivial, ⟨rfl, (zr_in (n := 6) b27_ (by decide) (by decide))⟩, trivial⟩ ?_
            refine pw_if hT (c := 0 ≤ (M.1 164 (Int32.toNatClampNeg n3))) rfl rfl (fun c34_ => ?_) (fun c34_ => ?_)
            · have b35_ : 0 ≤ Int32.toInt (M.1 164 (Int32.toNatClampNeg n3)) ∧ Int32.toInt (M.1 164 (Int32.toNatClampNeg n3)) ≤ 4 := zr_le_r 0 c34_ b33_ (show 0 ≤ Int32.toInt 0 ∧ Int32.toInt 0 ≤ 0 from (by decide)) (by decide)
              refine pw_blk hT 8 (S' := (51, [some (pvR 124), some (pvI n1), some (pvI n2), some (pvI n3), some (pvI n4), some (pvI n5), none], [pvI (M.1 164 (Int32.toNatClampNeg n3)), pvI (M.1 164 (Int32.toNatClampNeg n1))], M)) rfl ⟨trivial, rfl, trivial, ⟨rfl, (zr_in (n := 6) b13_ (by decide) (by decide))⟩, trivial, rfl, trivial, ⟨rfl, (zr_in (n := 6) b27_ (by decide) (by decide))⟩, trivial⟩ ?_
              refine pw_ic hT (c := (M.1 164 (Int32.toNatClampNeg n1)) = (M.1 164 (Int32.toNatClampNeg n3))) rfl rfl (fun c36_ => ?_) (fun c36_ => ?_)
              · have d37_ : Int32.toInt (M.1 164 (Int32.toNatClampNeg n1)) = Int32.toInt (M.1 164 (Int32.toNatClampNeg n3)) := (zi_eq _ _).mp c36_
                refine pw_blk hT 1 (S' := (59, [some (pvR 124), some (pvI n1), some (pvI n2), some (pvI n3), some (pvI n4), some (pvI n5), none], [pvI n5], M)) rfl ⟨trivial, trivial⟩ ?_
                refine pw_if hT (c := n5 < 0) rfl rfl (fun c38_ => ?_) (fun c38_ => ?_)
                · have b39_ : (-2147483648) ≤ Int32.toInt n5 ∧ Int32.toInt n5 ≤ (-1) := zr_lt_l (-1) c38_ (zbnd n5) (show 0 ≤ Int32.toInt 0 ∧ Int32.toInt 0 ≤ 0 from (by decide)) (by decide)
                  refine pw_blk hT 1 (S' := (100, [some (pvR 124), some (pvI n1), some (pvI n2), some (pvI n3), some (pvI n4), some (pvI n5), none], [pvI (-13)], M)) rfl ⟨trivial, trivial⟩ ?_
                  exact pw_ret hT rfl (r := some (pvI (-13))) (M' := M) ⟨rfl, rfl⟩ ⟨⟨_, rfl, (zr_wide (show (-13) ≤ Int32.toInt (-13) ∧ Int32.toInt (-13) ≤ (-13) from (by decide)) (by decide) (by decide))⟩, hok, pvfr_0⟩
                · have b40_ : 0 ≤ Int32.toInt n5 ∧ Int32.toInt n5 ≤ 2147483647 := zr_nlt_l 0 c38_ (zbnd n5) (show 0 ≤ Int32.toInt 0 ∧ Int32.toInt 0 ≤ 0 from (by decide)) (by decide)
                  refine pw_blk hT 1 (S' := (63, [some (pvR 124), some (pvI n1), some (pvI n2), some (pvI n3), some (pvI n4), some (pvI n5), none], [pvI n2], M)) rfl ⟨trivial, trivial⟩ ?_
                  refine pw_if hT (c := n2 < 0) rfl rfl (fun c41_ => ?_) (fun c41_ => ?_)
                  · have b42_ : (-2147483648) ≤ Int32.toInt n2 ∧ Int32.toInt n2 ≤ (-1) := zr_lt_l (-1) c41_ (zbnd n2) (show 0 ≤ Int32.toInt 0 ∧ Int32.toInt 0 ≤ 0 from (by decide)) (by decide)
                    refine pw_blk hT 1 (S' := (100, [some (pvR 124), some (pvI n1), some (pvI n2), some (pvI n3), some (pvI n4), some (pvI n5), none], [pvI (-13)], M)) rfl ⟨trivial, trivial⟩ ?_
                    exact pw_ret hT rfl (r := some (pvI (-13))) (M' := M) ⟨rfl, rfl⟩ ⟨⟨_, rfl, (zr_wide (show (-13) ≤ Int32.toInt (-13) ∧ Int32.toInt (-13) ≤ (-13) from (by decide)) (by decide) (by decide))⟩, hok, pvfr_0⟩
                  · have b43_ : 0 ≤ Int32.toInt n2 ∧ Int32.toInt n2 ≤ 2147483647 := zr_nlt_l 0 c41_ (zbnd n2) (show 0 ≤ Int32.toInt 0 ∧ Int32.toInt 0 ≤ 0 from (by decide)) (by decide)
                    refine pw_blk hT 1 (S' := (68, [some (pvR 124), some (pvI n1), some (pvI n2), some (pvI n3), some (pvI n4), some (pvI n5), none], [pvI n4], M)) rfl ⟨trivial, trivial⟩ ?_
                    refine pw_if hT (c := n4 < 0) rfl rfl (fun c44_ => ?_) (fun c44_ => ?_)
                    · have b45_ : (-2147483648) ≤ Int32.toInt n4 ∧ Int32.toInt n4 ≤ (-1) := zr_lt_l (-1) c44_ (zbnd n4) (show 0 ≤ Int32.toInt 0 ∧ Int32.toInt 0 ≤ 0 from (by decide)) (by decide)
                      refine pw_blk hT 1 (S' := (100, [some (pvR 124), some (pvI n1), some (pvI n2), some (pvI n3), some (pvI n4), some (pvI n5), none], [pvI (-13)], M)) rfl ⟨trivial, trivial⟩ ?_
                      exact pw_ret hT rfl (r := some (pvI (-13))) (M' := M) ⟨rfl, rfl⟩ ⟨⟨_, rfl, (zr_wide (show (-13) ≤ Int32.toInt (-13) ∧ Int32.toInt (-13) ≤ (-13) from (by decide)) (by decide) (by decide))⟩, hok, pvfr_0⟩
                    · have b46_ : 0 ≤ Int32.toInt n4 ∧ Int32.toInt n4 ≤ 2147483647 := zr_nlt_l 0 c44_ (zbnd n4) (show 0 ≤ Int32.toInt 0 ∧ Int32.toInt 0 ≤ 0 from (by decide)) (by decide)
                      have b47_ : 0 ≤ Int32.toInt (M.1 165 (Int32.toNatClampNeg n1)) ∧ Int32.toInt (M.1 165 (Int32.toNatClampNeg n1)) ≤ 60 := pvok_r hok 165 (Int32.toNatClampNeg n1) rfl
                      obtain ⟨q49_, b48_⟩ : (Int32.toInt ((M.1 165 (Int32.toNatClampNeg n1)) - n5) = Int32.toInt (M.1 165 (Int32.toNatClampNeg n1)) - Int32.toInt n5) ∧ ((-2147483647) ≤ Int32.toInt ((M.1 165 (Int32.toNatClampNeg n1)) - n5) ∧ Int32.toInt ((M.1 165 (Int32.toNatClampNeg n1)) - n5) ≤ 60) := zsub_r (M.1 165 (Int32.toNatClampNeg n1)) n5 (-2147483647) 60 b47_ b40_ (by decide) (by decide) (by decide) (by decide)
                      refine pw_blk hT 7 (S' := (81, [some (pvR 124), some (pvI n1), some (pvI n2), some (pvI n3), some (pvI n4), some (pvI n5), none], [pvI ((M.1 165 (Int32.toNatClampNeg n1)) - n5), pvI n2], M)) rfl ⟨trivial, trivial, rfl, trivial, ⟨rfl, (zr_in (n := 6) b13_ (by decide) (by decide))⟩, trivial, trivial, trivial⟩ ?_
                      refine pw_ic hT (c := ((M.1 165 (Int32.toNatClampNeg n1)) - n5) < n2) rfl rfl (fun c50_ => ?_) (fun c50_ => ?_)
                      · have d51_ : Int32.toInt ((M.1 165 (Int32.toNatClampNeg n1)) - n5) < Int32.toInt n2 := (zi_lt _ _).mp c50_
                        refine pw_blk hT 1 (S' := (100, [some (pvR 124), some (pvI n1), some (pvI n2), some (pvI n3), some (pvI n4), some (pvI n5), none], [pvI (-13)], M)) rfl ⟨trivial, trivial⟩ ?_
                        exact pw_ret hT rfl (r := some (pvI (-13))) (M' := M) ⟨rfl, rfl⟩ ⟨⟨_, rfl, (zr_wide (show (-13) ≤ Int32.toInt (-13) ∧ Int32.toInt (-13) ≤ (-13) from (by decide)) (by decide) (by decide))⟩, hok, pvfr_0⟩
                      · have b52_ : 0 ≤ Int32.toInt ((M.1 165 (Int32.toNatClampNeg n1)) - n5) ∧ Int32.toInt ((M.1 165 (Int32.toNatClampNeg n1)) - n5) ≤ 60 := zr_nlt_l 0 c50_ b48_ b43_ (by decide)
                        have b53_ : 0 ≤ Int32.toInt n2 ∧ Int32.toInt n2 ≤ 60 := zr_nlt_r 60 c50_ b43_ b52_ (by decide)
                        have d54_ : Int32.toInt ((M.1 165 (Int32.toNatClampNeg n1)) - n5) ≥ Int32.toInt n2 := Int.not_lt.mp ((not_congr (zi_lt _ _)).mp c50_)
                        have b55_ : 0 ≤ Int32.toInt (M.1 165 (Int32.toNatClampNeg n3)) ∧ Int32.toInt (M.1 165 (Int32.toNatClampNeg n3)) ≤ 60 := pvok_r hok 165 (Int32.toNatClampNeg n3) rfl
                        obtain ⟨q57_, b56_⟩ : (Int32.toInt ((M.1 165 (Int32.toNatClampNeg n3)) - n5) = Int32.toInt (M.1 165 (Int32.toNatClampNeg n3)) - Int32.toInt n5) ∧ ((-2147483647) ≤ Int32.toInt ((M.1 165 (Int32.toNatClampNeg n3)) - n5) ∧ Int32.toInt ((M.1 165 (Int32.toNatClampNeg n3)) - n5) ≤ 60) := zsub_r (M.1 165 (Int32.toNatClampNeg n3)) n5 (-2147483647) 60 b55_ b40_ (by decide) (by decide) (by decide) (by decide)
                        refine pw_blk hT 7 (S' := (95, [some (pvR 124), some (pvI n1), some (pvI n2), some (pvI n3), some (pvI n4), some (pvI n5), none], [pvI ((M.1 165 (Int32.toNatClampNeg n3)) - n5), pvI n4], M)) rfl ⟨trivial, trivial, rfl, trivial, ⟨rfl, (zr_in (n := 6) b27_ (by decide) (by decide))⟩, trivial, trivial, trivial⟩ ?_
                        refine pw_ic hT (c := n4 ≤ ((M.1 165 (Int32.toNatClampNeg n3)) - n5)) rfl rfl (fun c58_ => ?_) (fun c58_ => ?_)
                        · have b59_ : 0 ≤ Int32.toInt n4 ∧ Int32.toInt n4 ≤ 60 := zr_le_l 60 c58_ b46_ b56_ (by decide)
                          have b60_ : 0 ≤ Int32.toInt ((M.1 165 (Int32.toNatClampNeg n3)) - n5) ∧ Int32.toInt ((M.1 165 (Int32.toNatClampNeg n3)) - n5) ≤ 60 := zr_le_r 0 c58_ b56_ b59_ (by decide)
                          have d61_ : Int32.toInt n4 ≤ Int32.toInt ((M.1 165 (Int32.toNatClampNeg n3)) - n5) := (zi_le _ _).mp c58_
                          have b62_ : 0 ≤ Int32.toInt n5 ∧ Int32.toInt n5 ≤ 60 := (by omega)
                          refine pw_blk hT 2 (S' := (104, [some (pvR 124), some (pvI n1), some (pvI n2), some (pvI n3), some (pvI n4), some (pvI n5), some (pvI 0)], [], M)) rfl ⟨trivial, trivial, trivial⟩ ?_
                          have hlz323_ : ∀ (nz323_ : Nat) (i6z323_ : Int32) (Mz323_ : pvM), (pvOk Mz323_) → (pvFr fp_X10_shift_124_x_x_x_x_x M Mz323_) → (0 ≤ Int32.toInt i6z323_ ∧ Int32.toInt i6z323_ ≤ 60) → (zhide ((61 - Int32.toInt i6z323_).toNat < nz323_)) → PW 73 d (104, [some (pvR 124), some (pvI n1), some (pvI n2), some (pvI n3), some (pvI n4), some (pvI n5), some (pvI i6z323_)], [], Mz323_) (fun r X => (∃ x : Int32, r = some (pvI x) ∧ (-13) ≤ Int32.toInt x ∧ Int32.toInt x ≤ 60) ∧ pvOk X ∧ pvFr fp_X10_shift_124_x_x_x_x_x M X) := by
                            intro nz323_
                            induction nz323_ with
                            | zero => intro i6z323_ Mz323_ oz323_ fz323_ h6z323_ hmz323_; exact absurd (zshow hmz323_) (Nat.not_lt_zero _)
                            | succ nz323_ ihz323_ =>
                              intro i6z323_ Mz323_ oz323_ fz323_ h6z323_ hmz323_
                              refine pw_blk hT 2 (S' := (108, [some (pvR 124), some (pvI n1), some (pvI n2), some (pvI n3), some (pvI n4), some (pvI n5), some (pvI i6z323_)], [pvI n5, pvI i6z323_], Mz323_)) rfl ⟨trivial, trivial, trivial⟩ ?_
                              refine pw_ic hT (c := n5 ≤ i6z323_) rfl rfl (fun c324_ => ?_) (fun c324_ => ?_)
                              · have d325_ : Int32.toInt n5 ≤ Int32.toInt i6z323_ := (zi_le _ _).mp c324_
                                refine pw_blk hT 2 (S' := (141, [some (pvR 124), some (pvI n1), some (pvI n2), some (pvI n3), some (pvI n4), some (pvI n5), some (pvI 0)], [], Mz323_)) rfl ⟨trivial, trivial, trivial⟩ ?_
                                have hlz398_ : ∀ (nz398_ : Nat) (i6z398_ : Int32) (Mz398_ : pvM), (pvOk Mz398_) → (pvFr fp_X10_shift_124_x_x_x_x_x M Mz398_) → (0 ≤ Int32.toInt i6z398_ ∧ Int32.toInt i6z398_ ≤ 60) → (zhide ((61 - Int32.toInt i6z398_).toNat < nz398_)) → PW 73 d (141, [some (pvR 124), some (pvI n1), some (pvI n2), some (pvI n3), some (pvI n4), some (pvI n5), some (pvI i6z398_)], [], Mz398_) (fun r X => (∃ x : Int32, r = some (pvI x) ∧ (-13) ≤ Int32.toInt x ∧ Int32.toInt x ≤ 60) ∧ pvOk X ∧ pvFr fp_X10_shift_124_x_x_x_x_x M X) := by
                                  intro nz398_
                                  induction nz398_ with
                                  | zero => intro i6z398_ Mz398_ oz398_ fz398_ h6z398_ hmz398_; exact absurd (zshow hmz398_) (Nat.not_lt_zero _)
                                  | succ nz398_ ihz398_ =>
                                    intro i6z398_ Mz398_ oz398_ fz398_ h6z398_ hmz398_
                                    refine pw_blk hT 2 (S' := (145, [some (pvR 124), some (pvI n1), some (pvI n2), some (pvI n3), some (pvI n4), some (pvI n5), some (pvI i6z398_)], [pvI n5, pvI i6z398_], Mz398_)) rfl ⟨trivial, trivial, trivial⟩ ?_
                                    refine pw_ic hT (c := n5 ≤ i6z398_) rfl rfl (fun c399_ => ?_) (fun c399_ => ?_)
                                    · have d400_ : Int32.toInt n5 ≤ Int32.toInt i6z398_ := (zi_le _ _).mp c399_
                                      refine pw_blk hT 1 (S' := (178, [some (pvR 124), some (pvI n1), some (pvI n2), some (pvI n3), some (pvI n4), some (pvI n5), some (pvI i6z398_)], [pvI n5], Mz398_)) rfl ⟨trivial, trivial⟩ ?_
                                      exact pw_ret hT rfl (r := some (pvI n5)) (M' := Mz398_) ⟨rfl, rfl⟩ ⟨⟨_, rfl, (zr_wide b62_ (by decide) (by decide))⟩, oz398_, fz398_⟩
                                    · have b401_ : 1 ≤ Int32.toInt n5 ∧ Int32.toInt n5 ≤ 60 := zr_nle_l 1 c399_ b62_ h6z398_ (by decide)
                                      have b402_ : 0 ≤ Int32.toInt i6z398_ ∧ Int32.toInt i6z398_ ≤ 59 := zr_nle_r 59 c399_ h6z398_ b401_ (by decide)
                                      have d403_ : Int32.toInt n5 > Int32.toInt i6z398_ := Int.not_le.mp ((not_congr (zi_le _ _)).mp c399_)
                                      have q404_ : Int32.toInt (60 * n3) = 60 * Int32.toInt n3 := by have u0 : Int32.toInt 60 = 60 := (by decide); have u1 := b27_; have u2 := zmul 60 n3 (by rw [u0]; omega) (by rw [u0]; omega); rw [u0] at u2; omega
                                      have b405_ : 0 ≤ Int32.toInt (60 * n3) ∧ Int32.toInt (60 * n3) ≤ 300 := (by have u1 := b27_; omega)
                                      obtain ⟨q407_, b406_⟩ : (Int32.toInt ((60 * n3) + n4) = Int32.toInt (60 * n3) + Int32.toInt n4) ∧ (0 ≤ Int32.toInt ((60 * n3) + n4) ∧ Int32.toInt ((60 * n3) + n4) ≤ 360) := zadd_r (60 * n3) n4 0 360 b405_ b59_ (by decide) (by decide) (by decide) (by decide)
                                      obtain ⟨q409_, b408_⟩ : (Int32.toInt (((60 * n3) + n4) + i6z398_) = Int32.toInt ((60 * n3) + n4) + Int32.toInt i6z398_) ∧ (0 ≤ Int32.toInt (((60 * n3) + n4) + i6z398_) ∧ Int32.toInt (((60 * n3) + n4) + i6z398_) ≤ 419) := zadd_r ((60 * n3) + n4) i6z398_ 0 419 b406_ b402_ (by decide) (by decide) (by decide) (by decide)
                                      refine pw_blkw hT 14 (pc := 170) (lo := [some (pvR 124), some (pvI n1), some (pvI n2), some (pvI n3), some (pvI n4), some (pvI n5), some (pvI i6z398_)]) (st := []) (M := pvw Mz398_ 166 (Int32.toNatClampNeg (((60 * n3) + n4) + i6z398_)) (Mz398_.2 167 (Int32.toNatClampNeg i6z398_))) rfl ⟨trivial, rfl, trivial, trivial, trivial, trivial, trivial, trivial, trivial, trivial, rfl, trivial, ⟨rfl, (zr_in (n := 60) b402_ (by decide) (by decide))⟩, ⟨rfl, (vp_in_iff.mpr (show 0 ≤ Int32.toInt (((60 * n3) + n4) + i6z398_) ∧ Int32.toInt (((60 * n3) + n4) + i6z398_) < ((360 : Nat) : Int) from (by have u0 := b408_; omega)))⟩, trivial⟩ (fun M410_ e411_ => ?_)
                                      have o412_ : pvOk M410_ := pvok_w e411_ oz398_
                                      have f413_ : pvFr fp_X10_shift_124_x_x_x_x_x M M410_ := pvfr_w e411_ fz398_
                                      obtain ⟨q415_, b414_⟩ : (Int32.toInt (i6z398_ + 1) = Int32.toInt i6z398_ + 1) ∧ (1 ≤ Int32.toInt (i6z398_ + 1) ∧ Int32.toInt (i6z398_ + 1) ≤ 60) := zadd_k i6z398_ 1 1 1 60 b402_ (by decide) (by decide) (by decide) (by decide) (by decide)
                                      refine pw_blk hT 2 (S' := (141, [some (pvR 124), some (pvI n1), some (pvI n2), some (pvI n3), some (pvI n4), some (pvI n5), some (pvI (i6z398_ + 1))], [], M410_)) rfl ⟨trivial, trivial, trivial⟩ ?_
                                      exact ihz398_ (i6z398_ + 1) M410_ o412_ f413_ (zr_wide b414_ (by decide) (by decide)) (zhid (pvms_up (zshow hmz398_) h6z398_ q415_ (by decide) (by decide)))
                                exact hlz398_ _ 0 Mz323_ oz323_ fz323_ (zr_wide (show 0 ≤ Int32.toInt 0 ∧ Int32.toInt 0 ≤ 0 from (by decide)) (by decide) (by decide)) (zhid (Nat.lt_succ_self _))
                              · have b416_ : 1 ≤ Int32.toInt n5 ∧ Int32.toInt n5 ≤ 60 := zr_nle_l 1 c324_ b62_ h6z323_ (by decide)
                                have b417_ : 0 ≤ Int32.toInt i6z323_ ∧ Int32.toInt i6z323_ ≤ 59 := zr_nle_r 59 c324_ h6z323_ b416_ (by decide)
                                have d418_ : Int32.toInt n5 > Int32.toInt i6z323_ := Int.not_le.mp ((not_congr (zi_le _ _)).mp c324_)
                                have q419_ : Int32.toInt (60 * n1) = 60 * Int32.toInt n1 := by have u0 : Int32.toInt 60 = 60 := (by decide); have u1 := b13_; have u2 := zmul 60 n1 (by rw [u0]; omega) (by rw [u0]; omega); rw [u0] at u2; omega
                                have b420_ : 0 ≤ Int32.toInt (60 * n1) ∧ Int32.toInt (60 * n1) ≤ 300 := (by have u1 := b13_; omega)
                                obtain ⟨q422_, b421_⟩ : (Int32.toInt ((60 * n1) + n2) = Int32.toInt (60 * n1) + Int32.toInt n2) ∧ (0 ≤ Int32.toInt ((60 * n1) + n2) ∧ Int32.toInt ((60 * n1) + n2) ≤ 360) := zadd_r (60 * n1) n2 0 360 b420_ b53_ (by decide) (by decide) (by decide) (by decide)
                                obtain ⟨q424_, b423_⟩ : (Int32.toInt (((60 * n1) + n2) + i6z323_) = Int32.toInt ((60 * n1) + n2) + Int32.toInt i6z323_) ∧ (0 ≤ Int32.toInt (((60 * n1) + n2) + i6z323_) ∧ Int32.toInt (((60 * n1) + n2) + i6z323_) ≤ 419) := zadd_r ((60 * n1) + n2) i6z323_ 0 419 b421_ b417_ (by decide) (by decide) (by decide) (by decide)
                                refine pw_blkw hT 14 (pc := 132) (lo := [some (pvR 124), some (pvI n1), some (pvI n2), some (pvI n3), some (pvI n4), some (pvI n5), some (pvI i6z323_)]) (st := []) (M := pvw Mz323_ 167 (Int32.toNatClampNeg i6z323_) (Mz323_.2 166 (Int32.toNatClampNeg (((60 * n1) + n2) + i6z323_)))) rfl ⟨trivial, rfl, trivial, trivial, rfl, trivial, trivial, trivial, trivial, trivial, trivial, trivial, ⟨rfl, (vp_in_iff.mpr (show 0 ≤ Int32.toInt (((60 * n1) + n2) + i6z323_) ∧ Int32.toInt (((60 * n1) + n2) + i6z323_) < ((360 : Nat) : Int) from (by have u0 := b423_; omega)))⟩, ⟨rfl, (zr_in (n := 60) b417_ (by decide) (by decide))⟩, trivial⟩ (fun M425_ e426_ => ?_)
                                have o427_ : pvOk M425_ := pvok_w e426_ oz323_
                                have f428_ : pvFr fp_X10_shift_124_x_x_x_x_x M M425_ := pvfr_w e426_ fz323_
                                obtain ⟨q430_, b429_⟩ : (Int32.toInt (i6z323_ + 1) = Int32.toInt i6z323_ + 1) ∧ (1 ≤ Int32.toInt (i6z323_ + 1) ∧ Int32.toInt (i6z323_ + 1) ≤ 60) := zadd_k i6z323_ 1 1 1 60 b417_ (by decide) (by decide) (by decide) (by decide) (by decide)
                                refine pw_blk hT 2 (S' := (104, [some (pvR 124), some (pvI n1), some (pvI n2), some (pvI n3), some (pvI n4), some (pvI n5), some (pvI (i6z323_ + 1))], [], M425_)) rfl ⟨trivial, trivial, trivial⟩ ?_
                                exact ihz323_ (i6z323_ + 1) M425_ o427_ f428_ (zr_wide b429_ (by decide) (by decide)) (zhid (pvms_up (zshow hmz323_) h6z323_ q430_ (by decide) (by decide)))
                          exact hlz323_ _ 0 M hok pvfr_0 (zr_wide (show 0 ≤ Int32.toInt 0 ∧ Int32.toInt 0 ≤ 0 from (by decide)) (by decide) (by decide)) (zhid (Nat.lt_succ_self _))
                        · have d431_ : Int32.toInt n4 > Int32.toInt ((M.1 165 (Int32.toNatClampNeg n3)) - n5) := Int.not_le.mp ((not_congr (zi_le _ _)).mp c58_)
                          refine pw_blk hT 1 (S' := (100, [some (pvR 124), some (pvI n1), some (pvI n2), some (pvI n3), some (pvI n4), some (pvI n5), none], [pvI (-13)], M)) rfl ⟨trivial, trivial⟩ ?_
                          exact pw_ret hT rfl (r := some (pvI (-13))) (M' := M) ⟨rfl, rfl⟩ ⟨⟨_, rfl, (zr_wide (show (-13) ≤ Int32.toInt (-13) ∧ Int32.toInt (-13) ≤ (-13) from (by decide)) (by decide) (by decide))⟩, hok, pvfr_0⟩
              · refine pw_blk hT 1 (S' := (56, [some (pvR 124), some (pvI n1), some (pvI n2), some (pvI n3), some (pvI n4), some (pvI n5), none], [pvI (-12)], M)) rfl ⟨trivial, trivial⟩ ?_
                exact pw_ret hT rfl (r := some (pvI (-12))) (M' := M) ⟨rfl, rfl⟩ ⟨⟨_, rfl, (zr_wide (show (-12) ≤ Int32.toInt (-12) ∧ Int32.toInt (-12) ≤ (-12) from (by decide)) (by decide) (by decide))⟩, hok, pvfr_0⟩
            · have b432_ : (-1) ≤ Int32.toInt (M.1 164 (Int32.toNatClampNeg n3)) ∧ Int32.toInt (M.1 164 (Int32.toNatClampNeg n3)) ≤ (-1) := zr_nle_r (-1) c34_ b33_ (show 0 ≤ Int32.toInt 0 ∧ Int32.toInt 0 ≤ 0 from (by decide)) (by decide)
              refine pw_blk hT 1 (S' := (38, [some (pvR 124), some (pvI n1), some (pvI n2), some (pvI n3), some (pvI n4), some (pvI n5), none], [pvI (-11)], M)) rfl ⟨trivial, trivial⟩ ?_
              exact pw_ret hT rfl (r := some (pvI (-11))) (M' := M) ⟨rfl, rfl⟩ ⟨⟨_, rfl, (zr_wide (show (-11) ≤ Int32.toInt (-11) ∧ Int32.toInt (-11) ≤ (-11) from (by decide)) (by decide) (by decide))⟩, hok, pvfr_0⟩
set_option maxHeartbeats 4000000 in
set_option maxRecDepth 10000 in
theorem sf_X7_has_8_x (M : pvM) (hok : pvOk M) (n1 : Int32) (d : Nat) : PW 159 d (0, [some (pvR 8), some (pvI n1)], [], M) (fun r X => r = some (pvI ((if n1 < 0 then 0 else (if (M.1 8 1) ≤ n1 then 0 else 1)))) ∧ X = M) := by
  have hT : pvdom 159 = pvD_159 := rfl
  refine pw_blk hT 1 (S' := (1, [some (pvR 8), some (pvI n1)], [pvI n1], M)) rfl ⟨trivial, trivial⟩ ?_
  refine pw_if hT (c := n1 < 0) rfl rfl (fun c1_ => ?_) (fun c1_ => ?_)
  · have b2_ : (-2147483648) ≤ Int32.toInt n1 ∧ Int32.toInt n1 ≤ (-1) := zr_lt_l (-1) c1_ (zbnd n1) (show 0 ≤ Int32.toInt 0 ∧ Int32.toInt 0 ≤ 0 from (by decide)) (by decide)
    refine pw_blk hT 1 (S' := (17, [some (pvR 8), some (pvI n1)], [pvI 0], M)) rfl ⟨trivial, trivial⟩ ?_
    exact pw_ret hT rfl (r := some (pvI 0)) (M' := M) ⟨Or.inl rfl, rfl, rfl⟩ ⟨(by rw [if_pos c1_]), rfl⟩
  · have b3_ : 0 ≤ Int32.toInt n1 ∧ Int32.toInt n1 ≤ 2147483647 := zr_nlt_l 0 c1_ (zbnd n1) (show 0 ≤ Int32.toInt 0 ∧ Int32.toInt 0 ≤ 0 from (by decide)) (by decide)
    have b4_ : 0 ≤ Int32.toInt (M.1 8 1) ∧ Int32.toInt (M.1 8 1) ≤ 7 := pvok_r hok 8 1 rfl
    refine pw_blk hT 3 (S' := (9, [some (pvR 8), some (pvI n1)], [pvI (M.1 8 1), pvI n1], M)) rfl ⟨trivial, trivial, rfl, trivial⟩ ?_
    refine pw_ic hT (c := (M.1 8 1) ≤ n1) rfl rfl (fun c5_ => ?_) (fun c5_ => ?_)
    · have d6_ : Int32.toInt (M.1 8 1) ≤ Int32.toInt n1 := (zi_le _ _).mp c5_
      refine pw_blk hT 1 (S' := (17, [some (pvR 8), some (pvI n1)], [pvI 0], M)) rfl ⟨trivial, trivial⟩ ?_
      exact pw_ret hT rfl (r := some (pvI 0)) (M' := M) ⟨Or.inl rfl, rfl, rfl⟩ ⟨(by rw [if_neg c1_, if_pos c5_]), rfl⟩
    · have b7_ : 1 ≤ Int32.toInt (M.1 8 1) ∧ Int32.toInt (M.1 8 1) ≤ 7 := zr_nle_l 1 c5_ b4_ b3_ (by decide)
      have b8_ : 0 ≤ Int32.toInt n1 ∧ Int32.toInt n1 ≤ 6 := zr_nle_r 6 c5_ b3_ b7_ (by decide)
      have d9_ : Int32.toInt (M.1 8 1) > Int32.toInt n1 := Int.not_le.mp ((not_congr (zi_le _ _)).mp c5_)
      refine pw_blk hT 2 (S' := (17, [some (pvR 8), some (pvI n1)], [pvI 1], M)) rfl ⟨trivial, trivial, trivial⟩ ?_
      exact pw_ret hT rfl (r := some (pvI 1)) (M' := M) ⟨Or.inr rfl, rfl, rfl⟩ ⟨(by rw [if_neg c1_, if_neg c5_]), rfl⟩
set_option maxHeartbeats 4000000 in
set_option maxRecDepth 10000 in
theorem sf_X9_within_x_x_x (M : pvM) (hok : pvOk M) (n0 : Int32) (n1 : Int32) (n2 : Int32) (d : Nat) : PW 211 d (0, [some (pvI n0), some (pvI n1), some (pvI n2)], [], M) (fun r X => r = some (pvI ((if n0 < n1 then 0 else (if n2 < n0 then 0 else 1)))) ∧ X = M) := by
  have hT : pvdom 211 = pvD_211 := rfl
  refine pw_blk hT 2 (S' := (2, [some (pvI n0), some (pvI n1), some (pvI n2)], [pvI n1, pvI n0], M)) rfl ⟨trivial, trivial, trivial⟩ ?_
  refine pw_ic hT (c := n0 < n1) rfl rfl (fun c1_ => ?_) (fun c1_ => ?_)
  · have b2_ : (-2147483648) ≤ Int32.toInt n0 ∧ Int32.toInt n0 ≤ 2147483646 := zr_lt_l 2147483646 c1_ (zbnd n0) (zbnd n1) (by decide)
    have b3_ : (-2147483647) ≤ Int32.toInt n1 ∧ Int32.toInt n1 ≤ 2147483647 := zr_lt_r (-2147483647) c1_ (zbnd n1) b2_ (by decide)
    have d4_ : Int32.toInt n0 < Int32.toInt n1 := (zi_lt _ _).mp c1_
    refine pw_blk hT 1 (S' := (15, [some (pvI n0), some (pvI n1), some (pvI n2)], [pvI 0], M)) rfl ⟨trivial, trivial⟩ ?_
    exact pw_ret hT rfl (r := some (pvI 0)) (M' := M) ⟨Or.inl rfl, rfl, rfl⟩ ⟨(by rw [if_pos c1_]), rfl⟩
  · have d5_ : Int32.toInt n0 ≥ Int32.toInt n1 := Int.not_lt.mp ((not_congr (zi_lt _ _)).mp c1_)
    refine pw_blk hT 2 (S' := (7, [some (pvI n0), some (pvI n1), some (pvI n2)], [pvI n2, pvI n0], M)) rfl ⟨trivial, trivial, trivial⟩ ?_
    refine pw_ic hT (c := n2 < n0) rfl rfl (fun c6_ => ?_) (fun c6_ => ?_)
    · have b7_ : (-2147483648) ≤ Int32.toInt n2 ∧ Int32.toInt n2 ≤ 2147483646 := zr_lt_l 2147483646 c6_ (zbnd n2) (zbnd n0) (by decide)
      have b8_ : (-2147483647) ≤ Int32.toInt n0 ∧ Int32.toInt n0 ≤ 2147483647 := zr_lt_r (-2147483647) c6_ (zbnd n0) b7_ (by decide)
      have d9_ : Int32.toInt n2 < Int32.toInt n0 := (zi_lt _ _).mp c6_
      refine pw_blk hT 1 (S' := (15, [some (pvI n0), some (pvI n1), some (pvI n2)], [pvI 0], M)) rfl ⟨trivial, trivial⟩ ?_
      exact pw_ret hT rfl (r := some (pvI 0)) (M' := M) ⟨Or.inl rfl, rfl, rfl⟩ ⟨(by rw [if_neg c1_, if_pos c6_]), rfl⟩
    · have d10_ : Int32.toInt n2 ≥ Int32.toInt n0 := Int.not_lt.mp ((not_congr (zi_lt _ _)).mp c6_)
      refine pw_blk hT 2 (S' := (15, [some (pvI n0), some (pvI n1), some (pvI n2)], [pvI 1], M)) rfl ⟨trivial, trivial, trivial⟩ ?_
      exact pw_ret hT rfl (r := some (pvI 1)) (M' := M) ⟨Or.inr rfl, rfl, rfl⟩ ⟨(by rw [if_neg c1_, if_neg c6_]), rfl⟩
set_option maxHeartbeats 4000000 in
set_option maxRecDepth 10000 in
theorem sf_X0_bodyFrom_0_0 (M : pvM) (hok : pvOk M) (d : Nat) : PW 1 d (0, [some (pvI 0), some (pvI 0), none, none, none], [], M) (fun r X => r = some (pvI (((pvstab 1041).getD (Int32.toNatClampNeg ((0 * 3) + 0)) 0))) ∧ X = M) := by
  have hT : pvdom 1 = pvD_1 := rfl
  refine pw_blk hT 4 (S' := (4, [some (pvI 0), some (pvI 0), some (pvI 0), some (pvI 0), none], [], M)) rfl ⟨trivial, trivial, trivial, trivial, trivial⟩ ?_
  refine pw_blk hT 3 (S' := (9, [some (pvI 0), some (pvI 0), some (pvI 0), some (pvI 0), none], [pvI (Int32.ofNat (pvstab 1041).length), pvI 0], M)) rfl ⟨trivial, trivial, (by decide), trivial⟩ ?_
  refine pw_ic hT (c := (Int32.ofNat (pvstab 1041).length) ≤ 0) rfl rfl (fun c1_ => absurd c1_ (by decide)) (fun c1_ => ?_)
  refine pw_blk hT 1 (S' := (13, [some (pvI 0), some (pvI 0), some (pvI 0), some (pvI 0), none], [pvI 0], M)) rfl ⟨trivial, trivial⟩ ?_
  refine pw_if hT (c := 0 < 0) rfl rfl (fun c2_ => absurd c2_ (by decide)) (fun c2_ => ?_)
  refine pw_blk hT 7 (S' := (25, [some (pvI 0), some (pvI 0), some (pvI 0), some (pvI 0), some (pvI ((0 * 3) + 0))], [pvI ((0 * 3) + 0)], M)) rfl ⟨trivial, trivial, trivial, trivial, trivial, trivial, trivial, trivial⟩ ?_
  refine pw_if hT (c := ((0 * 3) + 0) < 0) rfl rfl (fun c3_ => absurd c3_ (by decide)) (fun c3_ => ?_)
  refine pw_blk hT 3 (S' := (34, [some (pvI 0), some (pvI 0), some (pvI 0), some (pvI 0), some (pvI ((0 * 3) + 0))], [pvI (Int32.ofNat (pvstab 1041).length), pvI ((0 * 3) + 0)], M)) rfl ⟨trivial, trivial, (by decide), trivial⟩ ?_
  refine pw_ic hT (c := (Int32.ofNat (pvstab 1041).length) ≤ ((0 * 3) + 0)) rfl rfl (fun c4_ => absurd c4_ (by decide)) (fun c4_ => ?_)
  refine pw_blk hT 3 (S' := (43, [some (pvI 0), some (pvI 0), some (pvI 0), some (pvI 0), some (pvI ((0 * 3) + 0))], [pvI ((pvstab 1041).getD (Int32.toNatClampNeg ((0 * 3) + 0)) 0)], M)) rfl ⟨trivial, trivial, ⟨by decide, (zr_in (n := 21) (show 0 ≤ Int32.toInt ((0 * 3) + 0) ∧ Int32.toInt ((0 * 3) + 0) ≤ 0 from (by decide)) (by decide) (by decide))⟩, trivial⟩ ?_
  refine pw_if hT (c := ((pvstab 1041).getD (Int32.toNatClampNeg ((0 * 3) + 0)) 0) = 0) rfl rfl (fun c5_ => absurd c5_ (by decide)) (fun c5_ => ?_)
  refine pw_blk hT 3 (S' := (52, [some (pvI 0), some (pvI 0), some (pvI 0), some (pvI 0), some (pvI ((0 * 3) + 0))], [pvI ((pvstab 1041).getD (Int32.toNatClampNeg ((0 * 3) + 0)) 0)], M)) rfl ⟨trivial, trivial, ⟨by decide, (zr_in (n := 21) (show 0 ≤ Int32.toInt ((0 * 3) + 0) ∧ Int32.toInt ((0 * 3) + 0) ≤ 0 from (by decide)) (by decide) (by decide))⟩, trivial⟩ ?_
  exact pw_ret hT rfl (r := some (pvI ((pvstab 1041).getD (Int32.toNatClampNeg ((0 * 3) + 0)) 0))) (M' := M) ⟨rfl, rfl⟩ ⟨rfl, rfl⟩
set_option maxHeartbeats 4000000 in
set_option maxRecDepth 10000 in
theorem sf_X0_bodyFrom_0_1 (M : pvM) (hok : pvOk M) (d : Nat) : PW 1 d (0, [some (pvI 0), some (pvI 1), none, none, none], [], M) (fun r X => r = some (pvI (((pvstab 1041).getD (Int32.toNatClampNeg ((0 * 3) + 1)) 0))) ∧ X = M) := by
  have hT : pvdom 1 = pvD_1 := rfl
  refine pw_blk hT 4 (S' := (4, [some (pvI 0), some (pvI 1), some (pvI 0), some (pvI 0), none], [], M)) rfl ⟨trivial, trivial, trivial, trivial, trivial⟩ ?_
  refine pw_blk hT 3 (S' := (9, [some (pvI 0), some (pvI 1), some (pvI 0), some (pvI 0), none], [pvI (Int32.ofNat (pvstab 1041).length), pvI 0], M)) rfl ⟨trivial, trivial, (by decide), trivial⟩ ?_
  refine pw_ic hT (c := (Int32.ofNat (pvstab 1041).length) ≤ 0) rfl rfl (fun c1_ => absurd c1_ (by decide)) (fun c1_ => ?_)
  refine pw_blk hT 1 (S' := (13, [some (pvI 0), some (pvI 1), some (pvI 0), some (pvI 0), none], [pvI 0], M)) rfl ⟨trivial, trivial⟩ ?_
  refine pw_if hT (c := 0 < 0) rfl rfl (fun c2_ => absurd c2_ (by decide)) (fun c2_ => ?_)
  refine pw_blk hT 7 (S' := (25, [some (pvI 0), some (pvI 1), some (pvI 0), some (pvI 0), some (pvI ((0 * 3) + 1))], [pvI ((0 * 3) + 1)], M)) rfl ⟨trivial, trivial, trivial, trivial, trivial, trivial, trivial, trivial⟩ ?_
  refine pw_if hT (c := ((0 * 3) + 1) < 0) rfl rfl (fun c3_ => absurd c3_ (by decide)) (fun c3_ => ?_)
  refine pw_blk hT 3 (S' := (34, [some (pvI 0), some (pvI 1), some (pvI 0), some (pvI 0), some (pvI ((0 * 3) + 1))], [pvI (Int32.ofNat (pvstab 1041).length), pvI ((0 * 3) + 1)], M)) rfl ⟨trivial, trivial, (by decide), trivial⟩ ?_
  refine pw_ic hT (c := (Int32.ofNat (pvstab 1041).length) ≤ ((0 * 3) + 1)) rfl rfl (fun c4_ => absurd c4_ (by decide)) (fun c4_ => ?_)
  refine pw_blk hT 3 (S' := (43, [some (pvI 0), some (pvI 1), some (pvI 0), some (pvI 0), some (pvI ((0 * 3) + 1))], [pvI ((pvstab 1041).getD (Int32.toNatClampNeg ((0 * 3) + 1)) 0)], M)) rfl ⟨trivial, trivial, ⟨by decide, (zr_in (n := 21) (show 1 ≤ Int32.toInt ((0 * 3) + 1) ∧ Int32.toInt ((0 * 3) + 1) ≤ 1 from (by decide)) (by decide) (by decide))⟩, trivial⟩ ?_
  refine pw_if hT (c := ((pvstab 1041).getD (Int32.toNatClampNeg ((0 * 3) + 1)) 0) = 0) rfl rfl (fun c5_ => absurd c5_ (by decide)) (fun c5_ => ?_)
  refine pw_blk hT 3 (S' := (52, [some (pvI 0), some (pvI 1), some (pvI 0), some (pvI 0), some (pvI ((0 * 3) + 1))], [pvI ((pvstab 1041).getD (Int32.toNatClampNeg ((0 * 3) + 1)) 0)], M)) rfl ⟨trivial, trivial, ⟨by decide, (zr_in (n := 21) (show 1 ≤ Int32.toInt ((0 * 3) + 1) ∧ Int32.toInt ((0 * 3) + 1) ≤ 1 from (by decide)) (by decide) (by decide))⟩, trivial⟩ ?_
  exact pw_ret hT rfl (r := some (pvI ((pvstab 1041).getD (Int32.toNatClampNeg ((0 * 3) + 1)) 0))) (M' := M) ⟨rfl, rfl⟩ ⟨rfl, rfl⟩
set_option maxHeartbeats 4000000 in
set_option maxRecDepth 10000 in
theorem sf_X0_bodyFrom_0_2 (M : pvM) (hok : pvOk M) (d : Nat) : PW 1 d (0, [some (pvI 0), some (pvI 2), none, none, none], [], M) (fun r X => r = some (pvI (((pvstab 1041).getD (Int32.toNatClampNeg ((0 * 3) + 2)) 0))) ∧ X = M) := by
  have hT : pvdom 1 = pvD_1 := rfl
  refine pw_blk hT 4 (S' := (4, [some (pvI 0), some (pvI 2), some (pvI 0), some (pvI 0), none], [], M)) rfl ⟨trivial, trivial, trivial, trivial, trivial⟩ ?_
  refine pw_blk hT 3 (S' := (9, [some (pvI 0), some (pvI 2), some (pvI 0), some (pvI 0), none], [pvI (Int32.ofNat (pvstab 1041).length), pvI 0], M)) rfl ⟨trivial, trivial, (by decide), trivial⟩ ?_
  refine pw_ic hT (c := (Int32.ofNat (pvstab 1041).length) ≤ 0) rfl rfl (fun c1_ => absurd c1_ (by decide)) (fun c1_ => ?_)
  refine pw_blk hT 1 (S' := (13, [some (pvI 0), some (pvI 2), some (pvI 0), some (pvI 0), none], [pvI 0], M)) rfl ⟨trivial, trivial⟩ ?_
  refine pw_if hT (c := 0 < 0) rfl rfl (fun c2_ => absurd c2_ (by decide)) (fun c2_ => ?_)
  refine pw_blk hT 7 (S' := (25, [some (pvI 0), some (pvI 2), some (pvI 0), some (pvI 0), some (pvI ((0 * 3) + 2))], [pvI ((0 * 3) + 2)], M)) rfl ⟨trivial, trivial, trivial, trivial, trivial, trivial, trivial, trivial⟩ ?_
  refine pw_if hT (c := ((0 * 3) + 2) < 0) rfl rfl (fun c3_ => absurd c3_ (by decide)) (fun c3_ => ?_)
  refine pw_blk hT 3 (S' := (34, [some (pvI 0), some (pvI 2), some (pvI 0), some (pvI 0), some (pvI ((0 * 3) + 2))], [pvI (Int32.ofNat (pvstab 1041).length), pvI ((0 * 3) + 2)], M)) rfl ⟨trivial, trivial, (by decide), trivial⟩ ?_
  refine pw_ic hT (c := (Int32.ofNat (pvstab 1041).length) ≤ ((0 * 3) + 2)) rfl rfl (fun c4_ => absurd c4_ (by decide)) (fun c4_ => ?_)
  refine pw_blk hT 3 (S' := (43, [some (pvI 0), some (pvI 2), some (pvI 0), some (pvI 0), some (pvI ((0 * 3) + 2))], [pvI ((pvstab 1041).getD (Int32.toNatClampNeg ((0 * 3) + 2)) 0)], M)) rfl ⟨trivial, trivial, ⟨by decide, (zr_in (n := 21) (show 2 ≤ Int32.toInt ((0 * 3) + 2) ∧ Int32.toInt ((0 * 3) + 2) ≤ 2 from (by decide)) (by decide) (by decide))⟩, trivial⟩ ?_
  refine pw_if hT (c := ((pvstab 1041).getD (Int32.toNatClampNeg ((0 * 3) + 2)) 0) = 0) rfl rfl (fun c5_ => absurd c5_ (by decide)) (fun c5_ => ?_)
  refine pw_blk hT 3 (S' := (52, [some (pvI 0), some (pvI 2), some (pvI 0), some (pvI 0), some (pvI ((0 * 3) + 2))], [pvI ((pvstab 1041).getD (Int32.toNatClampNeg ((0 * 3) + 2)) 0)], M)) rfl ⟨trivial, trivial, ⟨by decide, (zr_in (n := 21) (show 2 ≤ Int32.toInt ((0 * 3) + 2) ∧ Int32.toInt ((0 * 3) + 2) ≤ 2 from (by decide)) (by decide) (by decide))⟩, trivial⟩ ?_
  exact pw_ret hT rfl (r := some (pvI ((pvstab 1041).getD (Int32.toNatClampNeg ((0 * 3) + 2)) 0))) (M' := M) ⟨rfl, rfl⟩ ⟨rfl, rfl⟩
set_option maxHeartbeats 4000000 in
set_option maxRecDepth 10000 in
theorem sf_X3_above_1 (M : pvM) (hok : pvOk M) (d : Nat) : PW 131 d (0, [some (pvI 1)], [], M) (fun r X => r = some (pvI (((pvstab 1040).getD (Int32.toNatClampNeg 1) 0))) ∧ X = M) := by
  have hT : pvdom 131 = pvD_131 := rfl
  refine pw_blk hT 1 (S' := (1, [some (pvI 1)], [pvI 1], M)) rfl ⟨trivial, trivial⟩ ?_
  refine pw_if hT (c := 1 < 0) rfl rfl (fun c1_ => absurd c1_ (by decide)) (fun c1_ => ?_)
  refine pw_blk hT 3 (S' := (9, [some (pvI 1)], [pvI (Int32.ofNat (pvstab 1040).length), pvI 1], M)) rfl ⟨trivial, trivial, (by decide), trivial⟩ ?_
  refine pw_ic hT (c := 1 < (Int32.ofNat (pvstab 1040).length)) rfl rfl (fun c2_ => ?_) (fun c2_ => absurd (by decide) c2_)
  refine pw_blk hT 3 (S' := (21, [some (pvI 1)], [pvI ((pvstab 1040).getD (Int32.toNatClampNeg 1) 0)], M)) rfl ⟨trivial, trivial, ⟨by decide, (zr_in (n := 7) (show 1 ≤ Int32.toInt 1 ∧ Int32.toInt 1 ≤ 1 from (by decide)) (by decide) (by decide))⟩, trivial⟩ ?_
  exact pw_ret hT rfl (r := some (pvI ((pvstab 1040).getD (Int32.toNatClampNeg 1) 0))) (M' := M) ⟨rfl, rfl⟩ ⟨rfl, rfl⟩
set_option maxHeartbeats 4000000 in
set_option maxRecDepth 10000 in
theorem sf_X0_bodyFrom_1_0 (M : pvM) (hok : pvOk M) (d : Nat) : PW 1 d (0, [some (pvI 1), some (pvI 0), none, none, none], [], M) (fun r X => r = some (pvI (((pvstab 1041).getD (Int32.toNatClampNeg ((0 * 3) + 0)) 0))) ∧ X = M) := by
  have hT : pvdom 1 = pvD_1 := rfl
  refine pw_blk hT 4 (S' := (4, [some (pvI 1), some (pvI 0), some (pvI 1), some (pvI 0), none], [], M)) rfl ⟨trivial, trivial, trivial, trivial, trivial⟩ ?_
  refine pw_blk hT 3 (S' := (9, [some (pvI 1), some (pvI 0), some (pvI 1), some (pvI 0), none], [pvI (Int32.ofNat (pvstab 1041).length), pvI 0], M)) rfl ⟨trivial, trivial, (by decide), trivial⟩ ?_
  refine pw_ic hT (c := (Int32.ofNat (pvstab 1041).length) ≤ 0) rfl rfl (fun c1_ => absurd c1_ (by decide)) (fun c1_ => ?_)
  refine pw_blk hT 1 (S' := (13, [some (pvI 1), some (pvI 0), some (pvI 1), some (pvI 0), none], [pvI 1], M)) rfl ⟨trivial, trivial⟩ ?_
  refine pw_if hT (c := 1 < 0) rfl rfl (fun c2_ => absurd c2_ (by decide)) (fun c2_ => ?_)
  refine pw_blk hT 7 (S' := (25, [some (pvI 1), some (pvI 0), some (pvI 1), some (pvI 0), some (pvI ((1 * 3) + 0))], [pvI ((1 * 3) + 0)], M)) rfl ⟨trivial, trivial, trivial, trivial, trivial, trivial, trivial, trivial⟩ ?_
  refine pw_if hT (c := ((1 * 3) + 0) < 0) rfl rfl (fun c3_ => absurd c3_ (by decide)) (fun c3_ => ?_)
  refine pw_blk hT 3 (S' := (34, [some (pvI 1), some (pvI 0), some (pvI 1), some (pvI 0), some (pvI ((1 * 3) + 0))], [pvI (Int32.ofNat (pvstab 1041).length), pvI ((1 * 3) + 0)], M)) rfl ⟨trivial, trivial, (by decide), trivial⟩ ?_
  refine pw_ic hT (c := (Int32.ofNat (pvstab 1041).length) ≤ ((1 * 3) + 0)) rfl rfl (fun c4_ => absurd c4_ (by decide)) (fun c4_ => ?_)
  refine pw_blk hT 3 (S' := (43, [some (pvI 1), some (pvI 0), some (pvI 1), some (pvI 0), some (pvI ((1 * 3) + 0))], [pvI ((pvstab 1041).getD (Int32.toNatClampNeg ((1 * 3) + 0)) 0)], M)) rfl ⟨trivial, trivial, ⟨by decide, (zr_in (n := 21) (show 3 ≤ Int32.toInt ((1 * 3) + 0) ∧ Int32.toInt ((1 * 3) + 0) ≤ 3 from (by decide)) (by decide) (by decide))⟩, trivial⟩ ?_
  refine pw_if hT (c := ((pvstab 1041).getD (Int32.toNatClampNeg ((1 * 3) + 0)) 0) = 0) rfl rfl (fun c5_ => ?_) (fun c5_ => absurd (by decide) c5_)
  refine pw_blk hT 1 (S' := (54, [some (pvI 1), some (pvI 0), some (pvI 1), some (pvI 0), some (pvI ((1 * 3) + 0))], [pvI 1], M)) rfl ⟨trivial, trivial⟩ ?_
  refine pw_callT hT (as := [pvI 1]) (lo1 := [some (pvI 1)]) (d1 := d) (rest := []) rfl rfl rfl rfl rfl (fun h => absurd h (by decide)) (Nat.zero_le _) rfl rfl rfl (sf_X3_above_1 M hok d) ?_
  refine pw_eqI (show ((pvstab 1040).getD (Int32.toNatClampNeg 1) 0) = 0 from by decide) ?_
  show PW 1 d (57, [some (pvI 1), some (pvI 0), some (pvI 1), some (pvI 0), some (pvI ((1 * 3) + 0))], [pvI 0], M) _
  refine pw_blk hT 3 (S' := (4, [some (pvI 1), some (pvI 0), some (pvI 0), some (pvI (0 + 1)), some (pvI ((1 * 3) + 0))], [], M)) rfl ⟨trivial, trivial, trivial, trivial⟩ ?_
  refine pw_blk hT 3 (S' := (9, [some (pvI 1), some (pvI 0), some (pvI 0), some (pvI (0 + 1)), some (pvI ((1 * 3) + 0))], [pvI (Int32.ofNat (pvstab 1041).length), pvI (0 + 1)], M)) rfl ⟨trivial, trivial, (by decide), trivial⟩ ?_
  refine pw_ic hT (c := (Int32.ofNat (pvstab 1041).length) ≤ (0 + 1)) rfl rfl (fun c11_ => absurd c11_ (by decide)) (fun c11_ => ?_)
  refine pw_blk hT 1 (S' := (13, [some (pvI 1), some (pvI 0), some (pvI 0), some (pvI (0 + 1)), some (pvI ((1 * 3) + 0))], [pvI 0], M)) rfl ⟨trivial, trivial⟩ ?_
  refine pw_if hT (c := 0 < 0) rfl rfl (fun c12_ => absurd c12_ (by decide)) (fun c12_ => ?_)
  refine pw_blk hT 7 (S' := (25, [some (pvI 1), some (pvI 0), some (pvI 0), some (pvI (0 + 1)), some (pvI ((0 * 3) + 0))], [pvI ((0 * 3) + 0)], M)) rfl ⟨trivial, trivial, trivial, trivial, trivial, trivial, trivial, trivial⟩ ?_
  refine pw_if hT (c := ((0 * 3) + 0) < 0) rfl rfl (fun c13_ => absurd c13_ (by decide)) (fun c13_ => ?_)
  refine pw_blk hT 3 (S' := (34, [some (pvI 1), some (pvI 0), some (pvI 0), some (pvI (0 + 1)), some (pvI ((0 * 3) + 0))], [pvI (Int32.ofNat (pvstab 1041).length), pvI ((0 * 3) + 0)], M)) rfl ⟨trivial, trivial, (by decide), trivial⟩ ?_
  refine pw_ic hT (c := (Int32.ofNat (pvstab 1041).length) ≤ ((0 * 3) + 0)) rfl rfl (fun c14_ => absurd c14_ (by decide)) (fun c14_ => ?_)
  refine pw_blk hT 3 (S' := (43, [some (pvI 1), some (pvI 0), some (pvI 0), some (pvI (0 + 1)), some (pvI ((0 * 3) + 0))], [pvI ((pvstab 1041).getD (Int32.toNatClampNeg ((0 * 3) + 0)) 0)], M)) rfl ⟨trivial, trivial, ⟨by decide, (zr_in (n := 21) (show 0 ≤ Int32.toInt ((0 * 3) + 0) ∧ Int32.toInt ((0 * 3) + 0) ≤ 0 from (by decide)) (by decide) (by decide))⟩, trivial⟩ ?_
  refine pw_if hT (c := ((pvstab 1041).getD (Int32.toNatClampNeg ((0 * 3) + 0)) 0) = 0) rfl rfl (fun c15_ => absurd c15_ (by decide)) (fun c15_ => ?_)
  refine pw_blk hT 3 (S' := (52, [some (pvI 1), some (pvI 0), some (pvI 0), some (pvI (0 + 1)), some (pvI ((0 * 3) + 0))], [pvI ((pvstab 1041).getD (Int32.toNatClampNeg ((0 * 3) + 0)) 0)], M)) rfl ⟨trivial, trivial, ⟨by decide, (zr_in (n := 21) (show 0 ≤ Int32.toInt ((0 * 3) + 0) ∧ Int32.toInt ((0 * 3) + 0) ≤ 0 from (by decide)) (by decide) (by decide))⟩, trivial⟩ ?_
  exact pw_ret hT rfl (r := some (pvI ((pvstab 1041).getD (Int32.toNatClampNeg ((0 * 3) + 0)) 0))) (M' := M) ⟨rfl, rfl⟩ ⟨rfl, rfl⟩
set_option maxHeartbeats 4000000 in
set_option maxRecDepth 10000 in
theorem sf_X0_bodyFrom_1_1 (M : pvM) (hok : pvOk M) (d : Nat) : PW 1 d (0, [some (pvI 1), some (pvI 1), none, none, none], [], M) (fun r X => r = some (pvI (((pvstab 1041).getD (Int32.toNatClampNeg ((1 * 3) + 1)) 0))) ∧ X = M) := by
  have hT : pvdom 1 = pvD_1 := rfl
  refine pw_blk hT 4 (S' := (4, [some (pvI 1), some (pvI 1), some (pvI 1), some (pvI 0), none], [], M)) rfl ⟨trivial, trivial, trivial, trivial, trivial⟩ ?_
  refine pw_blk hT 3 (S' := (9, [some (pvI 1), some (pvI 1), some (pvI 1), some (pvI 0), none], [pvI (Int32.ofNat (pvstab 1041).length), pvI 0], M)) rfl ⟨trivial, trivial, (by decide), trivial⟩ ?_
  refine pw_ic hT (c := (Int32.ofNat (pvstab 1041).length) ≤ 0) rfl rfl (fun c1_ => absurd c1_ (by decide)) (fun c1_ => ?_)
  refine pw_blk hT 1 (S' := (13, [some (pvI 1), some (pvI 1), some (pvI 1), some (pvI 0), none], [pvI 1], M)) rfl ⟨trivial, trivial⟩ ?_
  refine pw_if hT (c := 1 < 0) rfl rfl (fun c2_ => absurd c2_ (by decide)) (fun c2_ => ?_)
  refine pw_blk hT 7 (S' := (25, [some (pvI 1), some (pvI 1), some (pvI 1), some (pvI 0), some (pvI ((1 * 3) + 1))], [pvI ((1 * 3) + 1)], M)) rfl ⟨trivial, trivial, trivial, trivial, trivial, trivial, trivial, trivial⟩ ?_
  refine pw_if hT (c := ((1 * 3) + 1) < 0) rfl rfl (fun c3_ => absurd c3_ (by decide)) (fun c3_ => ?_)
  refine pw_blk hT 3 (S' := (34, [some (pvI 1), some (pvI 1), some (pvI 1), some (pvI 0), some (pvI ((1 * 3) + 1))], [pvI (Int32.ofNat (pvstab 1041).length), pvI ((1 * 3) + 1)], M)) rfl ⟨trivial, trivial, (by decide), trivial⟩ ?_
  refine pw_ic hT (c := (Int32.ofNat (pvstab 1041).length) ≤ ((1 * 3) + 1)) rfl rfl (fun c4_ => absurd c4_ (by decide)) (fun c4_ => ?_)
  refine pw_blk hT 3 (S' := (43, [some (pvI 1), some (pvI 1), some (pvI 1), some (pvI 0), some (pvI ((1 * 3) + 1))], [pvI ((pvstab 1041).getD (Int32.toNatClampNeg ((1 * 3) + 1)) 0)], M)) rfl ⟨trivial, trivial, ⟨by decide, (zr_in (n := 21) (show 4 ≤ Int32.toInt ((1 * 3) + 1) ∧ Int32.toInt ((1 * 3) + 1) ≤ 4 from (by decide)) (by decide) (by decide))⟩, trivial⟩ ?_
  refine pw_if hT (c := ((pvstab 1041).getD (Int32.toNatClampNeg ((1 * 3) + 1)) 0) = 0) rfl rfl (fun c5_ => absurd c5_ (by decide)) (fun c5_ => ?_)
  refine pw_blk hT 3 (S' := (52, [some (pvI 1), some (pvI 1), some (pvI 1), some (pvI 0), some (pvI ((1 * 3) + 1))], [pvI ((pvstab 1041).getD (Int32.toNatClampNeg ((1 * 3) + 1)) 0)], M)) rfl ⟨trivial, trivial, ⟨by decide, (zr_in (n := 21) (show 4 ≤ Int32.toInt ((1 * 3) + 1) ∧ Int32.toInt ((1 * 3) + 1) ≤ 4 from (by decide)) (by decide) (by decide))⟩, trivial⟩ ?_
  exact pw_ret hT rfl (r := some (pvI ((pvstab 1041).getD (Int32.toNatClampNeg ((1 * 3) + 1)) 0))) (M' := M) ⟨rfl, rfl⟩ ⟨rfl, rfl⟩
set_option maxHeartbeats 4000000 in
set_option maxRecDepth 10000 in
theorem sf_X0_bodyFrom_1_2 (M : pvM) (hok : pvOk M) (d : Nat) : PW 1 d (0, [some (pvI 1), some (pvI 2), none, none, none], [], M) (fun r X => r = some (pvI (((pvstab 1041).getD (Int32.toNatClampNeg ((0 * 3) + 2)) 0))) ∧ X = M) := by
  have hT : pvdom 1 = pvD_1 := rfl
  refine pw_blk hT 4 (S' := (4, [some (pvI 1), some (pvI 2), some (pvI 1), some (pvI 0), none], [], M)) rfl ⟨trivial, trivial, trivial, trivial, trivial⟩ ?_
  refine pw_blk hT 3 (S' := (9, [some (pvI 1), some (pvI 2), some (pvI 1), some (pvI 0), none], [pvI (Int32.ofNat (pvstab 1041).length), pvI 0], M)) rfl ⟨trivial, trivial, (by decide), trivial⟩ ?_
  refine pw_ic hT (c := (Int32.ofNat (pvstab 1041).length) ≤ 0) rfl rfl (fun c1_ => absurd c1_ (by decide)) (fun c1_ => ?_)
  refine pw_blk hT 1 (S' := (13, [some (pvI 1), some (pvI 2), some (pvI 1), some (pvI 0), none], [pvI 1], M)) rfl ⟨trivial, trivial⟩ ?_
  refine pw_if hT (c := 1 < 0) rfl rfl (fun c2_ => absurd c2_ (by decide)) (fun c2_ => ?_)
  refine pw_blk hT 7 (S' := (25, [some (pvI 1), some (pvI 2), some (pvI 1), some (pvI 0), some (pvI ((1 * 3) + 2))], [pvI ((1 * 3) + 2)], M)) rfl ⟨trivial, trivial, trivial, trivial, trivial, trivial, trivial, trivial⟩ ?_
  refine pw_if hT (c := ((1 * 3) + 2) < 0) rfl rfl (fun c3_ => absurd c3_ (by decide)) (fun c3_ => ?_)
  refine pw_blk hT 3 (S' := (34, [some (pvI 1), some (pvI 2), some (pvI 1), some (pvI 0), some (pvI ((1 * 3) + 2))], [pvI (Int32.ofNat (pvstab 1041).length), pvI ((1 * 3) + 2)], M)) rfl ⟨trivial, trivial, (by decide), trivial⟩ ?_
  refine pw_ic hT (c := (Int32.ofNat (pvstab 1041).length) ≤ ((1 * 3) + 2)) rfl rfl (fun c4_ => absurd c4_ (by decide)) (fun c4_ => ?_)
  refine pw_blk hT 3 (S' := (43, [some (pvI 1), some (pvI 2), some (pvI 1), some (pvI 0), some (pvI ((1 * 3) + 2))], [pvI ((pvstab 1041).getD (Int32.toNatClampNeg ((1 * 3) + 2)) 0)], M)) rfl ⟨trivial, trivial, ⟨by decide, (zr_in (n := 21) (show 5 ≤ Int32.toInt ((1 * 3) + 2) ∧ Int32.toInt ((1 * 3) + 2) ≤ 5 from (by decide)) (by decide) (by decide))⟩, trivial⟩ ?_
  refine pw_if hT (c := ((pvstab 1041).getD (Int32.toNatClampNeg ((1 * 3) + 2)) 0) = 0) rfl rfl (fun c5_ => ?_) (fun c5_ => absurd (by decide) c5_)
  refine pw_blk hT 1 (S' := (54, [some (pvI 1), some (pvI 2), some (pvI 1), some (pvI 0), some (pvI ((1 * 3) + 2))], [pvI 1], M)) rfl ⟨trivial, trivial⟩ ?_
  refine pw_callT hT (as := [pvI 1]) (lo1 := [some (pvI 1)]) (d1 := d) (rest := []) rfl rfl rfl rfl rfl (fun h => absurd h (by decide)) (Nat.zero_le _) rfl rfl rfl (sf_X3_above_1 M hok d) ?_
  refine pw_eqI (show ((pvstab 1040).getD (Int32.toNatClampNeg 1) 0) = 0 from by decide) ?_
  show PW 1 d (57, [some (pvI 1), some (pvI 2), some (pvI 1), some (pvI 0), some (pvI ((1 * 3) + 2))], [pvI 0], M) _
  refine pw_blk hT 3 (S' := (4, [some (pvI 1), some (pvI 2), some (pvI 0), some (pvI (0 + 1)), some (pvI ((1 * 3) + 2))], [], M)) rfl ⟨trivial, trivial, trivial, trivial⟩ ?_
  refine pw_blk hT 3 (S' := (9, [some (pvI 1), some (pvI 2), some (pvI 0), some (pvI (0 + 1)), some (pvI ((1 * 3) + 2))], [pvI (Int32.ofNat (pvstab 1041).length), pvI (0 + 1)], M)) rfl ⟨trivial, trivial, (by decide), trivial⟩ ?_
  refine pw_ic hT (c := (Int32.ofNat (pvstab 1041).length) ≤ (0 + 1)) rfl rfl (fun c11_ => absurd c11_ (by decide)) (fun c11_ => ?_)
  refine pw_blk hT 1 (S' := (13, [some (pvI 1), some (pvI 2), some (pvI 0), some (pvI (0 + 1)), some (pvI ((1 * 3) + 2))], [pvI 0], M)) rfl ⟨trivial, trivial⟩ ?_
  refine pw_if hT (c := 0 < 0) rfl rfl (fun c12_ => absurd c12_ (by decide)) (fun c12_ => ?_)
  refine pw_blk hT 7 (S' := (25, [some (pvI 1), some (pvI 2), some (pvI 0), some (pvI (0 + 1)), some (pvI ((0 * 3) + 2))], [pvI ((0 * 3) + 2)], M)) rfl ⟨trivial, trivial, trivial, trivial, trivial, trivial, trivial, trivial⟩ ?_
  refine pw_if hT (c := ((0 * 3) + 2) < 0) rfl rfl (fun c13_ => absurd c13_ (by decide)) (fun c13_ => ?_)
  refine pw_blk hT 3 (S' := (34, [some (pvI 1), some (pvI 2), some (pvI 0), some (pvI (0 + 1)), some (pvI ((0 * 3) + 2))], [pvI (Int32.ofNat (pvstab 1041).length), pvI ((0 * 3) + 2)], M)) rfl ⟨trivial, trivial, (by decide), trivial⟩ ?_
  refine pw_ic hT (c := (Int32.ofNat (pvstab 1041).length) ≤ ((0 * 3) + 2)) rfl rfl (fun c14_ => absurd c14_ (by decide)) (fun c14_ => ?_)
  refine pw_blk hT 3 (S' := (43, [some (pvI 1), some (pvI 2), some (pvI 0), some (pvI (0 + 1)), some (pvI ((0 * 3) + 2))], [pvI ((pvstab 1041).getD (Int32.toNatClampNeg ((0 * 3) + 2)) 0)], M)) rfl ⟨trivial, trivial, ⟨by decide, (zr_in (n := 21) (show 2 ≤ Int32.toInt ((0 * 3) + 2) ∧ Int32.toInt ((0 * 3) + 2) ≤ 2 from (by decide)) (by decide) (by decide))⟩, trivial⟩ ?_
  refine pw_if hT (c := ((pvstab 1041).getD (Int32.toNatClampNeg ((0 * 3) + 2)) 0) = 0) rfl rfl (fun c15_ => absurd c15_ (by decide)) (fun c15_ => ?_)
  refine pw_blk hT 3 (S' := (52, [some (pvI 1), some (pvI 2), some (pvI 0), some (pvI (0 + 1)), some (pvI ((0 * 3) + 2))], [pvI ((pvstab 1041).getD (Int32.toNatClampNeg ((0 * 3) + 2)) 0)], M)) rfl ⟨trivial, trivial, ⟨by decide, (zr_in (n := 21) (show 2 ≤ Int32.toInt ((0 * 3) + 2) ∧ Int32.toInt ((0 * 3) + 2) ≤ 2 from (by decide)) (by decide) (by decide))⟩, trivial⟩ ?_
  exact pw_ret hT rfl (r := some (pvI ((pvstab 1041).getD (Int32.toNatClampNeg ((0 * 3) + 2)) 0))) (M' := M) ⟨rfl, rfl⟩ ⟨rfl, rfl⟩
set_option maxHeartbeats 4000000 in
set_option maxRecDepth 10000 in
theorem sf_X0_bodyFrom_2_0 (M : pvM) (hok : pvOk M) (d : Nat) : PW 1 d (0, [some (pvI 2), some (pvI 0), none, none, none], [], M) (fun r X => r = some (pvI (((pvstab 1041).getD (Int32.toNatClampNeg ((2 * 3) + 0)) 0))) ∧ X = M) := by
  have hT : pvdom 1 = pvD_1 := rfl
  refine pw_blk hT 4 (S' := (4, [some (pvI 2), some (pvI 0), some (pvI 2), some (pvI 0), none], [], M)) rfl ⟨trivial, trivial, trivial, trivial, trivial⟩ ?_
  refine pw_blk hT 3 (S' := (9, [some (pvI 2), some (pvI 0), some (pvI 2), some (pvI 0), none], [pvI (Int32.ofNat (pvstab 1041).length), pvI 0], M)) rfl ⟨trivial, trivial, (by decide), trivial⟩ ?_
  refine pw_ic hT (c := (Int32.ofNat (pvstab 1041).length) ≤ 0) rfl rfl (fun c1_ => absurd c1_ (by decide)) (fun c1_ => ?_)
  refine pw_blk hT 1 (S' := (13, [some (pvI 2), some (pvI 0), some (pvI 2), some (pvI 0), none], [pvI 2], M)) rfl ⟨trivial, trivial⟩ ?_
  refine pw_if hT (c := 2 < 0) rfl rfl (fun c2_ => absurd c2_ (by decide)) (fun c2_ => ?_)
  refine pw_blk hT 7 (S' := (25, [some (pvI 2), some (pvI 0), some (pvI 2), some (pvI 0), some (pvI ((2 * 3) + 0))], [pvI ((2 * 3) + 0)], M)) rfl ⟨trivial, trivial, trivial, trivial, trivial, trivial, trivial, trivial⟩ ?_
  refine pw_if hT (c := ((2 * 3) + 0) < 0) rfl rfl (fun c3_ => absurd c3_ (by decide)) (fun c3_ => ?_)
  refine pw_blk hT 3 (S' := (34, [some (pvI 2), some (pvI 0), some (pvI 2), some (pvI 0), some (pvI ((2 * 3) + 0))], [pvI (Int32.ofNat (pvstab 1041).length), pvI ((2 * 3) + 0)], M)) rfl ⟨trivial, trivial, (by decide), trivial⟩ ?_
  refine pw_ic hT (c := (Int32.ofNat (pvstab 1041).length) ≤ ((2 * 3) + 0)) rfl rfl (fun c4_ => absurd c4_ (by decide)) (fun c4_ => ?_)
  refine pw_blk hT 3 (S' := (43, [some (pvI 2), some (pvI 0), some (pvI 2), some (pvI 0), some (pvI ((2 * 3) + 0))], [pvI ((pvstab 1041).getD (Int32.toNatClampNeg ((2 * 3) + 0)) 0)], M)) rfl ⟨trivial, trivial, ⟨by decide, (zr_in (n := 21) (show 6 ≤ Int32.toInt ((2 * 3) + 0) ∧ Int32.toInt ((2 * 3) + 0) ≤ 6 from (by decide)) (by decide) (by decide))⟩, trivial⟩ ?_
  refine pw_if hT (c := ((pvstab 1041).getD (Int32.toNatClampNeg ((2 * 3) + 0)) 0) = 0) rfl rfl (fun c5_ => absurd c5_ (by decide)) (fun c5_ => ?_)
  refine pw_blk hT 3 (S' := (52, [some (pvI 2), some (pvI 0), some (pvI 2), some (pvI 0), some (pvI ((2 * 3) + 0))], [pvI ((pvstab 1041).getD (Int32.toNatClampNeg ((2 * 3) + 0)) 0)], M)) rfl ⟨trivial, trivial, ⟨by decide, (zr_in (n := 21) (show 6 ≤ Int32.toInt ((2 * 3) + 0) ∧ Int32.toInt ((2 * 3) + 0) ≤ 6 from (by decide)) (by decide) (by decide))⟩, trivial⟩ ?_
  exact pw_ret hT rfl (r := some (pvI ((pvstab 1041).getD (Int32.toNatClampNeg ((2 * 3) + 0)) 0))) (M' := M) ⟨rfl, rfl⟩ ⟨rfl, rfl⟩
set_option maxHeartbeats 4000000 in
set_option maxRecDepth 10000 in
theorem sf_X3_above_2 (M : pvM) (hok : pvOk M) (d : Nat) : PW 131 d (0, [some (pvI 2)], [], M) (fun r X => r = some (pvI (((pvstab 1040).getD (Int32.toNatClampNeg 2) 0))) ∧ X = M) := by
  have hT : pvdom 131 = pvD_131 := rfl
  refine pw_blk hT 1 (S' := (1, [some (pvI 2)], [pvI 2], M)) rfl ⟨trivial, trivial⟩ ?_
  refine pw_if hT (c := 2 < 0) rfl rfl (fun c1_ => absurd c1_ (by decide)) (fun c1_ => ?_)
  refine pw_blk hT 3 (S' := (9, [some (pvI 2)], [pvI (Int32.ofNat (pvstab 1040).length), pvI 2], M)) rfl ⟨trivial, trivial, (by decide), trivial⟩ ?_
  refine pw_ic hT (c := 2 < (Int32.ofNat (pvstab 1040).length)) rfl rfl (fun c2_ => ?_) (fun c2_ => absurd (by decide) c2_)
  refine pw_blk hT 3 (S' := (21, [some (pvI 2)], [pvI ((pvstab 1040).getD (Int32.toNatClampNeg 2) 0)], M)) rfl ⟨trivial, trivial, ⟨by decide, (zr_in (n := 7) (show 2 ≤ Int32.toInt 2 ∧ Int32.toInt 2 ≤ 2 from (by decide)) (by decide) (by decide))⟩, trivial⟩ ?_
  exact pw_ret hT rfl (r := some (pvI ((pvstab 1040).getD (Int32.toNatClampNeg 2) 0))) (M' := M) ⟨rfl, rfl⟩ ⟨rfl, rfl⟩
set_option maxHeartbeats 4000000 in
set_option maxRecDepth 10000 in
theorem sf_X0_bodyFrom_2_1 (M : pvM) (hok : pvOk M) (d : Nat) : PW 1 d (0, [some (pvI 2), some (pvI 1), none, none, none], [], M) (fun r X => r = some (pvI (((pvstab 1041).getD (Int32.toNatClampNeg ((0 * 3) + 1)) 0))) ∧ X = M) := by
  have hT : pvdom 1 = pvD_1 := rfl
  refine pw_blk hT 4 (S' := (4, [some (pvI 2), some (pvI 1), some (pvI 2), some (pvI 0), none], [], M)) rfl ⟨trivial, trivial, trivial, trivial, trivial⟩ ?_
  refine pw_blk hT 3 (S' := (9, [some (pvI 2), some (pvI 1), some (pvI 2), some (pvI 0), none], [pvI (Int32.ofNat (pvstab 1041).length), pvI 0], M)) rfl ⟨trivial, trivial, (by decide), trivial⟩ ?_
  refine pw_ic hT (c := (Int32.ofNat (pvstab 1041).length) ≤ 0) rfl rfl (fun c1_ => absurd c1_ (by decide)) (fun c1_ => ?_)
  refine pw_blk hT 1 (S' := (13, [some (pvI 2), some (pvI 1), some (pvI 2), some (pvI 0), none], [pvI 2], M)) rfl ⟨trivial, trivial⟩ ?_
  refine pw_if hT (c := 2 < 0) rfl rfl (fun c2_ => absurd c2_ (by decide)) (fun c2_ => ?_)
  refine pw_blk hT 7 (S' := (25, [some (pvI 2), some (pvI 1), some (pvI 2), some (pvI 0), some (pvI ((2 * 3) + 1))], [pvI ((2 * 3) + 1)], M)) rfl ⟨trivial, trivial, trivial, trivial, trivial, trivial, trivial, trivial⟩ ?_
  refine pw_if hT (c := ((2 * 3) + 1) < 0) rfl rfl (fun c3_ => absurd c3_ (by decide)) (fun c3_ => ?_)
  refine pw_blk hT 3 (S' := (34, [some (pvI 2), some (pvI 1), some (pvI 2), some (pvI 0), some (pvI ((2 * 3) + 1))], [pvI (Int32.ofNat (pvstab 1041).length), pvI ((2 * 3) + 1)], M)) rfl ⟨trivial, trivial, (by decide), trivial⟩ ?_
  refine pw_ic hT (c := (Int32.ofNat (pvstab 1041).length) ≤ ((2 * 3) + 1)) rfl rfl (fun c4_ => absurd c4_ (by decide)) (fun c4_ => ?_)
  refine pw_blk hT 3 (S' := (43, [some (pvI 2), some (pvI 1), some (pvI 2), some (pvI 0), some (pvI ((2 * 3) + 1))], [pvI ((pvstab 1041).getD (Int32.toNatClampNeg ((2 * 3) + 1)) 0)], M)) rfl ⟨trivial, trivial, ⟨by decide, (zr_in (n := 21) (show 7 ≤ Int32.toInt ((2 * 3) + 1) ∧ Int32.toInt ((2 * 3) + 1) ≤ 7 from (by decide)) (by decide) (by decide))⟩, trivial⟩ ?_
  refine pw_if hT (c := ((pvstab 1041).getD (Int32.toNatClampNeg ((2 * 3) + 1)) 0) = 0) rfl rfl (fun c5_ => ?_) (fun c5_ => absurd (by decide) c5_)
  refine pw_blk hT 1 (S' := (54, [some (pvI 2), some (pvI 1), some (pvI 2), some (pvI 0), some (pvI ((2 * 3) + 1))], [pvI 2], M)) rfl ⟨trivial, trivial⟩ ?_
  refine pw_callT hT (as := [pvI 2]) (lo1 := [some (pvI 2)]) (d1 := d) (rest := []) rfl rfl rfl rfl rfl (fun h => absurd h (by decide)) (Nat.zero_le _) rfl rfl rfl (sf_X3_above_2 M hok d) ?_
  refine pw_eqI (show ((pvstab 1040).getD (Int32.toNatClampNeg 2) 0) = 0 from by decide) ?_
  show PW 1 d (57, [some (pvI 2), some (pvI 1), some (pvI 2), some (pvI 0), some (pvI ((2 * 3) + 1))], [pvI 0], M) _
  refine pw_blk hT 3 (S' := (4, [some (pvI 2), some (pvI 1), some (pvI 0), some (pvI (0 + 1)), some (pvI ((2 * 3) + 1))], [], M)) rfl ⟨trivial, trivial, trivial, trivial⟩ ?_
  refine pw_blk hT 3 (S' := (9, [some (pvI 2), some (pvI 1), some (pvI 0), some (pvI (0 + 1)), some (pvI ((2 * 3) + 1))], [pvI (Int32.ofNat (pvstab 1041).length), pvI (0 + 1)], M)) rfl ⟨trivial, trivial, (by decide), trivial⟩ ?_
  refine pw_ic hT (c := (Int32.ofNat (pvstab 1041).length) ≤ (0 + 1)) rfl rfl (fun c11_ => absurd c11_ (by decide)) (fun c11_ => ?_)
  refine pw_blk hT 1 (S' := (13, [some (pvI 2), some (pvI 1), some (pvI 0), some (pvI (0 + 1)), some (pvI ((2 * 3) + 1))], [pvI 0], M)) rfl ⟨trivial, trivial⟩ ?_
  refine pw_if hT (c := 0 < 0) rfl rfl (fun c12_ => absurd c12_ (by decide)) (fun c12_ => ?_)
  refine pw_blk hT 7 (S' := (25, [some (pvI 2), some (pvI 1), some (pvI 0), some (pvI (0 + 1)), some (pvI ((0 * 3) + 1))], [pvI ((0 * 3) + 1)], M)) rfl ⟨trivial, trivial, trivial, trivial, trivial, trivial, trivial, trivial⟩ ?_
  refine pw_if hT (c := ((0 * 3) + 1) < 0) rfl rfl (fun c13_ => absurd c13_ (by decide)) (fun c13_ => ?_)
  refine pw_blk hT 3 (S' := (34, [some (pvI 2), some (pvI 1), some (pvI 0), some (pvI (0 + 1)), some (pvI ((0 * 3) + 1))], [pvI (Int32.ofNat (pvstab 1041).length), pvI ((0 * 3) + 1)], M)) rfl ⟨trivial, trivial, (by decide), trivial⟩ ?_
  refine pw_ic hT (c := (Int32.ofNat (pvstab 1041).length) ≤ ((0 * 3) + 1)) rfl rfl (fun c14_ => absurd c14_ (by decide)) (fun c14_ => ?_)
  refine pw_blk hT 3 (S' := (43, [some (pvI 2), some (pvI 1), some (pvI 0), some (pvI (0 + 1)), some (pvI ((0 * 3) + 1))], [pvI ((pvstab 1041).getD (Int32.toNatClampNeg ((0 * 3) + 1)) 0)], M)) rfl ⟨trivial, trivial, ⟨by decide, (zr_in (n := 21) (show 1 ≤ Int32.toInt ((0 * 3) + 1) ∧ Int32.toInt ((0 * 3) + 1) ≤ 1 from (by decide)) (by decide) (by decide))⟩, trivial⟩ ?_
  refine pw_if hT (c := ((pvstab 1041).getD (Int32.toNatClampNeg ((0 * 3) + 1)) 0) = 0) rfl rfl (fun c15_ => absurd c15_ (by decide)) (fun c15_ => ?_)
  refine pw_blk hT 3 (S' := (52, [some (pvI 2), some (pvI 1), some (pvI 0), some (pvI (0 + 1)), some (pvI ((0 * 3) + 1))], [pvI ((pvstab 1041).getD (Int32.toNatClampNeg ((0 * 3) + 1)) 0)], M)) rfl ⟨trivial, trivial, ⟨by decide, (zr_in (n := 21) (show 1 ≤ Int32.toInt ((0 * 3) + 1) ∧ Int32.toInt ((0 * 3) + 1) ≤ 1 from (by decide)) (by decide) (by decide))⟩, trivial⟩ ?_
  exact pw_ret hT rfl (r := some (pvI ((pvstab 1041).getD (Int32.toNatClampNeg ((0 * 3) + 1)) 0))) (M' := M) ⟨rfl, rfl⟩ ⟨rfl, rfl⟩
set_option maxHeartbeats 4000000 in
set_option maxRecDepth 10000 in
theorem sf_X0_bodyFrom_2_2 (M : pvM) (hok : pvOk M) (d : Nat) : PW 1 d (0, [some (pvI 2), some (pvI 2), none, none, none], [], M) (fun r X => r = some (pvI (((pvstab 1041).getD (Int32.toNatClampNeg ((0 * 3) + 2)) 0))) ∧ X = M) := by
  have hT : pvdom 1 = pvD_1 := rfl
  refine pw_blk hT 4 (S' := (4, [some (pvI 2), some (pvI 2), some (pvI 2), some (pvI 0), none], [], M)) rfl ⟨trivial, trivial, trivial, trivial, trivial⟩ ?_
  refine pw_blk hT 3 (S' := (9, [some (pvI 2), some (pvI 2), some (pvI 2), some (pvI 0), none], [pvI (Int32.ofNat (pvstab 1041).length), pvI 0], M)) rfl ⟨trivial, trivial, (by decide), trivial⟩ ?_
  refine pw_ic hT (c := (Int32.ofNat (pvstab 1041).length) ≤ 0) rfl rfl (fun c1_ => absurd c1_ (by decide)) (fun c1_ => ?_)
  refine pw_blk hT 1 (S' := (13, [some (pvI 2), some (pvI 2), some (pvI 2), some (pvI 0), none], [pvI 2], M)) rfl ⟨trivial, trivial⟩ ?_
  refine pw_if hT (c := 2 < 0) rfl rfl (fun c2_ => absurd c2_ (by decide)) (fun c2_ => ?_)
  refine pw_blk hT 7 (S' := (25, [some (pvI 2), some (pvI 2), some (pvI 2), some (pvI 0), some (pvI ((2 * 3) + 2))], [pvI ((2 * 3) + 2)], M)) rfl ⟨trivial, trivial, trivial, trivial, trivial, trivial, trivial, trivial⟩ ?_
  refine pw_if hT (c := ((2 * 3) + 2) < 0) rfl rfl (fun c3_ => absurd c3_ (by decide)) (fun c3_ => ?_)
  refine pw_blk hT 3 (S' := (34, [some (pvI 2), some (pvI 2), some (pvI 2), some (pvI 0), some (pvI ((2 * 3) + 2))], [pvI (Int32.ofNat (pvstab 1041).length), pvI ((2 * 3) + 2)], M)) rfl ⟨trivial, trivial, (by decide), trivial⟩ ?_
  refine pw_ic hT (c := (Int32.ofNat (pvstab 1041).length) ≤ ((2 * 3) + 2)) rfl rfl (fun c4_ => absurd c4_ (by decide)) (fun c4_ => ?_)
  refine pw_blk hT 3 (S' := (43, [some (pvI 2), some (pvI 2), some (pvI 2), some (pvI 0), some (pvI ((2 * 3) + 2))], [pvI ((pvstab 1041).getD (Int32.toNatClampNeg ((2 * 3) + 2)) 0)], M)) rfl ⟨trivial, trivial, ⟨by decide, (zr_in (n := 21) (show 8 ≤ Int32.toInt ((2 * 3) + 2) ∧ Int32.toInt ((2 * 3) + 2) ≤ 8 from (by decide)) (by decide) (by decide))⟩, trivial⟩ ?_
  refine pw_if hT (c := ((pvstab 1041).getD (Int32.toNatClampNeg ((2 * 3) + 2)) 0) = 0) rfl rfl (fun c5_ => ?_) (fun c5_ => absurd (by decide) c5_)
  refine pw_blk hT 1 (S' := (54, [some (pvI 2), some (pvI 2), some (pvI 2), some (pvI 0), some (pvI ((2 * 3) + 2))], [pvI 2], M)) rfl ⟨trivial, trivial⟩ ?_
  refine pw_callT hT (as := [pvI 2]) (lo1 := [some (pvI 2)]) (d1 := d) (rest := []) rfl rfl rfl rfl rfl (fun h => absurd h (by decide)) (Nat.zero_le _) rfl rfl rfl (sf_X3_above_2 M hok d) ?_
  refine pw_eqI (show ((pvstab 1040).getD (Int32.toNatClampNeg 2) 0) = 0 from by decide) ?_
  show PW 1 d (57, [some (pvI 2), some (pvI 2), some (pvI 2), some (pvI 0), some (pvI ((2 * 3) + 2))], [pvI 0], M) _
  refine pw_blk hT 3 (S' := (4, [some (pvI 2), some (pvI 2), some (pvI 0), some (pvI (0 + 1)), some (pvI ((2 * 3) + 2))], [], M)) rfl ⟨trivial, trivial, trivial, trivial⟩ ?_
  refine pw_blk hT 3 (S' := (9, [some (pvI 2), some (pvI 2), some (pvI 0), some (pvI (0 + 1)), some (pvI ((2 * 3) + 2))], [pvI (Int32.ofNat (pvstab 1041).length), pvI (0 + 1)], M)) rfl ⟨trivial, trivial, (by decide), trivial⟩ ?_
  refine pw_ic hT (c := (Int32.ofNat (pvstab 1041).length) ≤ (0 + 1)) rfl rfl (fun c11_ => absurd c11_ (by decide)) (fun c11_ => ?_)
  refine pw_blk hT 1 (S' := (13, [some (pvI 2), some (pvI 2), some (pvI 0), some (pvI (0 + 1)), some (pvI ((2 * 3) + 2))], [pvI 0], M)) rfl ⟨trivial, trivial⟩ ?_
  refine pw_if hT (c := 0 < 0) rfl rfl (fun c12_ => absurd c12_ (by decide)) (fun c12_ => ?_)
  refine pw_blk hT 7 (S' := (25, [some (pvI 2), some (pvI 2), some (pvI 0), some (pvI (0 + 1)), some (pvI ((0 * 3) + 2))], [pvI ((0 * 3) + 2)], M)) rfl ⟨trivial, trivial, trivial, trivial, trivial, trivial, trivial, trivial⟩ ?_
  refine pw_if hT (c := ((0 * 3) + 2) < 0) rfl rfl (fun c13_ => absurd c13_ (by decide)) (fun c13_ => ?_)
  refine pw_blk hT 3 (S' := (34, [some (pvI 2), some (pvI 2), some (pvI 0), some (pvI (0 + 1)), some (pvI ((0 * 3) + 2))], [pvI (Int32.ofNat (pvstab 1041).length), pvI ((0 * 3) + 2)], M)) rfl ⟨trivial, trivial, (by decide), trivial⟩ ?_
  refine pw_ic hT (c := (Int32.ofNat (pvstab 1041).length) ≤ ((0 * 3) + 2)) rfl rfl (fun c14_ => absurd c14_ (by decide)) (fun c14_ => ?_)
  refine pw_blk hT 3 (S' := (43, [some (pvI 2), some (pvI 2), some (pvI 0), some (pvI (0 + 1)), some (pvI ((0 * 3) + 2))], [pvI ((pvstab 1041).getD (Int32.toNatClampNeg ((0 * 3) + 2)) 0)], M)) rfl ⟨trivial, trivial, ⟨by decide, (zr_in (n := 21) (show 2 ≤ Int32.toInt ((0 * 3) + 2) ∧ Int32.toInt ((0 * 3) + 2) ≤ 2 from (by decide)) (by decide) (by decide))⟩, trivial⟩ ?_
  refine pw_if hT (c := ((pvstab 1041).getD (Int32.toNatClampNeg ((0 * 3) + 2)) 0) = 0) rfl rfl (fun c15_ => absurd c15_ (by decide)) (fun c15_ => ?_)
  refine pw_blk hT 3 (S' := (52, [some (pvI 2), some (pvI 2), some (pvI 0), some (pvI (0 + 1)), some (pvI ((0 * 3) + 2))], [pvI ((pvstab 1041).getD (Int32.toNatClampNeg ((0 * 3) + 2)) 0)], M)) rfl ⟨trivial, trivial, ⟨by decide, (zr_in (n := 21) (show 2 ≤ Int32.toInt ((0 * 3) + 2) ∧ Int32.toInt ((0 * 3) + 2) ≤ 2 from (by decide)) (by decide) (by decide))⟩, trivial⟩ ?_
  exact pw_ret hT rfl (r := some (pvI ((pvstab 1041).getD (Int32.toNatClampNeg ((0 * 3) + 2)) 0))) (M' := M) ⟨rfl, rfl⟩ ⟨rfl, rfl⟩
