set_option maxHeartbeats 4000000 in
set_option maxRecDepth 10000 in
theorem se_X1_harmOfAll_5_x_x (M : pvM) (hok : pvOk M) (n1 : Int32) (n2 : Int32) (hn1 : 0 ≤ Int32.toInt n1 ∧ Int32.toInt n1 ≤ 200000) (hn2 : 0 ≤ Int32.toInt n2 ∧ Int32.toInt n2 ≤ 200000) (d : Nat) : PW 113 d (0, [some (pvR 5), some (pvI n1), some (pvI n2), none, none], [], M) (fun r X => (∃ x : Int32, r = some (pvI x) ∧ True ∧ yHA M n1 n2 x) ∧ X = M) := by
  have hT : pvdom 113 = pvD_113 := rfl
  refine pw_blk hT 4 (S' := (5, [some (pvR 5), some (pvI n1), some (pvI n2), some (pvI 0), some (pvI 0)], [], M)) rfl ⟨trivial, trivial, trivial, trivial, trivial⟩ ?_
  have hlz51_ : ∀ (nz51_ : Nat) (i3z51_ : Int32) (i4z51_ : Int32), (0 ≤ Int32.toInt i4z51_ ∧ Int32.toInt i4z51_ ≤ 7) → (yAI M n1 n2 i3z51_ i4z51_) → (zhide ((8 - Int32.toInt i4z51_).toNat < nz51_)) → PW 113 d (5, [some (pvR 5), some (pvI n1), some (pvI n2), some (pvI i3z51_), some (pvI i4z51_)], [], M) (fun r X => (∃ x : Int32, r = some (pvI x) ∧ True ∧ yHA M n1 n2 x) ∧ X = M) := by
    intro nz51_
    induction nz51_ with
    | zero => intro i3z51_ i4z51_ h4z51_ j0z51_ hmz51_; exact absurd (zshow hmz51_) (Nat.not_lt_zero _)
    | succ nz51_ ihz51_ =>
      intro i3z51_ i4z51_ h4z51_ j0z51_ hmz51_
      have b52_ : 0 ≤ Int32.toInt (M.1 8 1) ∧ Int32.toInt (M.1 8 1) ≤ 7 := pvok_r hok 8 1 rfl
      refine pw_blk hT 4 (S' := (14, [some (pvR 5), some (pvI n1), some (pvI n2), some (pvI i3z51_), some (pvI i4z51_)], [pvI (M.1 8 1), pvI i4z51_], M)) rfl ⟨trivial, trivial, rfl, rfl, trivial⟩ ?_
      refine pw_ic hT (c := (M.1 8 1) ≤ i4z51_) rfl rfl (fun c53_ => ?_) (fun c53_ => ?_)
      · have d54_ : Int32.toInt (M.1 8 1) ≤ Int32.toInt i4z51_ := (zi_le _ _).mp c53_
        refine pw_blk hT 1 (S' := (35, [some (pvR 5), some (pvI n1), some (pvI n2), some (pvI i3z51_), some (pvI i4z51_)], [pvI i3z51_], M)) rfl ⟨trivial, trivial⟩ ?_
        exact pw_ret hT rfl (r := some (pvI i3z51_)) (M' := M) ⟨rfl, rfl⟩ ⟨⟨_, rfl, trivial, (yAI_e j0z51_ (by omega))⟩, rfl⟩
      · have b55_ : 1 ≤ Int32.toInt (M.1 8 1) ∧ Int32.toInt (M.1 8 1) ≤ 7 := zr_nle_l 1 c53_ b52_ h4z51_ (by decide)
        have b56_ : 0 ≤ Int32.toInt i4z51_ ∧ Int32.toInt i4z51_ ≤ 6 := zr_nle_r 6 c53_ h4z51_ b55_ (by decide)
        have d57_ : Int32.toInt (M.1 8 1) > Int32.toInt i4z51_ := Int.not_le.mp ((not_congr (zi_le _ _)).mp c53_)
        refine pw_blk hT 5 (S' := (23, [some (pvR 5), some (pvI n1), some (pvI n2), some (pvI i3z51_), some (pvI i4z51_)], [pvI n2, pvI n1, pvI i4z51_, pvR 5, pvI i3z51_], M)) rfl ⟨trivial, trivial, trivial, trivial, trivial, trivial⟩ ?_
        refine pw_callGp hT (as := [pvR 5, pvI i4z51_, pvI n1, pvI n2]) (lo1 := [some (pvR 5), some (pvI i4z51_), some (pvI n1), some (pvI n2), none, none, none, none]) (d1 := d) (rest := [pvI i3z51_]) rfl rfl rfl rfl rfl (fun _ => rfl) (Nat.zero_le _) rfl rfl rfl (se_X1_harmOf_5_x_x_x M hok i4z51_ n1 n2 b56_ hn1 hn2 d) (fun x58_ b60_ => ?_)
        obtain ⟨b63_, d64_⟩ := b60_
        obtain ⟨q66_, b65_⟩ : (Int32.toInt (i4z51_ + 1) = Int32.toInt i4z51_ + 1) ∧ (1 ≤ Int32.toInt (i4z51_ + 1) ∧ Int32.toInt (i4z51_ + 1) ≤ 7) := zadd_k i4z51_ 1 1 1 7 b56_ (by decide) (by decide) (by decide) (by decide) (by decide)
        refine pw_blk hT 4 (S' := (5, [some (pvR 5), some (pvI n1), some (pvI n2), some (pvI (i3z51_ + x58_)), some (pvI (i4z51_ + 1))], [], M)) rfl ⟨trivial, trivial, trivial, trivial, trivial⟩ ?_
        have j67_ : yAI M n1 n2 (i3z51_ + x58_) (i4z51_ + 1) := (yAI_s hok j0z51_ hn1.1 (by have u := b56_; omega) (by omega) (by omega) d64_)
        exact ihz51_ (i3z51_ + x58_) (i4z51_ + 1) (zr_wide b65_ (by decide) (by decide)) j67_ (zhid (pvms_up (zshow hmz51_) h4z51_ q66_ (by decide) (by decide)))
  have u68_ : Int32.toInt 0 = 0 := by decide
  have j69_ : yAI M n1 n2 0 0 := (yAI_0 hok n1 n2)
  exact hlz51_ _ 0 0 (zr_wide (show 0 ≤ Int32.toInt 0 ∧ Int32.toInt 0 ≤ 0 from (by decide)) (by decide) (by decide)) j69_ (zhid (Nat.lt_succ_self _))
set_option maxHeartbeats 4000000 in
set_option maxRecDepth 10000 in
theorem se_X1_cost_5 (M : pvM) (hok : pvOk M) (d : Nat) : PW 103 d (0, [some (pvR 5)], [], M) (fun r X => (∃ x : Int32, r = some (pvI x) ∧ True ∧ yCo M x) ∧ X = M) := by
  have hT : pvdom 103 = pvD_103 := rfl
  have b1_ : 0 ≤ Int32.toInt (M.1 8 4) ∧ Int32.toInt (M.1 8 4) ≤ 9999 := pvok_r hok 8 4 rfl
  refine pw_blk hT 5 (S' := (9, [some (pvR 5)], [pvR 5, pvI (M.1 8 4), pvR 5], M)) rfl ⟨trivial, trivial, rfl, rfl, trivial, trivial⟩ ?_
  refine pw_callGp hT (as := [pvR 5]) (lo1 := [some (pvR 5)]) (d1 := d) (rest := [pvI (M.1 8 4), pvR 5]) rfl rfl rfl rfl rfl (fun _ => rfl) (Nat.zero_le _) rfl rfl rfl (se_X1_stormEnd_5 M hok d) (fun x2_ b4_ => ?_)
  obtain ⟨b7_, d8_⟩ := b4_
  refine pw_callGp hT (as := [pvR 5, pvI (M.1 8 4), pvI x2_]) (lo1 := [some (pvR 5), some (pvI (M.1 8 4)), some (pvI x2_), none, none]) (d1 := d) (rest := []) rfl rfl rfl rfl rfl (fun _ => rfl) (Nat.zero_le _) rfl rfl rfl (se_X1_harmOfAll_5_x_x M hok (M.1 8 4) x2_ (zr_wide b1_ (by decide) (by decide)) (zr_wide b7_ (by decide) (by decide)) d) (fun x9_ b11_ => ?_)
  obtain ⟨b14_, d15_⟩ := b11_
  exact pw_ret hT rfl (r := some (pvI x9_)) (M' := M) ⟨rfl, rfl⟩ ⟨⟨_, rfl, trivial, (yCo_i d15_ d8_)⟩, rfl⟩
def fpL_eX6_clear_106 : List (Nat × Nat × Nat) := [(0, 106, 1)]
def fp_eX6_clear_106 (q k : Nat) : Bool := pvfp fpL_eX6_clear_106 q k
set_option maxHeartbeats 4000000 in
set_option maxRecDepth 10000 in
theorem se_X6_clear_106 (M : pvM) (hok : pvOk M) (d : Nat) : PW 153 d (0, [some (pvR 106)], [], M) (fun r X => (∃ x : Int32, r = some (pvI x) ∧ (0 ≤ Int32.toInt x ∧ Int32.toInt x ≤ 0) ∧ x = 0) ∧ pvOk X ∧ pvFr fp_eX6_clear_106 M X ∧ X.1 106 0 = 0) := by
  have hT : pvdom 153 = pvD_153 := rfl
  refine pw_blkw hT 3 (pc := 5) (lo := [some (pvR 106)]) (st := []) (M := pvu M 106 0 0) rfl ⟨trivial, trivial, rfl, trivial⟩ (fun M1_ e2_ => ?_)
  have o3_ : pvOk M1_ := pvok_u2 e2_ hok rfl (zr_wide (show 0 ≤ Int32.toInt 0 ∧ Int32.toInt 0 ≤ 0 from (by decide)) (by decide) (by decide))
  have f4_ : pvFr fp_eX6_clear_106 M M1_ := pvfr_u e2_ pvfr_0 rfl
  refine pw_blk hT 1 (S' := (6, [some (pvR 106)], [pvI 0], M1_)) rfl ⟨trivial, trivial⟩ ?_
  exact pw_ret hT rfl (r := some (pvI 0)) (M' := M1_) ⟨rfl, rfl⟩ ⟨⟨_, rfl, (show 0 ≤ Int32.toInt 0 ∧ Int32.toInt 0 ≤ 0 from (by decide)), rfl⟩, o3_, f4_, (pvu_s e2_)⟩
def fpL_eX1_goAlong_5_106_x_x_x : List (Nat × Nat × Nat) := [(0, 12, 0)]
def fp_eX1_goAlong_5_106_x_x_x (q k : Nat) : Bool := pvfp fpL_eX1_goAlong_5_106_x_x_x q k
set_option maxHeartbeats 4000000 in
set_option maxRecDepth 10000 in
theorem se_X1_goAlong_5_106_x_x_x (M : pvM) (hok : pvOk M) (n2 : Int32) (n3 : Int32) (n4 : Int32) (hn2 : 0 ≤ Int32.toInt n2 ∧ Int32.toInt n2 ≤ 7) (hn3 : 0 ≤ Int32.toInt n3 ∧ Int32.toInt n3 ≤ 7) (hn4 : 0 ≤ Int32.toInt n4 ∧ Int32.toInt n4 ≤ 60000) (d : Nat) : PW 109 d (0, [some (pvR 5), some (pvR 106), some (pvI n2), some (pvI n3), some (pvI n4), none, none, none, none, none], [], M) (fun r X => (∃ x : Int32, r = some (pvI x) ∧ 0 ≤ Int32.toInt x ∧ Int32.toInt x ≤ 64000) ∧ pvOk X ∧ pvFr fp_eX1_goAlong_5_106_x_x_x M X ∧ yGA 106 n2 n3 n4 r M X) := by
  have hT : pvdom 109 = pvD_109 := rfl
  have b1_ : 0 ≤ Int32.toInt (M.1 8 6) ∧ Int32.toInt (M.1 8 6) ≤ 3 := pvok_r hok 8 6 rfl
  have b2_ : 0 ≤ Int32.toInt (M.1 8 7) ∧ Int32.toInt (M.1 8 7) ≤ 4 := pvok_r hok 8 7 rfl
  refine pw_blk hT 12 (S' := (25, [some (pvR 5), some (pvR 106), some (pvI n2), some (pvI n3), some (pvI n4), some (pvI n4), some (pvI (M.1 8 6)), some (pvI (M.1 8 7)), some (pvI n2), none], [], M)) rfl ⟨trivial, trivial, trivial, rfl, rfl, trivial, trivial, rfl, rfl, trivial, trivial, trivial, trivial⟩ ?_
  have hlz177_ : ∀ (nz177_ : Nat) (i5z177_ : Int32) (i6z177_ : Int32) (i7z177_ : Int32) (i8z177_ : Int32) (v9z177_ : Option pvV) (Mz177_ : pvM), (pvOk Mz177_) → (pvFr fp_eX1_goAlong_5_106_x_x_x M Mz177_) → (0 ≤ Int32.toInt i5z177_ ∧ Int32.toInt i5z177_ ≤ 64000) → (0 ≤ Int32.toInt i6z177_ ∧ Int32.toInt i6z177_ ≤ 3) → (0 ≤ Int32.toInt i7z177_ ∧ Int32.toInt i7z177_ ≤ 4) → (0 ≤ Int32.toInt i8z177_ ∧ Int32.toInt i8z177_ ≤ 7) → (Int32.toInt i5z177_ ≤ 60000 + 320 * Int32.toInt i8z177_) → (0 ≤ Int32.toInt i5z177_) → (yGI 12 (yP9 M) (yst9 M) (ypa M (106 + 8)) M Mz177_ (Int32.toNatClampNeg n2) (Int32.toInt n4, M.1 8 6, M.1 8 7, fun w => Int32.toInt (M.1 12 w)) i5z177_ i6z177_ i7z177_ i8z177_) → (Int32.toInt i8z177_ ≤ max (Int32.toInt n2) (min (Int32.toInt n3) (Int32.toInt (M.1 106 0)))) → (zhide ((8 - Int32.toInt i8z177_).toNat < nz177_)) → PW 109 d (25, [some (pvR 5), some (pvR 106), some (pvI n2), some (pvI n3), some (pvI n4), some (pvI i5z177_), some (pvI i6z177_), some (pvI i7z177_), some (pvI i8z177_), v9z177_], [], Mz177_) (fun r X => (∃ x : Int32, r = some (pvI x) ∧ 0 ≤ Int32.toInt x ∧ Int32.toInt x ≤ 64000) ∧ pvOk X ∧ pvFr fp_eX1_goAlong_5_106_x_x_x M X ∧ yGA 106 n2 n3 n4 r M X) := by
    intro nz177_
    induction nz177_ with
    | zero => intro i5z177_ i6z177_ i7z177_ i8z177_ v9z177_ Mz177_ oz177_ fz177_ h5z177_ h6z177_ h7z177_ h8z177_ j0z177_ j1z177_ j2z177_ j3z177_ hmz177_; exact absurd (zshow hmz177_) (Nat.not_lt_zero _)
    | succ nz177_ ihz177_ =>
      intro i5z177_ i6z177_ i7z177_ i8z177_ v9z177_ Mz177_ oz177_ fz177_ h5z177_ h6z177_ h7z177_ h8z177_ j0z177_ j1z177_ j2z177_ j3z177_ hmz177_
      refine pw_blk hT 2 (S' := (28, [some (pvR 5), some (pvR 106), some (pvI n2), some (pvI n3), some (pvI n4), some (pvI i5z177_), some (pvI i6z177_), some (pvI i7z177_), some (pvI i8z177_), v9z177_], [pvI n3, pvI i8z177_], Mz177_)) rfl ⟨trivial, trivial, trivial⟩ ?_
      refine pw_ic hT (c := n3 ≤ i8z177_) rfl rfl (fun c178_ => ?_) (fun c178_ => ?_)
      · have d179_ : Int32.toInt n3 ≤ Int32.toInt i8z177_ := (zi_le _ _).mp c178_
        refine pw_blk hT 1 (S' := (128, [some (pvR 5), some (pvR 106), some (pvI n2), some (pvI n3), some (pvI n4), some (pvI i5z177_), some (pvI i6z177_), some (pvI i7z177_), some (pvI i8z177_), v9z177_], [pvI i5z177_], Mz177_)) rfl ⟨trivial, trivial⟩ ?_
        exact pw_ret hT rfl (r := some (pvI i5z177_)) (M' := Mz177_) ⟨rfl, rfl⟩ ⟨⟨_, rfl, h5z177_⟩, oz177_, fz177_, (yGA_i j2z177_ hn2.1 (by have u := h8z177_; omega) (by omega) (Or.inl (by have v := (zi_le _ _).mp c178_; omega)) (by decide))⟩
      · have b180_ : 1 ≤ Int32.toInt n3 ∧ Int32.toInt n3 ≤ 7 := zr_nle_l 1 c178_ hn3 h8z177_ (by decide)
        have b181_ : 0 ≤ Int32.toInt i8z177_ ∧ Int32.toInt i8z177_ ≤ 6 := zr_nle_r 6 c178_ h8z177_ b180_ (by decide)
        have d182_ : Int32.toInt n3 > Int32.toInt i8z177_ := Int.not_le.mp ((not_congr (zi_le _ _)).mp c178_)
        have b183_ : 0 ≤ Int32.toInt (Mz177_.1 106 0) ∧ Int32.toInt (Mz177_.1 106 0) ≤ 7 := pvok_r oz177_ 106 0 rfl
        refine pw_blk hT 3 (S' := (37, [some (pvR 5), some (pvR 106), some (pvI n2), some (pvI n3), some (pvI n4), some (pvI i5z177_), some (pvI i6z177_), some (pvI i7z177_), some (pvI i8z177_), v9z177_], [pvI (Mz177_.1 106 0), pvI i8z177_], Mz177_)) rfl ⟨trivial, trivial, rfl, trivial⟩ ?_
        refine pw_ic hT (c := (Mz177_.1 106 0) ≤ i8z177_) rfl rfl (fun c184_ => ?_) (fun c184_ => ?_)
        · have b185_ : 0 ≤ Int32.toInt (Mz177_.1 106 0) ∧ Int32.toInt (Mz177_.1 106 0) ≤ 6 := zr_le_l 6 c184_ b183_ b181_ (by decide)
          have d186_ : Int32.toInt (Mz177_.1 106 0) ≤ Int32.toInt i8z177_ := (zi_le _ _).mp c184_
          refine pw_blk hT 1 (S' := (128, [some (pvR 5), some (pvR 106), some (pvI n2), some (pvI n3), some (pvI n4), some (pvI i5z177_), some (pvI i6z177_), some (pvI i7z177_), some (pvI i8z177_), v9z177_], [pvI i5z177_], Mz177_)) rfl ⟨trivial, trivial⟩ ?_
          exact pw_ret hT rfl (r := some (pvI i5z177_)) (M' := Mz177_) ⟨rfl, rfl⟩ ⟨⟨_, rfl, h5z177_⟩, oz177_, fz177_, (yGA_i j2z177_ hn2.1 (by have u := b181_; omega) (by omega) (Or.inr (by have v := (zi_le _ _).mp c184_; omega)) (by decide))⟩
        · have b187_ : 1 ≤ Int32.toInt (Mz177_.1 106 0) ∧ Int32.toInt (Mz177_.1 106 0) ≤ 7 := zr_nle_l 1 c184_ b183_ b181_ (by decide)
          have d188_ : Int32.toInt (Mz177_.1 106 0) > Int32.toInt i8z177_ := Int.not_le.mp ((not_congr (zi_le _ _)).mp c184_)
          have b189_ : 0 ≤ Int32.toInt (Mz177_.1 114 (Int32.toNatClampNeg i8z177_)) ∧ Int32.toInt (Mz177_.1 114 (Int32.toNatClampNeg i8z177_)) ≤ 6 := pvok_r oz177_ 114 (Int32.toNatClampNeg i8z177_) rfl
          refine pw_blkr hT 8 (pc := 55) (lo := [some (pvR 5), some (pvR 106), some (pvI n2), some (pvI n3), some (pvI n4), some (pvI i5z177_), some (pvI i6z177_), some (pvI i7z177_), some (pvI i8z177_), v9z177_]) (st := []) (M := Mz177_) (z := (pvbs 10 + Int32.toNatClampNeg (Mz177_.1 114 (Int32.toNatClampNeg i8z177_)))) rfl ⟨trivial, rfl, rfl, trivial, rfl, trivial, ⟨rfl, (zr_in (n := 7) b181_ (by decide) (by decide))⟩, ⟨rfl, (zr_in (n := 7) b189_ (by decide) (by decide))⟩, trivial⟩ (fun q190_ e192_ => ?_)
          have k191_ : pvkl q190_ = 3 := pvel_10 (zr_in (n := 7) b189_ (by decide) (by decide)) e192_
          subst e192_
          have b193_ : 0 ≤ Int32.toInt (Mz177_.1 (pvbs 10 + Int32.toNatClampNeg (Mz177_.1 114 (Int32.toNatClampNeg i8z177_))) 5) ∧ Int32.toInt (Mz177_.1 (pvbs 10 + Int32.toNatClampNeg (Mz177_.1 114 (Int32.toNatClampNeg i8z177_))) 5) ≤ 1 := pvok_r oz177_ (pvbs 10 + Int32.toNatClampNeg (Mz177_.1 114 (Int32.toNatClampNeg i8z177_))) 5 ((pvrg_o 5 k191_ (by decide) (by decide)).trans rfl)
          refine pw_blk hT 3 (S' := (62, [some (pvR 5), some (pvR 106), some (pvI n2), some (pvI n3), some (pvI n4), some (pvI i5z177_), some (pvI i6z177_), some (pvI i7z177_), some (pvI i8z177_), some (pvR (pvbs 10 + Int32.toNatClampNeg (Mz177_.1 114 (Int32.toNatClampNeg i8z177_))))], [pvI (Mz177_.1 (pvbs 10 + Int32.toNatClampNeg (Mz177_.1 114 (Int32.toNatClampNeg i8z177_))) 5)], Mz177_)) rfl ⟨trivial, trivial, k191_, trivial⟩ ?_
          refine pw_if hT (c := (Mz177_.1 (pvbs 10 + Int32.toNatClampNeg (Mz177_.1 114 (Int32.toNatClampNeg i8z177_))) 5) = 0) rfl rfl (fun c194_ => ?_) (fun c194_ => ?_)
          · have b195_ : 0 ≤ Int32.toInt (Mz177_.1 (pvbs 10 + Int32.toNatClampNeg (Mz177_.1 114 (Int32.toNatClampNeg i8z177_))) 5) ∧ Int32.toInt (Mz177_.1 (pvbs 10 + Int32.toNatClampNeg (Mz177_.1 114 (Int32.toNatClampNeg i8z177_))) 5) ≤ 0 := (by have u0 := b193_; have u1 := (zi_eq _ _).mp c194_; have u2 := (show 0 ≤ Int32.toInt 0 ∧ Int32.toInt 0 ≤ 0 from (by decide)); omega)
            have b196_ : 15 ≤ Int32.toInt (Mz177_.1 8 8) ∧ Int32.toInt (Mz177_.1 8 8) ≤ 23 := pvok_r oz177_ 8 8 rfl
            refine pw_blkr hT 7 (pc := 83) (lo := [some (pvR 5), some (pvR 106), some (pvI n2), some (pvI n3), some (pvI n4), some (pvI i5z177_), some (pvI i6z177_), some (pvI i7z177_), some (pvI i8z177_), some (pvR (pvbs 10 + Int32.toNatClampNeg (Mz177_.1 114 (Int32.toNatClampNeg i8z177_))))]) (st := [pvI i7z177_, pvI i6z177_, pvR (pvbs 10 + Int32.toNatClampNeg (Mz177_.1 114 (Int32.toNatClampNeg i8z177_))), pvI i5z177_]) (M := Mz177_) (z := (pvhp (Mz177_.1 8 8))) rfl ⟨trivial, trivial, trivial, trivial, trivial, rfl, rfl, trivial⟩ (fun q197_ e199_ => ?_)
            have k198_ : pvkl q197_ = 2 := pvhp_k b196_ e199_
            subst e199_
            have b200_ : 0 ≤ Int32.toInt (Mz177_.1 (pvhp (Mz177_.1 8 8)) 0) ∧ Int32.toInt (Mz177_.1 (pvhp (Mz177_.1 8 8)) 0) ≤ 99 := pvok_r oz177_ (pvhp (Mz177_.1 8 8)) 0 ((pvrg_o 0 k198_ (by decide) (by decide)).trans rfl)
            refine pw_blk hT 1 (S' := (86, [some (pvR 5), some (pvR 106), some (pvI n2), some (pvI n3), some (pvI n4), some (pvI i5z177_), some (pvI i6z177_), some (pvI i7z177_), some (pvI i8z177_), some (pvR (pvbs 10 + Int32.toNatClampNeg (Mz177_.1 114 (Int32.toNatClampNeg i8z177_))))], [pvI (Mz177_.1 (pvhp (Mz177_.1 8 8)) 0), pvI i7z177_, pvI i6z177_, pvR (pvbs 10 + Int32.toNatClampNeg (Mz177_.1 114 (Int32.toNatClampNeg i8z177_))), pvI i5z177_], Mz177_)) rfl ⟨k198_, trivial⟩ ?_
            refine pw_callGp hT (as := [pvR (pvbs 10 + Int32.toNatClampNeg (Mz177_.1 114 (Int32.toNatClampNeg i8z177_))), pvI i6z177_, pvI i7z177_, pvI (Mz177_.1 (pvhp (Mz177_.1 8 8)) 0)]) (lo1 := [some (pvR (pvbs 10 + Int32.toNatClampNeg (Mz177_.1 114 (Int32.toNatClampNeg i8z177_)))), some (pvI i6z177_), some (pvI i7z177_), some (pvI (Mz177_.1 (pvhp (Mz177_.1 8 8)) 0)), none]) (d1 := d) (rest := [pvI i5z177_]) rfl rfl rfl rfl rfl (fun _ => k191_) (Nat.zero_le _) rfl rfl rfl (se_X4_minutesFrom_x_x_x_x Mz177_ oz177_ (pvbs 10 + Int32.toNatClampNeg (Mz177_.1 114 (Int32.toNatClampNeg i8z177_))) i6z177_ i7z177_ (Mz177_.1 (pvhp (Mz177_.1 8 8)) 0) k191_ h6z177_ h7z177_ b200_ d) (fun x201_ b203_ => ?_)
            obtain ⟨b206_, d207_⟩ := b203_
            obtain ⟨q209_, b208_⟩ : (Int32.toInt (i5z177_ + x201_) = Int32.toInt i5z177_ + Int32.toInt x201_) ∧ (0 ≤ Int32.toInt (i5z177_ + x201_) ∧ Int32.toInt (i5z177_ + x201_) ≤ 64319) := zadd_r i5z177_ x201_ 0 64319 h5z177_ b206_ (by decide) (by decide) (by decide) (by decide)
            refine pw_blkw hT 10 (pc := 106) (lo := [some (pvR 5), some (pvR 106), some (pvI n2), some (pvI n3), some (pvI n4), some (pvI (i5z177_ + x201_)), some (pvI i6z177_), some (pvI i7z177_), some (pvI i8z177_), some (pvR (pvbs 10 + Int32.toNatClampNeg (Mz177_.1 114 (Int32.toNatClampNeg i8z177_))))]) (st := []) (M := pvu Mz177_ 12 (Int32.toNatClampNeg (Mz177_.1 114 (Int32.toNatClampNeg i8z177_))) (i5z177_ + x201_)) rfl ⟨trivial, trivial, trivial, rfl, trivial, rfl, trivial, ⟨rfl, (zr_in (n := 7) b181_ (by decide) (by decide))⟩, trivial, ⟨rfl, (zr_in (n := 7) b189_ (by decide) (by decide))⟩, trivial⟩ (fun M210_ e211_ => ?_)
            have o212_ : pvOk M210_ := pvok_u2 e211_ oz177_ rfl (zr_wide b208_ (by decide) (by decide))
            have f213_ : pvFr fp_eX1_goAlong_5_106_x_x_x M M210_ := pvfr_u e211_ fz177_ rfl
            have b214_ : 0 ≤ Int32.toInt (M210_.1 (pvbs 10 + Int32.toNatClampNeg (Mz177_.1 114 (Int32.toNatClampNeg i8z177_))) 2) ∧ Int32.toInt (M210_.1 (pvbs 10 + Int32.toNatClampNeg (Mz177_.1 114 (Int32.toNatClampNeg i8z177_))) 2) ≤ 3 := pvok_r o212_ (pvbs 10 + Int32.toNatClampNeg (Mz177_.1 114 (Int32.toNatClampNeg i8z177_))) 2 ((pvrg_o 2 k191_ (by decide) (by decide)).trans rfl)
            have b215_ : 0 ≤ Int32.toInt (M210_.1 (pvbs 10 + Int32.toNatClampNeg (Mz177_.1 114 (Int32.toNatClampNeg i8z177_))) 3) ∧ Int32.toInt (M210_.1 (pvbs 10 + Int32.toNatClampNeg (Mz177_.1 114 (Int32.toNatClampNeg i8z177_))) 3) ≤ 4 := pvok_r o212_ (pvbs 10 + Int32.toNatClampNeg (Mz177_.1 114 (Int32.toNatClampNeg i8z177_))) 3 ((pvrg_o 3 k191_ (by decide) (by decide)).trans rfl)
            obtain ⟨q217_, b216_⟩ : (Int32.toInt (i8z177_ + 1) = Int32.toInt i8z177_ + 1) ∧ (1 ≤ Int32.toInt (i8z177_ + 1) ∧ Int32.toInt (i8z177_ + 1) ≤ 7) := zadd_k i8z177_ 1 1 1 7 b181_ (by decide) (by decide) (by decide) (by decide) (by decide)
            refine pw_blk hT 8 (S' := (25, [some (pvR 5), some (pvR 106), some (pvI n2), some (pvI n3), some (pvI n4), some (pvI (i5z177_ + x201_)), some (pvI (M210_.1 (pvbs 10 + Int32.toNatClampNeg (Mz177_.1 114 (Int32.toNatClampNeg i8z177_))) 2)), some (pvI (M210_.1 (pvbs 10 + Int32.toNatClampNeg (Mz177_.1 114 (Int32.toNatClampNeg i8z177_))) 3)), some (pvI (i8z177_ + 1)), some (pvR (pvbs 10 + Int32.toNatClampNeg (Mz177_.1 114 (Int32.toNatClampNeg i8z177_))))], [], M210_)) rfl ⟨trivial, k191_, trivial, trivial, k191_, trivial, trivial, trivial, trivial⟩ ?_
            have j218_ : Int32.toInt (i5z177_ + x201_) ≤ 60000 + 320 * Int32.toInt (i8z177_ + 1) := by omega
            have j219_ : 0 ≤ Int32.toInt (i5z177_ + x201_) := by omega
            have j220_ : yGI 12 (yP9 M) (yst9 M) (ypa M (106 + 8)) M M210_ (Int32.toNatClampNeg n2) (Int32.toInt n4, M.1 8 6, M.1 8 7, fun w => Int32.toInt (M.1 12 w)) (i5z177_ + x201_) (M210_.1 (pvbs 10 + Int32.toNatClampNeg (Mz177_.1 114 (Int32.toNatClampNeg i8z177_))) 2) (M210_.1 (pvbs 10 + Int32.toNatClampNeg (Mz177_.1 114 (Int32.toNatClampNeg i8z177_))) 3) (i8z177_ + 1) := (y9_y (Q := 106 + 8) hok (by decide) j2z177_ (by have u := b181_; omega) (by omega) c194_ e211_ d207_ (by omega))
            have j221_ : Int32.toInt (i8z177_ + 1) ≤ max (Int32.toInt n2) (min (Int32.toInt n3) (Int32.toInt (M.1 106 0))) := (by have e : Int32.toInt (Mz177_.1 106 0) = Int32.toInt (M.1 106 0) := congrArg Int32.toInt (congrFun (j2z177_.1 106 (by decide)) 0); omega)
            exact ihz177_ (i5z177_ + x201_) (M210_.1 (pvbs 10 + Int32.toNatClampNeg (Mz177_.1 114 (Int32.toNatClampNeg i8z177_))) 2) (M210_.1 (pvbs 10 + Int32.toNatClampNeg (Mz177_.1 114 (Int32.toNatClampNeg i8z177_))) 3) (i8z177_ + 1) (some (pvR (pvbs 10 + Int32.toNatClampNeg (Mz177_.1 114 (Int32.toNatClampNeg i8z177_))))) M210_ o212_ f213_ (by have u0 := b208_; omega) b214_ b215_ (zr_wide b216_ (by decide) (by decide)) j218_ j219_ j220_ j221_ (zhid (pvms_up (zshow hmz177_) h8z177_ q217_ (by decide) (by decide)))
          · have b222_ : 1 ≤ Int32.toInt (Mz177_.1 (pvbs 10 + Int32.toNatClampNeg (Mz177_.1 114 (Int32.toNatClampNeg i8z177_))) 5) ∧ Int32.toInt (Mz177_.1 (pvbs 10 + Int32.toNatClampNeg (Mz177_.1 114 (Int32.toNatClampNeg i8z177_))) 5) ≤ 1 := (by have u0 := b193_; have u1 := (not_congr (zi_eq _ _)).mp c194_; have u2 := (show 0 ≤ Int32.toInt 0 ∧ Int32.toInt 0 ≤ 0 from (by decide)); omega)
            obtain ⟨q224_, b223_⟩ : (Int32.toInt (i8z177_ + 1) = Int32.toInt i8z177_ + 1) ∧ (1 ≤ Int32.toInt (i8z177_ + 1) ∧ Int32.toInt (i8z177_ + 1) ≤ 7) := zadd_k i8z177_ 1 1 1 7 b181_ (by decide) (by decide) (by decide) (by decide) (by decide)
            refine pw_blk hT 3 (S' := (25, [some (pvR 5), some (pvR 106), some (pvI n2), some (pvI n3), some (pvI n4), some (pvI i5z177_), some (pvI i6z177_), some (pvI i7z177_), some (pvI (i8z177_ + 1)), some (pvR (pvbs 10 + Int32.toNatClampNeg (Mz177_.1 114 (Int32.toNatClampNeg i8z177_))))], [], Mz177_)) rfl ⟨trivial, trivial, trivial, trivial⟩ ?_
            have j225_ : Int32.toInt i5z177_ ≤ 60000 + 320 * Int32.toInt (i8z177_ + 1) := by omega
            have j226_ : 0 ≤ Int32.toInt i5z177_ := by omega
            have j227_ : yGI 12 (yP9 M) (yst9 M) (ypa M (106 + 8)) M Mz177_ (Int32.toNatClampNeg n2) (Int32.toInt n4, M.1 8 6, M.1 8 7, fun w => Int32.toInt (M.1 12 w)) i5z177_ i6z177_ i7z177_ (i8z177_ + 1) := (y9_n (Q := 106 + 8) (by decide) j2z177_ (by have u := b181_; omega) (by omega) c194_)
            have j228_ : Int32.toInt (i8z177_ + 1) ≤ max (Int32.toInt n2) (min (Int32.toInt n3) (Int32.toInt (M.1 106 0))) := (by have e : Int32.toInt (Mz177_.1 106 0) = Int32.toInt (M.1 106 0) := congrArg Int32.toInt (congrFun (j2z177_.1 106 (by decide)) 0); omega)
            exact ihz177_ i5z177_ i6z177_ i7z177_ (i8z177_ + 1) (some (pvR (pvbs 10 + Int32.toNatClampNeg (Mz177_.1 114 (Int32.toNatClampNeg i8z177_))))) Mz177_ oz177_ fz177_ h5z177_ h6z177_ h7z177_ (zr_wide b223_ (by decide) (by decide)) j225_ j226_ j227_ j228_ (zhid (pvms_up (zshow hmz177_) h8z177_ q224_ (by decide) (by decide)))
  have j229_ : Int32.toInt n4 ≤ 60000 + 320 * Int32.toInt n2 := by omega
  have j230_ : 0 ≤ Int32.toInt n4 := by omega
  have j231_ : yGI 12 (yP9 M) (yst9 M) (ypa M (106 + 8)) M M (Int32.toNatClampNeg n2) (Int32.toInt n4, M.1 8 6, M.1 8 7, fun w => Int32.toInt (M.1 12 w)) n4 (M.1 8 6) (M.1 8 7) n2 := yGI_0
  have j232_ : Int32.toInt n2 ≤ max (Int32.toInt n2) (min (Int32.toInt n3) (Int32.toInt (M.1 106 0))) := (by omega)
  exact hlz177_ _ n4 (M.1 8 6) (M.1 8 7) n2 none M hok pvfr_0 (zr_wide hn4 (by decide) (by decide)) b1_ b2_ hn2 j229_ j230_ j231_ j232_ (zhid (Nat.lt_succ_self _))
def fpL_eX6_clear_107 : List (Nat × Nat × Nat) := [(0, 107, 1)]
def fp_eX6_clear_107 (q k : Nat) : Bool := pvfp fpL_eX6_clear_107 q k
set_option maxHeartbeats 4000000 in
set_option maxRecDepth 10000 in
theorem se_X6_clear_107 (M : pvM) (hok : pvOk M) (d : Nat) : PW 153 d (0, [some (pvR 107)], [], M) (fun r X => (∃ x : Int32, r = some (pvI x) ∧ (0 ≤ Int32.toInt x ∧ Int32.toInt x ≤ 0) ∧ x = 0) ∧ pvOk X ∧ pvFr fp_eX6_clear_107 M X ∧ X.1 107 0 = 0) := by
  have hT : pvdom 153 = pvD_153 := rfl
  refine pw_blkw hT 3 (pc := 5) (lo := [some (pvR 107)]) (st := []) (M := pvu M 107 0 0) rfl ⟨trivial, trivial, rfl, trivial⟩ (fun M1_ e2_ => ?_)
  have o3_ : pvOk M1_ := pvok_u2 e2_ hok rfl (zr_wide (show 0 ≤ Int32.toInt 0 ∧ Int32.toInt 0 ≤ 0 from (by decide)) (by decide) (by decide))
  have f4_ : pvFr fp_eX6_clear_107 M M1_ := pvfr_u e2_ pvfr_0 rfl
  refine pw_blk hT 1 (S' := (6, [some (pvR 107)], [pvI 0], M1_)) rfl ⟨trivial, trivial⟩ ?_
  exact pw_ret hT rfl (r := some (pvI 0)) (M' := M1_) ⟨rfl, rfl⟩ ⟨⟨_, rfl, (show 0 ≤ Int32.toInt 0 ∧ Int32.toInt 0 ≤ 0 from (by decide)), rfl⟩, o3_, f4_, (pvu_s e2_)⟩
def fpL_eX6_append_107_x_x : List (Nat × Nat × Nat) := [(0, 107, 1), (0, 115, 0), (0, 123, 0)]
def fp_eX6_append_107_x_x (q k : Nat) : Bool := pvfp fpL_eX6_append_107_x_x q k
set_option maxHeartbeats 4000000 in
set_option maxRecDepth 10000 in
theorem se_X6_append_107_x_x (M : pvM) (hok : pvOk M) (n1 : Int32) (n2 : Int32) (hn1 : 0 ≤ Int32.toInt n1 ∧ Int32.toInt n1 ≤ 6) (hn2 : 0 ≤ Int32.toInt n2 ∧ Int32.toInt n2 ≤ 9999) (d : Nat) : PW 151 d (0, [some (pvR 107), some (pvI n1), some (pvI n2)], [], M) (fun r X => (∃ x : Int32, r = some (pvI x) ∧ (1 ≤ Int32.toInt x ∧ Int32.toInt x ≤ 7) ∧ x = (if (M.1 107 0) < (Int32.ofNat 7) then ((M.1 107 0) + 1) else (M.1 107 0))) ∧ pvOk X ∧ pvFr fp_eX6_append_107_x_x M X ∧ zAp 107 115 123 7 n1 n2 M X ∧ X.1 107 0 = (if (M.1 107 0) < (Int32.ofNat 7) then ((M.1 107 0) + 1) else (M.1 107 0))) := by
  have hT : pvdom 151 = pvD_151 := rfl
  refine pw_blk hT 1 (S' := (1, [some (pvR 107), some (pvI n1), some (pvI n2)], [pvR 107], M)) rfl ⟨trivial, trivial⟩ ?_
  refine pw_callT hT (as := [pvR 107]) (lo1 := [some (pvR 107)]) (d1 := d) (rest := []) rfl rfl rfl rfl rfl (fun _ => rfl) (Nat.zero_le _) rfl rfl rfl (sf_X6_isFull_107 M hok d) ?_
  have b6_ : 0 ≤ Int32.toInt (M.1 107 0) ∧ Int32.toInt (M.1 107 0) ≤ 7 := pvok_r hok 107 0 rfl
  by_cases c7_ : (M.1 107 0) < (Int32.ofNat 7)
  · refine pw_eqI (if_pos c7_) ?_
    have b8_ : 0 ≤ Int32.toInt (M.1 107 0) ∧ Int32.toInt (M.1 107 0) ≤ 6 := zr_lt_l 6 c7_ b6_ (show 7 ≤ Int32.toInt (Int32.ofNat 7) ∧ Int32.toInt (Int32.ofNat 7) ≤ 7 from (by decide)) (by decide)
    show PW 151 d (4, [some (pvR 107), some (pvI n1), some (pvI n2)], [pvI 0], M) _
    refine pw_if hT (c := 0 = 0) rfl rfl (fun c9_ => ?_) (fun c9_ => absurd (by decide) c9_)
    refine pw_blkw hT 6 (pc := 22) (lo := [some (pvR 107), some (pvI n1), some (pvI n2)]) (st := []) (M := pvu M 115 (Int32.toNatClampNeg (M.1 107 0)) n1) rfl ⟨trivial, rfl, trivial, rfl, trivial, ⟨rfl, (zr_in (n := 7) b8_ (by decide) (by decide))⟩, trivial⟩ (fun M10_ e11_ => ?_)
    have o12_ : pvOk M10_ := pvok_u2 e11_ hok rfl hn1
    have f13_ : pvFr fp_eX6_append_107_x_x M M10_ := pvfr_u e11_ pvfr_0 rfl
    have e14_ : (M10_.1 107 0) = (M.1 107 0) := (pvu_n e11_ 107 0 (Or.inl (by decide)))
    have b15_ : 0 ≤ Int32.toInt (M10_.1 107 0) ∧ Int32.toInt (M10_.1 107 0) ≤ 6 := (by rw [e14_]; exact b8_)
    refine pw_blkw hT 6 (pc := 32) (lo := [some (pvR 107), some (pvI n1), some (pvI n2)]) (st := []) (M := pvu M10_ 123 (Int32.toNatClampNeg (M10_.1 107 0)) n2) rfl ⟨trivial, rfl, trivial, rfl, trivial, ⟨rfl, (zr_in (n := 7) b15_ (by decide) (by decide))⟩, trivial⟩ (fun M16_ e17_ => ?_)
    have o18_ : pvOk M16_ := pvok_u2 e17_ o12_ rfl hn2
    have f19_ : pvFr fp_eX6_append_107_x_x M M16_ := pvfr_u e17_ f13_ rfl
    have e20_ : (M16_.1 107 0) = (M10_.1 107 0) := (pvu_n e17_ 107 0 (Or.inl (by decide)))
    have b21_ : 0 ≤ Int32.toInt (M16_.1 107 0) ∧ Int32.toInt (M16_.1 107 0) ≤ 6 := (by rw [e20_]; exact b15_)
    obtain ⟨q23_, b22_⟩ : (Int32.toInt ((M16_.1 107 0) + 1) = Int32.toInt (M16_.1 107 0) + 1) ∧ (1 ≤ Int32.toInt ((M16_.1 107 0) + 1) ∧ Int32.toInt ((M16_.1 107 0) + 1) ≤ 7) := zadd_k (M16_.1 107 0) 1 1 1 7 b21_ (by decide) (by decide) (by decide) (by decide) (by decide)
    refine pw_blkw hT 6 (pc := 42) (lo := [some (pvR 107), some (pvI n1), some (pvI n2)]) (st := []) (M := pvu M16_ 107 0 ((M16_.1 107 0) + 1)) rfl ⟨trivial, trivial, rfl, trivial, trivial, rfl, trivial⟩ (fun M24_ e25_ => ?_)
    have o26_ : pvOk M24_ := pvok_u2 e25_ o18_ rfl (zr_wide b22_ (by decide) (by decide))
    have f27_ : pvFr fp_eX6_append_107_x_x M M24_ := pvfr_u e25_ f19_ rfl
    have e28_ : (M24_.1 107 0) = ((M16_.1 107 0) + 1) := (pvu_s e25_)
    have b29_ : 1 ≤ Int32.toInt (M24_.1 107 0) ∧ Int32.toInt (M24_.1 107 0) ≤ 7 := (by rw [e28_]; exact b22_)
    refine pw_blk hT 2 (S' := (46, [some (pvR 107), some (pvI n1), some (pvI n2)], [pvI (M24_.1 107 0)], M24_)) rfl ⟨trivial, rfl, trivial⟩ ?_
    exact pw_ret hT rfl (r := some (pvI (M24_.1 107 0))) (M' := M24_) ⟨rfl, rfl⟩ ⟨⟨_, rfl, b29_, (by rw [if_pos c7_]; first | done | exact (show (M24_.1 107 0) = ((M.1 107 0) + 1) from by rw [((pvu_s e25_).trans (show ((M16_.1 107 0) + 1) = ((M.1 107 0) + 1) from by rw [((pvu_n e17_ 107 0 (Or.inl (by decide))).trans (pvu_n e11_ 107 0 (Or.inl (by decide))))]))]) | (rw [if_pos c7_]; exact (show (M24_.1 107 0) = ((M.1 107 0) + 1) from by rw [((pvu_s e25_).trans (show ((M16_.1 107 0) + 1) = ((M.1 107 0) + 1) from by rw [((pvu_n e17_ 107 0 (Or.inl (by decide))).trans (pvu_n e11_ 107 0 (Or.inl (by decide))))]))])))⟩, o26_, f27_, (zAp_y (by decide) (by decide) (by decide) (by have u := b8_; omega) e11_ e17_ e25_), (by rw [if_pos c7_]; first | done | exact ((pvu_s e25_).trans (show ((M16_.1 107 0) + 1) = ((M.1 107 0) + 1) from by rw [((pvu_n e17_ 107 0 (Or.inl (by decide))).trans (pvu_n e11_ 107 0 (Or.inl (by decide))))])) | (rw [if_pos c7_]; done) | (rw [if_pos c7_]; exact ((pvu_s e25_).trans (show ((M16_.1 107 0) + 1) = ((M.1 107 0) + 1) from by rw [((pvu_n e17_ 107 0 (Or.inl (by decide))).trans (pvu_n e11_ 107 0 (Or.inl (by decide))))]))))⟩
  · refine pw_eqI (if_neg c7_) ?_
    have b30_ : 7 ≤ Int32.toInt (M.1 107 0) ∧ Int32.toInt (M.1 107 0) ≤ 7 := zr_nlt_l 7 c7_ b6_ (show 7 ≤ Int32.toInt (Int32.ofNat 7) ∧ Int32.toInt (Int32.ofNat 7) ≤ 7 from (by decide)) (by decide)
    show PW 151 d (4, [some (pvR 107), some (pvI n1), some (pvI n2)], [pvI 1], M) _
    refine pw_if hT (c := 1 = 0) rfl rfl (fun c31_ => absurd c31_ (by decide)) (fun c31_ => ?_)
    refine pw_blk hT 2 (S' := (11, [some (pvR 107), some (pvI n1), some (pvI n2)], [pvI (M.1 107 0)], M)) rfl ⟨trivial, rfl, trivial⟩ ?_
    exact pw_ret hT rfl (r := some (pvI (M.1 107 0))) (M' := M) ⟨rfl, rfl⟩ ⟨⟨_, rfl, (zr_wide b30_ (by decide) (by decide)), (by rw [if_neg c7_]; first | done | (rw [if_neg c7_]; done))⟩, hok, pvfr_0, (zAp_n (by have u := b30_; omega)), (by rw [if_neg c7_]; first | done | exact rfl | (rw [if_neg c7_]; done) | (rw [if_neg c7_]; exact rfl))⟩
def fpL_eX6_becomeAs_107_106 : List (Nat × Nat × Nat) := [(0, 107, 1), (0, 115, 0), (0, 123, 0)]
def fp_eX6_becomeAs_107_106 (q k : Nat) : Bool := pvfp fpL_eX6_becomeAs_107_106 q k
theorem fp_eX6_becomeAs_107_106_fp_eX6_append_107_x_x (a b : Nat) (h : fp_eX6_append_107_x_x a b = true) : fp_eX6_becomeAs_107_106 a b = true := pvfp_sub (l1 := fpL_eX6_append_107_x_x) (l2 := fpL_eX6_becomeAs_107_106) (by decide) a b h
theorem fp_eX6_becomeAs_107_106_fp_eX6_clear_107 (a b : Nat) (h : fp_eX6_clear_107 a b = true) : fp_eX6_becomeAs_107_106 a b = true := pvfp_sub (l1 := fpL_eX6_clear_107) (l2 := fpL_eX6_becomeAs_107_106) (by decide) a b h
set_option maxHeartbeats 4000000 in
set_option maxRecDepth 10000 in
theorem se_X6_becomeAs_107_106 (M : pvM) (hok : pvOk M) (d : Nat) : PW 152 d (0, [some (pvR 107), some (pvR 106), none], [], M) (fun r X => r = none ∧ pvOk X ∧ pvFr fp_eX6_becomeAs_107_106 M X ∧ X.1 107 0 = (M.1 106 0) ∧ zC1 115 114 (Int32.toNatClampNeg (M.1 106 0)) M X ∧ zC1 123 122 (Int32.toNatClampNeg (M.1 106 0)) M X) := by
  have hT : pvdom 152 = pvD_152 := rfl
  refine pw_blk hT 1 (S' := (1, [some (pvR 107), some (pvR 106), none], [pvR 107], M)) rfl ⟨trivial, trivial⟩ ?_
  refine pw_callGd hT (as := [pvR 107]) (lo1 := [some (pvR 107)]) (d1 := d) (rest := []) rfl rfl rfl rfl rfl (fun _ => rfl) (Nat.zero_le _) rfl rfl rfl (se_X6_clear_107 M hok d) (fun x2_ M3_ b4_ o5_ g6_ d1_ => ?_)
  have f7_ : pvFr fp_eX6_becomeAs_107_106 M M3_ := pvfr_t g6_ pvfr_0 fp_eX6_becomeAs_107_106_fp_eX6_clear_107
  obtain ⟨b8_, d9_⟩ := b4_
  subst d9_
  refine pw_blk hT 3 (S' := (7, [some (pvR 107), some (pvR 106), some (pvI 0)], [], M3_)) rfl ⟨trivial, trivial, trivial, trivial⟩ ?_
  have hlz90_ : ∀ (nz90_ : Nat) (i2z90_ : Int32) (Mz90_ : pvM), (pvOk Mz90_) → (pvFr fp_eX6_becomeAs_107_106 M Mz90_) → (0 ≤ Int32.toInt i2z90_ ∧ Int32.toInt i2z90_ ≤ 7) → (Mz90_.1 107 0 = i2z90_) → (Int32.toInt i2z90_ ≤ Int32.toInt (M.1 106 0)) → (zC1 115 114 (Int32.toNatClampNeg i2z90_) M Mz90_) → (zC1 123 122 (Int32.toNatClampNeg i2z90_) M Mz90_) → (zhide ((8 - Int32.toInt i2z90_).toNat < nz90_)) → PW 152 d (7, [some (pvR 107), some (pvR 106), some (pvI i2z90_)], [], Mz90_) (fun r X => r = none ∧ pvOk X ∧ pvFr fp_eX6_becomeAs_107_106 M X ∧ X.1 107 0 = (M.1 106 0) ∧ zC1 115 114 (Int32.toNatClampNeg (M.1 106 0)) M X ∧ zC1 123 122 (Int32.toNatClampNeg (M.1 106 0)) M X) := by
    intro nz90_
    induction nz90_ with
    | zero => intro i2z90_ Mz90_ oz90_ fz90_ h2z90_ j0z90_ j1z90_ j2z90_ j3z90_ hmz90_; exact absurd (zshow hmz90_) (Nat.not_lt_zero _)
    | succ nz90_ ihz90_ =>
      intro i2z90_ Mz90_ oz90_ fz90_ h2z90_ j0z90_ j1z90_ j2z90_ j3z90_ hmz90_
      have b91_ : 0 ≤ Int32.toInt (Mz90_.1 106 0) ∧ Int32.toInt (Mz90_.1 106 0) ≤ 7 := pvok_r oz90_ 106 0 rfl
      refine pw_blk hT 3 (S' := (12, [some (pvR 107), some (pvR 106), some (pvI i2z90_)], [pvI (Mz90_.1 106 0), pvI i2z90_], Mz90_)) rfl ⟨trivial, trivial, rfl, trivial⟩ ?_
      refine pw_ic hT (c := (Mz90_.1 106 0) ≤ i2z90_) rfl rfl (fun c92_ => ?_) (fun c92_ => ?_)
      · have d93_ : Int32.toInt (Mz90_.1 106 0) ≤ Int32.toInt i2z90_ := (zi_le _ _).mp c92_
        exact pw_ret hT rfl (r := none) (M' := Mz90_) ⟨rfl, rfl⟩ ⟨rfl, oz90_, fz90_, (Int32.toInt_inj.mp (by have z3 : Mz90_.1 106 0 = M.1 106 0 := fz90_ 106 0 rfl; have z4 := congrArg Int32.toInt z3; have z5 := congrArg Int32.toInt j0z90_; omega)), (zC1_n (show Int32.toNatClampNeg (M.1 106 0) = Int32.toNatClampNeg i2z90_ from by have z3 : Mz90_.1 106 0 = M.1 106 0 := fz90_ 106 0 rfl; have z4 := congrArg Int32.toInt z3; show (M.1 106 0).toInt.toNat = i2z90_.toInt.toNat; omega) j2z90_), (zC1_n (show Int32.toNatClampNeg (M.1 106 0) = Int32.toNatClampNeg i2z90_ from by have z3 : Mz90_.1 106 0 = M.1 106 0 := fz90_ 106 0 rfl; have z4 := congrArg Int32.toInt z3; show (M.1 106 0).toInt.toNat = i2z90_.toInt.toNat; omega) j3z90_)⟩
      · have b94_ : 1 ≤ Int32.toInt (Mz90_.1 106 0) ∧ Int32.toInt (Mz90_.1 106 0) ≤ 7 := zr_nle_l 1 c92_ b91_ h2z90_ (by decide)
        have b95_ : 0 ≤ Int32.toInt i2z90_ ∧ Int32.toInt i2z90_ ≤ 6 := zr_nle_r 6 c92_ h2z90_ b94_ (by decide)
        have d96_ : Int32.toInt (Mz90_.1 106 0) > Int32.toInt i2z90_ := Int.not_le.mp ((not_congr (zi_le _ _)).mp c92_)
        have b97_ : 0 ≤ Int32.toInt (Mz90_.1 114 (Int32.toNatClampNeg i2z90_)) ∧ Int32.toInt (Mz90_.1 114 (Int32.toNatClampNeg i2z90_)) ≤ 6 := pvok_r oz90_ 114 (Int32.toNatClampNeg i2z90_) rfl
        have b98_ : 0 ≤ Int32.toInt (Mz90_.1 122 (Int32.toNatClampNeg i2z90_)) ∧ Int32.toInt (Mz90_.1 122 (Int32.toNatClampNeg i2z90_)) ≤ 9999 := pvok_r oz90_ 122 (Int32.toNatClampNeg i2z90_) rfl
        refine pw_blk hT 9 (S' := (28, [some (pvR 107), some (pvR 106), some (pvI i2z90_)], [pvI (Mz90_.1 122 (Int32.toNatClampNeg i2z90_)), pvI (Mz90_.1 114 (Int32.toNatClampNeg i2z90_)), pvR 107], Mz90_)) rfl ⟨trivial, trivial, rfl, trivial, ⟨rfl, (zr_in (n := 7) b95_ (by decide) (by decide))⟩, trivial, rfl, trivial, ⟨rfl, (zr_in (n := 7) b95_ (by decide) (by decide))⟩, trivial⟩ ?_
        refine pw_callGd hT (as := [pvR 107, pvI (Mz90_.1 114 (Int32.toNatClampNeg i2z90_)), pvI (Mz90_.1 122 (Int32.toNatClampNeg i2z90_))]) (lo1 := [some (pvR 107), some (pvI (Mz90_.1 114 (Int32.toNatClampNeg i2z90_))), some (pvI (Mz90_.1 122 (Int32.toNatClampNeg i2z90_)))]) (d1 := d) (rest := []) rfl rfl rfl rfl rfl (fun _ => rfl) (Nat.zero_le _) rfl rfl rfl (se_X6_append_107_x_x Mz90_ oz90_ (Mz90_.1 114 (Int32.toNatClampNeg i2z90_)) (Mz90_.1 122 (Int32.toNatClampNeg i2z90_)) b97_ b98_ d) (fun x100_ M101_ b102_ o103_ g104_ d99_ => ?_)
        have f105_ : pvFr fp_eX6_becomeAs_107_106 M M101_ := pvfr_t g104_ fz90_ fp_eX6_becomeAs_107_106_fp_eX6_append_107_x_x
        obtain ⟨b106_, d107_⟩ := b102_
        subst d107_
        obtain ⟨q109_, b108_⟩ : (Int32.toInt (i2z90_ + 1) = Int32.toInt i2z90_ + 1) ∧ (1 ≤ Int32.toInt (i2z90_ + 1) ∧ Int32.toInt (i2z90_ + 1) ≤ 7) := zadd_k i2z90_ 1 1 1 7 b95_ (by decide) (by decide) (by decide) (by decide) (by decide)
        refine pw_blk hT 3 (S' := (7, [some (pvR 107), some (pvR 106), some (pvI (i2z90_ + 1))], [], M101_)) rfl ⟨trivial, trivial, trivial, trivial⟩ ?_
        have j110_ : M101_.1 107 0 = (i2z90_ + 1) := (by have z1 : Int32.toInt (Int32.ofNat 7) = 7 := (by decide); have z2 := pvok_r oz90_ 106 0 rfl; have z3 : Mz90_.1 106 0 = M.1 106 0 := fz90_ 106 0 rfl; have z4 := congrArg Int32.toInt z3; rw [d99_.2, j0z90_, if_pos ((zi_lt _ _).mpr (by omega))])
        have j111_ : Int32.toInt (i2z90_ + 1) ≤ Int32.toInt (M.1 106 0) := (by have z3 : Mz90_.1 106 0 = M.1 106 0 := fz90_ 106 0 rfl; have z4 := congrArg Int32.toInt z3; omega)
        have j112_ : zC1 115 114 (Int32.toNatClampNeg (i2z90_ + 1)) M M101_ := (zC1_n (znp1 b95_ (by decide) (by decide)) (zC1_ap j2z90_ d99_.1 j0z90_ (by have u := b95_; omega) (fz90_ 114 (Int32.toNatClampNeg i2z90_) rfl)))
        have j113_ : zC1 123 122 (Int32.toNatClampNeg (i2z90_ + 1)) M M101_ := (zC1_n (znp1 b95_ (by decide) (by decide)) (zC1_bp j3z90_ d99_.1 j0z90_ (by have u := b95_; omega) (fz90_ 122 (Int32.toNatClampNeg i2z90_) rfl)))
        exact ihz90_ (i2z90_ + 1) M101_ o103_ f105_ (zr_wide b108_ (by decide) (by decide)) j110_ j111_ j112_ j113_ (zhid (pvms_up (zshow hmz90_) h2z90_ q109_ (by decide) (by decide)))
  have u114_ : Int32.toInt 0 = 0 := by decide
  have j115_ : M3_.1 107 0 = 0 := d1_
  have j116_ : Int32.toInt 0 ≤ Int32.toInt (M.1 106 0) := (by have z := pvok_r hok 106 0 rfl; have u : Int32.toInt 0 = 0 := (by decide); omega)
  have j117_ : zC1 115 114 (Int32.toNatClampNeg 0) M M3_ := (zC1_0 115 114 M M3_)
  have j118_ : zC1 123 122 (Int32.toNatClampNeg 0) M M3_ := (zC1_0 123 122 M M3_)
  exact hlz90_ _ 0 M3_ o5_ f7_ (zr_wide (show 0 ≤ Int32.toInt 0 ∧ Int32.toInt 0 ≤ 0 from (by decide)) (by decide) (by decide)) j115_ j116_ j117_ j118_ (zhid (Nat.lt_succ_self _))
def fpL_eX6_append_106_x_x : List (Nat × Nat × Nat) := [(0, 106, 1), (0, 114, 0), (0, 122, 0)]
def fp_eX6_append_106_x_x (q k : Nat) : Bool := pvfp fpL_eX6_append_106_x_x q k
set_option maxHeartbeats 4000000 in
set_option maxRecDepth 10000 in
theorem se_X6_append_106_x_x (M : pvM) (hok : pvOk M) (n1 : Int32) (n2 : Int32) (hn1 : 0 ≤ Int32.toInt n1 ∧ Int32.toInt n1 ≤ 6) (hn2 : 0 ≤ Int32.toInt n2 ∧ Int32.toInt n2 ≤ 9999) (d : Nat) : PW 151 d (0, [some (pvR 106), some (pvI n1), some (pvI n2)], [], M) (fun r X => (∃ x : Int32, r = some (pvI x) ∧ (1 ≤ Int32.toInt x ∧ Int32.toInt x ≤ 7) ∧ x = (if (M.1 106 0) < (Int32.ofNat 7) then ((M.1 106 0) + 1) else (M.1 106 0))) ∧ pvOk X ∧ pvFr fp_eX6_append_106_x_x M X ∧ zAp 106 114 122 7 n1 n2 M X ∧ X.1 106 0 = (if (M.1 106 0) < (Int32.ofNat 7) then ((M.1 106 0) + 1) else (M.1 106 0))) := by
  have hT : pvdom 151 = pvD_151 := rfl
  refine pw_blk hT 1 (S' := (1, [some (pvR 106), some (pvI n1), some (pvI n2)], [pvR 106], M)) rfl ⟨trivial, trivial⟩ ?_
  refine pw_callT hT (as := [pvR 106]) (lo1 := [some (pvR 106)]) (d1 := d) (rest := []) rfl rfl rfl rfl rfl (fun _ => rfl) (Nat.zero_le _) rfl rfl rfl (sf_X6_isFull_106 M hok d) ?_
  have b6_ : 0 ≤ Int32.toInt (M.1 106 0) ∧ Int32.toInt (M.1 106 0) ≤ 7 := pvok_r hok 106 0 rfl
  by_cases c7_ : (M.1 106 0) < (Int32.ofNat 7)
  · refine pw_eqI (if_pos c7_) ?_
    have b8_ : 0 ≤ Int32.toInt (M.1 106 0) ∧ Int32.toInt (M.1 106 0) ≤ 6 := zr_lt_l 6 c7_ b6_ (show 7 ≤ Int32.toInt (Int32.ofNat 7) ∧ Int32.toInt (Int32.ofNat 7) ≤ 7 from (by decide)) (by decide)
    show PW 151 d (4, [some (pvR 106), some (pvI n1), some (pvI n2)], [pvI 0], M) _
    refine pw_if hT (c := 0 = 0) rfl rfl (fun c9_ => ?_) (fun c9_ => absurd (by decide) c9_)
    refine pw_blkw hT 6 (pc := 22) (lo := [some (pvR 106), some (pvI n1), some (pvI n2)]) (st := []) (M := pvu M 114 (Int32.toNatClampNeg (M.1 106 0)) n1) rfl ⟨trivial, rfl, trivial, rfl, trivial, ⟨rfl, (zr_in (n := 7) b8_ (by decide) (by decide))⟩, trivial⟩ (fun M10_ e11_ => ?_)
    have o12_ : pvOk M10_ := pvok_u2 e11_ hok rfl hn1
    have f13_ : pvFr fp_eX6_append_106_x_x M M10_ := pvfr_u e11_ pvfr_0 rfl
    have e14_ : (M10_.1 106 0) = (M.1 106 0) := (pvu_n e11_ 106 0 (Or.inl (by decide)))
    have b15_ : 0 ≤ Int32.toInt (M10_.1 106 0) ∧ Int32.toInt (M10_.1 106 0) ≤ 6 := (by rw [e14_]; exact b8_)
    refine pw_blkw hT 6 (pc := 32) (lo := [some (pvR 106), some (pvI n1), some (pvI n2)]) (st := []) (M := pvu M10_ 122 (Int32.toNatClampNeg (M10_.1 106 0)) n2) rfl ⟨trivial, rfl, trivial, rfl, trivial, ⟨rfl, (zr_in (n := 7) b15_ (by decide) (by decide))⟩, trivial⟩ (fun M16_ e17_ => ?_)
    have o18_ : pvOk M16_ := pvok_u2 e17_ o12_ rfl hn2
    have f19_ : pvFr fp_eX6_append_106_x_x M M16_ := pvfr_u e17_ f13_ rfl
    have e20_ : (M16_.1 106 0) = (M10_.1 106 0) := (pvu_n e17_ 106 0 (Or.inl (by decide)))
    have b21_ : 0 ≤ Int32.toInt (M16_.1 106 0) ∧ Int32.toInt (M16_.1 106 0) ≤ 6 := (by rw [e20_]; exact b15_)
    obtain ⟨q23_, b22_⟩ : (Int32.toInt ((M16_.1 106 0) + 1) = Int32.toInt (M16_.1 106 0) + 1) ∧ (1 ≤ Int32.toInt ((M16_.1 106 0) + 1) ∧ Int32.toInt ((M16_.1 106 0) + 1) ≤ 7) := zadd_k (M16_.1 106 0) 1 1 1 7 b21_ (by decide) (by decide) (by decide) (by decide) (by decide)
    refine pw_blkw hT 6 (pc := 42) (lo := [some (pvR 106), some (pvI n1), some (pvI n2)]) (st := []) (M := pvu M16_ 106 0 ((M16_.1 106 0) + 1)) rfl ⟨trivial, trivial, rfl, trivial, trivial, rfl, trivial⟩ (fun M24_ e25_ => ?_)
    have o26_ : pvOk M24_ := pvok_u2 e25_ o18_ rfl (zr_wide b22_ (by decide) (by decide))
    have f27_ : pvFr fp_eX6_append_106_x_x M M24_ := pvfr_u e25_ f19_ rfl
    have e28_ : (M24_.1 106 0) = ((M16_.1 106 0) + 1) := (pvu_s e25_)
    have b29_ : 1 ≤ Int32.toInt (M24_.1 106 0) ∧ Int32.toInt (M24_.1 106 0) ≤ 7 := (by rw [e28_]; exact b22_)
    refine pw_blk hT 2 (S' := (46, [some (pvR 106), some (pvI n1), some (pvI n2)], [pvI (M24_.1 106 0)], M24_)) rfl ⟨trivial, rfl, trivial⟩ ?_
    exact pw_ret hT rfl (r := some (pvI (M24_.1 106 0))) (M' := M24_) ⟨rfl, rfl⟩ ⟨⟨_, rfl, b29_, (by rw [if_pos c7_]; first | done | exact (show (M24_.1 106 0) = ((M.1 106 0) + 1) from by rw [((pvu_s e25_).trans (show ((M16_.1 106 0) + 1) = ((M.1 106 0) + 1) from by rw [((pvu_n e17_ 106 0 (Or.inl (by decide))).trans (pvu_n e11_ 106 0 (Or.inl (by decide))))]))]) | (rw [if_pos c7_]; exact (show (M24_.1 106 0) = ((M.1 106 0) + 1) from by rw [((pvu_s e25_).trans (show ((M16_.1 106 0) + 1) = ((M.1 106 0) + 1) from by rw [((pvu_n e17_ 106 0 (Or.inl (by decide))).trans (pvu_n e11_ 106 0 (Or.inl (by decide))))]))])))⟩, o26_, f27_, (zAp_y (by decide) (by decide) (by decide) (by have u := b8_; omega) e11_ e17_ e25_), (by rw [if_pos c7_]; first | done | exact ((pvu_s e25_).trans (show ((M16_.1 106 0) + 1) = ((M.1 106 0) + 1) from by rw [((pvu_n e17_ 106 0 (Or.inl (by decide))).trans (pvu_n e11_ 106 0 (Or.inl (by decide))))])) | (rw [if_pos c7_]; done) | (rw [if_pos c7_]; exact ((pvu_s e25_).trans (show ((M16_.1 106 0) + 1) = ((M.1 106 0) + 1) from by rw [((pvu_n e17_ 106 0 (Or.inl (by decide))).trans (pvu_n e11_ 106 0 (Or.inl (by decide))))]))))⟩
  · refine pw_eqI (if_neg c7_) ?_
    have b30_ : 7 ≤ Int32.toInt (M.1 106 0) ∧ Int32.toInt (M.1 106 0) ≤ 7 := zr_nlt_l 7 c7_ b6_ (show 7 ≤ Int32.toInt (Int32.ofNat 7) ∧ Int32.toInt (Int32.ofNat 7) ≤ 7 from (by decide)) (by decide)
    show PW 151 d (4, [some (pvR 106), some (pvI n1), some (pvI n2)], [pvI 1], M) _
    refine pw_if hT (c := 1 = 0) rfl rfl (fun c31_ => absurd c31_ (by decide)) (fun c31_ => ?_)
    refine pw_blk hT 2 (S' := (11, [some (pvR 106), some (pvI n1), some (pvI n2)], [pvI (M.1 106 0)], M)) rfl ⟨trivial, rfl, trivial⟩ ?_
    exact pw_ret hT rfl (r := some (pvI (M.1 106 0))) (M' := M) ⟨rfl, rfl⟩ ⟨⟨_, rfl, (zr_wide b30_ (by decide) (by decide)), (by rw [if_neg c7_]; first | done | (rw [if_neg c7_]; done))⟩, hok, pvfr_0, (zAp_n (by have u := b30_; omega)), (by rw [if_neg c7_]; first | done | exact rfl | (rw [if_neg c7_]; done) | (rw [if_neg c7_]; exact rfl))⟩
def fpL_eX6_append_104_x_x : List (Nat × Nat × Nat) := [(0, 104, 1), (0, 112, 0), (0, 120, 0)]
def fp_eX6_append_104_x_x (q k : Nat) : Bool := pvfp fpL_eX6_append_104_x_x q k
set_option maxHeartbeats 4000000 in
set_option maxRecDepth 10000 in
theorem se_X6_append_104_x_x (M : pvM) (hok : pvOk M) (n1 : Int32) (n2 : Int32) (hn1 : 0 ≤ Int32.toInt n1 ∧ Int32.toInt n1 ≤ 6) (hn2 : 0 ≤ Int32.toInt n2 ∧ Int32.toInt n2 ≤ 9999) (d : Nat) : PW 151 d (0, [some (pvR 104), some (pvI n1), some (pvI n2)], [], M) (fun r X => (∃ x : Int32, r = some (pvI x) ∧ (1 ≤ Int32.toInt x ∧ Int32.toInt x ≤ 8) ∧ x = (if (M.1 104 0) < (Int32.ofNat 8) then ((M.1 104 0) + 1) else (M.1 104 0))) ∧ pvOk X ∧ pvFr fp_eX6_append_104_x_x M X ∧ zAp 104 112 120 8 n1 n2 M X ∧ X.1 104 0 = (if (M.1 104 0) < (Int32.ofNat 8) then ((M.1 104 0) + 1) else (M.1 104 0))) := by
  have hT : pvdom 151 = pvD_151 := rfl
  refine pw_blk hT 1 (S' := (1, [some (pvR 104), some (pvI n1), some (pvI n2)], [pvR 104], M)) rfl ⟨trivial, trivial⟩ ?_
  refine pw_callT hT (as := [pvR 104]) (lo1 := [some (pvR 104)]) (d1 := d) (rest := []) rfl rfl rfl rfl rfl (fun _ => rfl) (Nat.zero_le _) rfl rfl rfl (sf_X6_isFull_104 M hok d) ?_
  have b6_ : 0 ≤ Int32.toInt (M.1 104 0) ∧ Int32.toInt (M.1 104 0) ≤ 8 := pvok_r hok 104 0 rfl
  by_cases c7_ : (M.1 104 0) < (Int32.ofNat 8)
  · refine pw_eqI (if_pos c7_) ?_
    have b8_ : 0 ≤ Int32.toInt (M.1 104 0) ∧ Int32.toInt (M.1 104 0) ≤ 7 := zr_lt_l 7 c7_ b6_ (show 8 ≤ Int32.toInt (Int32.ofNat 8) ∧ Int32.toInt (Int32.ofNat 8) ≤ 8 from (by decide)) (by decide)
    show PW 151 d (4, [some (pvR 104), some (pvI n1), some (pvI n2)], [pvI 0], M) _
    refine pw_if hT (c := 0 = 0) rfl rfl (fun c9_ => ?_) (fun c9_ => absurd (by decide) c9_)
    refine pw_blkw hT 6 (pc := 22) (lo := [some (pvR 104), some (pvI n1), some (pvI n2)]) (st := []) (M := pvu M 112 (Int32.toNatClampNeg (M.1 104 0)) n1) rfl ⟨trivial, rfl, trivial, rfl, trivial, ⟨rfl, (zr_in (n := 8) b8_ (by decide) (by decide))⟩, trivial⟩ (fun M10_ e11_ => ?_)
    have o12_ : pvOk M10_ := pvok_u2 e11_ hok rfl hn1
    have f13_ : pvFr fp_eX6_append_104_x_x M M10_ := pvfr_u e11_ pvfr_0 rfl
    have e14_ : (M10_.1 104 0) = (M.1 104 0) := (pvu_n e11_ 104 0 (Or.inl (by decide)))
    have b15_ : 0 ≤ Int32.toInt (M10_.1 104 0) ∧ Int32.toInt (M10_.1 104 0) ≤ 7 := (by rw [e14_]; exact b8_)
    refine pw_blkw hT 6 (pc := 32) (lo := [some (pvR 104), some (pvI n1), some (pvI n2)]) (st := []) (M := pvu M10_ 120 (Int32.toNatClampNeg (M10_.1 104 0)) n2) rfl ⟨trivial, rfl, trivial, rfl, trivial, ⟨rfl, (zr_in (n := 8) b15_ (by decide) (by decide))⟩, trivial⟩ (fun M16_ e17_ => ?_)
    have o18_ : pvOk M16_ := pvok_u2 e17_ o12_ rfl hn2
    have f19_ : pvFr fp_eX6_append_104_x_x M M16_ := pvfr_u e17_ f13_ rfl
    have e20_ : (M16_.1 104 0) = (M10_.1 104 0) := (pvu_n e17_ 104 0 (Or.inl (by decide)))
    have b21_ : 0 ≤ Int32.toInt (M16_.1 104 0) ∧ Int32.toInt (M16_.1 104 0) ≤ 7 := (by rw [e20_]; exact b15_)
    obtain ⟨q23_, b22_⟩ : (Int32.toInt ((M16_.1 104 0) + 1) = Int32.toInt (M16_.1 104 0) + 1) ∧ (1 ≤ Int32.toInt ((M16_.1 104 0) + 1) ∧ Int32.toInt ((M16_.1 104 0) + 1) ≤ 8) := zadd_k (M16_.1 104 0) 1 1 1 8 b21_ (by decide) (by decide) (by decide) (by decide) (by decide)
    refine pw_blkw hT 6 (pc := 42) (lo := [some (pvR 104), some (pvI n1), some (pvI n2)]) (st := []) (M := pvu M16_ 104 0 ((M16_.1 104 0) + 1)) rfl ⟨trivial, trivial, rfl, trivial, trivial, rfl, trivial⟩ (fun M24_ e25_ => ?_)
    have o26_ : pvOk M24_ := pvok_u2 e25_ o18_ rfl (zr_wide b22_ (by decide) (by decide))
    have f27_ : pvFr fp_eX6_append_104_x_x M M24_ := pvfr_u e25_ f19_ rfl
    have e28_ : (M24_.1 104 0) = ((M16_.1 104 0) + 1) := (pvu_s e25_)
    have b29_ : 1 ≤ Int32.toInt (M24_.1 104 0) ∧ Int32.toInt (M24_.1 104 0) ≤ 8 := (by rw [e28_]; exact b22_)
    refine pw_blk hT 2 (S' := (46, [some (pvR 104), some (pvI n1), some (pvI n2)], [pvI (M24_.1 104 0)], M24_)) rfl ⟨trivial, rfl, trivial⟩ ?_
    exact pw_ret hT rfl (r := some (pvI (M24_.1 104 0))) (M' := M24_) ⟨rfl, rfl⟩ ⟨⟨_, rfl, b29_, (by rw [if_pos c7_]; first | done | exact (show (M24_.1 104 0) = ((M.1 104 0) + 1) from by rw [((pvu_s e25_).trans (show ((M16_.1 104 0) + 1) = ((M.1 104 0) + 1) from by rw [((pvu_n e17_ 104 0 (Or.inl (by decide))).trans (pvu_n e11_ 104 0 (Or.inl (by decide))))]))]) | (rw [if_pos c7_]; exact (show (M24_.1 104 0) = ((M.1 104 0) + 1) from by rw [((pvu_s e25_).trans (show ((M16_.1 104 0) + 1) = ((M.1 104 0) + 1) from by rw [((pvu_n e17_ 104 0 (Or.inl (by decide))).trans (pvu_n e11_ 104 0 (Or.inl (by decide))))]))])))⟩, o26_, f27_, (zAp_y (by decide) (by decide) (by decide) (by have u := b8_; omega) e11_ e17_ e25_), (by rw [if_pos c7_]; first | done | exact ((pvu_s e25_).trans (show ((M16_.1 104 0) + 1) = ((M.1 104 0) + 1) from by rw [((pvu_n e17_ 104 0 (Or.inl (by decide))).trans (pvu_n e11_ 104 0 (Or.inl (by decide))))])) | (rw [if_pos c7_]; done) | (rw [if_pos c7_]; exact ((pvu_s e25_).trans (show ((M16_.1 104 0) + 1) = ((M.1 104 0) + 1) from by rw [((pvu_n e17_ 104 0 (Or.inl (by decide))).trans (pvu_n e11_ 104 0 (Or.inl (by decide))))]))))⟩
  · refine pw_eqI (if_neg c7_) ?_
    have b30_ : 8 ≤ Int32.toInt (M.1 104 0) ∧ Int32.toInt (M.1 104 0) ≤ 8 := zr_nlt_l 8 c7_ b6_ (show 8 ≤ Int32.toInt (Int32.ofNat 8) ∧ Int32.toInt (Int32.ofNat 8) ≤ 8 from (by decide)) (by decide)
    show PW 151 d (4, [some (pvR 104), some (pvI n1), some (pvI n2)], [pvI 1], M) _
    refine pw_if hT (c := 1 = 0) rfl rfl (fun c31_ => absurd c31_ (by decide)) (fun c31_ => ?_)
    refine pw_blk hT 2 (S' := (11, [some (pvR 104), some (pvI n1), some (pvI n2)], [pvI (M.1 104 0)], M)) rfl ⟨trivial, rfl, trivial⟩ ?_
    exact pw_ret hT rfl (r := some (pvI (M.1 104 0))) (M' := M) ⟨rfl, rfl⟩ ⟨⟨_, rfl, (zr_wide b30_ (by decide) (by decide)), (by rw [if_neg c7_]; first | done | (rw [if_neg c7_]; done))⟩, hok, pvfr_0, (zAp_n (by have u := b30_; omega)), (by rw [if_neg c7_]; first | done | exact rfl | (rw [if_neg c7_]; done) | (rw [if_neg c7_]; exact rfl))⟩
def fpL_eX6_clear_104 : List (Nat × Nat × Nat) := [(0, 104, 1)]
def fp_eX6_clear_104 (q k : Nat) : Bool := pvfp fpL_eX6_clear_104 q k
set_option maxHeartbeats 4000000 in
set_option maxRecDepth 10000 in
theorem se_X6_clear_104 (M : pvM) (hok : pvOk M) (d : Nat) : PW 153 d (0, [some (pvR 104)], [], M) (fun r X => (∃ x : Int32, r = some (pvI x) ∧ (0 ≤ Int32.toInt x ∧ Int32.toInt x ≤ 0) ∧ x = 0) ∧ pvOk X ∧ pvFr fp_eX6_clear_104 M X ∧ X.1 104 0 = 0) := by
  have hT : pvdom 153 = pvD_153 := rfl
  refine pw_blkw hT 3 (pc := 5) (lo := [some (pvR 104)]) (st := []) (M := pvu M 104 0 0) rfl ⟨trivial, trivial, rfl, trivial⟩ (fun M1_ e2_ => ?_)
  have o3_ : pvOk M1_ := pvok_u2 e2_ hok rfl (zr_wide (show 0 ≤ Int32.toInt 0 ∧ Int32.toInt 0 ≤ 0 from (by decide)) (by decide) (by decide))
  have f4_ : pvFr fp_eX6_clear_104 M M1_ := pvfr_u e2_ pvfr_0 rfl
  refine pw_blk hT 1 (S' := (6, [some (pvR 104)], [pvI 0], M1_)) rfl ⟨trivial, trivial⟩ ?_
  exact pw_ret hT rfl (r := some (pvI 0)) (M' := M1_) ⟨rfl, rfl⟩ ⟨⟨_, rfl, (show 0 ≤ Int32.toInt 0 ∧ Int32.toInt 0 ≤ 0 from (by decide)), rfl⟩, o3_, f4_, (pvu_s e2_)⟩
def fpL_eX9_appendTold_0_104_x_x : List (Nat × Nat × Nat) := [(0, 104, 1), (0, 112, 0), (0, 120, 0)]
def fp_eX9_appendTold_0_104_x_x (q k : Nat) : Bool := pvfp fpL_eX9_appendTold_0_104_x_x q k
theorem fp_eX9_appendTold_0_104_x_x_fp_eX6_append_104_x_x (a b : Nat) (h : fp_eX6_append_104_x_x a b = true) : fp_eX9_appendTold_0_104_x_x a b = true := pvfp_sub (l1 := fpL_eX6_append_104_x_x) (l2 := fpL_eX9_appendTold_0_104_x_x) (by decide) a b h
theorem fp_eX9_appendTold_0_104_x_x_fp_eX6_clear_104 (a b : Nat) (h : fp_eX6_clear_104 a b = true) : fp_eX9_appendTold_0_104_x_x a b = true := pvfp_sub (l1 := fpL_eX6_clear_104) (l2 := fpL_eX9_appendTold_0_104_x_x) (by decide) a b h
set_option maxHeartbeats 4000000 in
set_option maxRecDepth 10000 in
theorem se_X9_appendTold_0_104_x_x (M : pvM) (hok : pvOk M) (n2 : Int32) (n3 : Int32) (d : Nat) : PW 168 d (0, [some (pvR 0), some (pvR 104), some (pvI n2), some (pvI n3)], [], M) (fun r X => (∃ x : Int32, r = some (pvI x) ∧ ((-4) ≤ Int32.toInt x ∧ Int32.toInt x ≤ 8) ∧ x = (if n2 = (-1) then 0 else (if n2 < 0 then (-1) else (if (M.1 8 1) ≤ n2 then (-1) else (if n3 < 0 then (-2) else (if 9999 < n3 then (-2) else (if (M.1 104 0) < (Int32.ofNat 8) then (if (M.1 104 0) < (Int32.ofNat 8) then ((M.1 104 0) + 1) else (M.1 104 0)) else (-4)))))))) ∧ pvOk X ∧ pvFr fp_eX9_appendTold_0_104_x_x M X ∧ zBk 104 0 112 120 8 1 8 n2 n3 r M X ∧ X.1 104 0 = (if n2 = (-1) then 0 else (if n2 < 0 then (M.1 104 0) else (if (M.1 8 1) ≤ n2 then (M.1 104 0) else (if n3 < 0 then (M.1 104 0) else (if 9999 < n3 then (M.1 104 0) else (if (M.1 104 0) < (Int32.ofNat 8) then (if (M.1 104 0) < (Int32.ofNat 8) then ((M.1 104 0) + 1) else (M.1 104 0)) else (M.1 104 0)))))))) := by
  have hT : pvdom 168 = pvD_168 := rfl
  refine pw_blk hT 2 (S' := (2, [some (pvR 0), some (pvR 104), some (pvI n2), some (pvI n3)], [pvI (-1), pvI n2], M)) rfl ⟨trivial, trivial, trivial⟩ ?_
  refine pw_icn hT (c := n2 = (-1)) rfl rfl (fun c1_ => ?_) (fun c1_ => ?_)
  · refine pw_blk hT 3 (S' := (15, [some (pvR 0), some (pvR 104), some (pvI n2), some (pvI n3)], [pvI n2, pvR 8], M)) rfl ⟨trivial, rfl, trivial, trivial⟩ ?_
    refine pw_callT hT (as := [pvR 8, pvI n2]) (lo1 := [some (pvR 8), some (pvI n2)]) (d1 := d) (rest := []) rfl rfl rfl rfl rfl (fun _ => rfl) (Nat.zero_le _) rfl rfl rfl (sf_X7_has_8_x M hok n2 d) ?_
    by_cases c7_ : n2 < 0
    · refine pw_eqI (if_pos c7_) ?_
      have b8_ : (-2147483648) ≤ Int32.toInt n2 ∧ Int32.toInt n2 ≤ (-2) := (by have u0 := (zbnd n2); have u9 := (show _ ∧ _ from ⟨(zi_lt _ _).mp c7_, (show 0 ≤ Int32.toInt 0 ∧ Int32.toInt 0 ≤ 0 from (by decide))⟩); have v1 := (not_congr (zi_eq _ _)).mp c1_; have w1 : ((-1) : Int32).toInt = -1 := (by decide); omega)
      show PW 168 d (18, [some (pvR 0), some (pvR 104), some (pvI n2), some (pvI n3)], [pvI 0], M) _
      refine pw_ifn hT (c := 0 = 0) rfl rfl (fun c9_ => absurd (by decide) c9_) (fun c9_ => ?_)
      refine pw_blk hT 1 (S' := (22, [some (pvR 0), some (pvR 104), some (pvI n2), some (pvI n3)], [pvI (-1)], M)) rfl ⟨trivial, trivial⟩ ?_
      exact pw_ret hT rfl (r := some (pvI (-1))) (M' := M) ⟨rfl, rfl⟩ ⟨⟨_, rfl, (zr_wide (show (-1) ≤ Int32.toInt (-1) ∧ Int32.toInt (-1) ≤ (-1) from (by decide)) (by decide) (by decide)), (by rw [if_neg c1_, if_pos c7_]; first | done | (rw [if_pos c7_]; done))⟩, hok, pvfr_0, (zBk_n (by decide)), (by rw [if_neg c1_, if_pos c7_]; first | done | exact rfl | (rw [if_pos c7_]; done) | (rw [if_pos c7_]; exact rfl))⟩
    · refine pw_eqI (if_neg c7_) ?_
      have b10_ : 0 ≤ Int32.toInt n2 ∧ Int32.toInt n2 ≤ 2147483647 := zr_nlt_l 0 c7_ (zbnd n2) (show 0 ≤ Int32.toInt 0 ∧ Int32.toInt 0 ≤ 0 from (by decide)) (by decide)
      have b11_ : 0 ≤ Int32.toInt (M.1 8 1) ∧ Int32.toInt (M.1 8 1) ≤ 7 := pvok_r hok 8 1 rfl
      by_cases c12_ : (M.1 8 1) ≤ n2
      · refine pw_eqI (if_pos c12_) ?_
        have d13_ : Int32.toInt (M.1 8 1) ≤ Int32.toInt n2 := (zi_le _ _).mp c12_
        show PW 168 d (18, [some (pvR 0), some (pvR 104), some (pvI n2), some (pvI n3)], [pvI 0], M) _
        refine pw_ifn hT (c := 0 = 0) rfl rfl (fun c14_ => absurd (by decide) c14_) (fun c14_ => ?_)
        refine pw_blk hT 1 (S' := (22, [some (pvR 0), some (pvR 104), some (pvI n2), some (pvI n3)], [pvI (-1)], M)) rfl ⟨trivial, trivial⟩ ?_
        exact pw_ret hT rfl (r := some (pvI (-1))) (M' := M) ⟨rfl, rfl⟩ ⟨⟨_, rfl, (zr_wide (show (-1) ≤ Int32.toInt (-1) ∧ Int32.toInt (-1) ≤ (-1) from (by decide)) (by decide) (by decide)), (by rw [if_neg c1_, if_neg c7_, if_pos c12_]; first | done | (rw [if_pos c12_]; done))⟩, hok, pvfr_0, (zBk_n (by decide)), (by rw [if_neg c1_, if_neg c7_, if_pos c12_]; first | done | exact rfl | (rw [if_pos c12_]; done) | (rw [if_pos c12_]; exact rfl))⟩
      · refine pw_eqI (if_neg c12_) ?_
        have b15_ : 1 ≤ Int32.toInt (M.1 8 1) ∧ Int32.toInt (M.1 8 1) ≤ 7 := zr_nle_l 1 c12_ b11_ b10_ (by decide)
        have b16_ : 0 ≤ Int32.toInt n2 ∧ Int32.toInt n2 ≤ 6 := zr_nle_r 6 c12_ b10_ b15_ (by decide)
        have d17_ : Int32.toInt (M.1 8 1) > Int32.toInt n2 := Int.not_le.mp ((not_congr (zi_le _ _)).mp c12_)
        show PW 168 d (18, [some (pvR 0), some (pvR 104), some (pvI n2), some (pvI n3)], [pvI 1], M) _
        refine pw_ifn hT (c := 1 = 0) rfl rfl (fun c18_ => ?_) (fun c18_ => absurd c18_ (by decide))
        refine pw_blk hT 3 (S' := (28, [some (pvR 0), some (pvR 104), some (pvI n2), some (pvI n3)], [pvI 9999, pvI 0, pvI n3], M)) rfl ⟨trivial, trivial, trivial, trivial⟩ ?_
        refine pw_callT hT (as := [pvI n3, pvI 0, pvI 9999]) (lo1 := [some (pvI n3), some (pvI 0), some (pvI 9999)]) (d1 := d) (rest := []) rfl rfl rfl rfl rfl (fun h => absurd h (by decide)) (Nat.zero_le _) rfl rfl rfl (sf_X9_within_x_x_x M hok n3 0 9999 d) ?_
        by_cases c24_ : n3 < 0
        · refine pw_eqI (if_pos c24_) ?_
          have b25_ : (-2147483648) ≤ Int32.toInt n3 ∧ Int32.toInt n3 ≤ (-1) := zr_lt_l (-1) c24_ (zbnd n3) (show 0 ≤ Int32.toInt 0 ∧ Int32.toInt 0 ≤ 0 from (by decide)) (by decide)
          show PW 168 d (31, [some (pvR 0), some (pvR 104), some (pvI n2), some (pvI n3)], [pvI 0], M) _
          refine pw_ifn hT (c := 0 = 0) rfl rfl (fun c26_ => absurd (by decide) c26_) (fun c26_ => ?_)
          refine pw_blk hT 1 (S' := (36, [some (pvR 0), some (pvR 104), some (pvI n2), some (pvI n3)], [pvI (-2)], M)) rfl ⟨trivial, trivial⟩ ?_
          exact pw_ret hT rfl (r := some (pvI (-2))) (M' := M) ⟨rfl, rfl⟩ ⟨⟨_, rfl, (zr_wide (show (-2) ≤ Int32.toInt (-2) ∧ Int32.toInt (-2) ≤ (-2) from (by decide)) (by decide) (by decide)), (by rw [if_neg c1_, if_neg c7_, if_neg c12_, if_pos c24_]; first | done | (rw [if_pos c24_]; done))⟩, hok, pvfr_0, (zBk_n (by decide)), (by rw [if_neg c1_, if_neg c7_, if_neg c12_, if_pos c24_]; first | done | exact rfl | (rw [if_pos c24_]; done) | (rw [if_pos c24_]; exact rfl))⟩
        · refine pw_eqI (if_neg c24_) ?_
          have b27_ : 0 ≤ Int32.toInt n3 ∧ Int32.toInt n3 ≤ 2147483647 := zr_nlt_l 0 c24_ (zbnd n3) (show 0 ≤ Int32.toInt 0 ∧ Int32.toInt 0 ≤ 0 from (by decide)) (by decide)
          by_cases c28_ : 9999 < n3
          · refine pw_eqI (if_pos c28_) ?_
            have b29_ : 10000 ≤ Int32.toInt n3 ∧ Int32.toInt n3 ≤ 2147483647 := zr_lt_r 10000 c28_ b27_ (show 9999 ≤ Int32.toInt 9999 ∧ Int32.toInt 9999 ≤ 9999 from (by decide)) (by decide)
            show PW 168 d (31, [some (pvR 0), some (pvR 104), some (pvI n2), some (pvI n3)], [pvI 0], M) _
            refine pw_ifn hT (c := 0 = 0) rfl rfl (fun c30_ => absurd (by decide) c30_) (fun c30_ => ?_)
            refine pw_blk hT 1 (S' := (36, [some (pvR 0), some (pvR 104), some (pvI n2), some (pvI n3)], [pvI (-2)], M)) rfl ⟨trivial, trivial⟩ ?_
            exact pw_ret hT rfl (r := some (pvI (-2))) (M' := M) ⟨rfl, rfl⟩ ⟨⟨_, rfl, (zr_wide (show (-2) ≤ Int32.toInt (-2) ∧ Int32.toInt (-2) ≤ (-2) from (by decide)) (by decide) (by decide)), (by rw [if_neg c1_, if_neg c7_, if_neg c12_, if_neg c24_, if_pos c28_]; first | done | (rw [if_pos c28_]; done))⟩, hok, pvfr_0, (zBk_n (by decide)), (by rw [if_neg c1_, if_neg c7_, if_neg c12_, if_neg c24_, if_pos c28_]; first | done | exact rfl | (rw [if_pos c28_]; done) | (rw [if_pos c28_]; exact rfl))⟩
          · refine pw_eqI (if_neg c28_) ?_
            have b31_ : 0 ≤ Int32.toInt n3 ∧ Int32.toInt n3 ≤ 9999 := zr_nlt_r 9999 c28_ b27_ (show 9999 ≤ Int32.toInt 9999 ∧ Int32.toInt 9999 ≤ 9999 from (by decide)) (by decide)
            show PW 168 d (31, [some (pvR 0), some (pvR 104), some (pvI n2), some (pvI n3)], [pvI 1], M) _
            refine pw_ifn hT (c := 1 = 0) rfl rfl (fun c32_ => ?_) (fun c32_ => absurd c32_ (by decide))
            refine pw_blk hT 1 (S' := (38, [some (pvR 0), some (pvR 104), some (pvI n2), some (pvI n3)], [pvR 104], M)) rfl ⟨trivial, trivial⟩ ?_
            refine pw_callT hT (as := [pvR 104]) (lo1 := [some (pvR 104)]) (d1 := d) (rest := []) rfl rfl rfl rfl rfl (fun _ => rfl) (Nat.zero_le _) rfl rfl rfl (sf_X6_isFull_104 M hok d) ?_
            have b38_ : 0 ≤ Int32.toInt (M.1 104 0) ∧ Int32.toInt (M.1 104 0) ≤ 8 := pvok_r hok 104 0 rfl
            by_cases c39_ : (M.1 104 0) < (Int32.ofNat 8)
            · refine pw_eqI (if_pos c39_) ?_
              have b40_ : 0 ≤ Int32.toInt (M.1 104 0) ∧ Int32.toInt (M.1 104 0) ≤ 7 := zr_lt_l 7 c39_ b38_ (show 8 ≤ Int32.toInt (Int32.ofNat 8) ∧ Int32.toInt (Int32.ofNat 8) ≤ 8 from (by decide)) (by decide)
              show PW 168 d (41, [some (pvR 0), some (pvR 104), some (pvI n2), some (pvI n3)], [pvI 0], M) _
              refine pw_if hT (c := 0 = 0) rfl rfl (fun c41_ => ?_) (fun c41_ => absurd (by decide) c41_)
              refine pw_blk hT 3 (S' := (50, [some (pvR 0), some (pvR 104), some (pvI n2), some (pvI n3)], [pvI n3, pvI n2, pvR 104], M)) rfl ⟨trivial, trivial, trivial, trivial⟩ ?_
              refine pw_callGd hT (as := [pvR 104, pvI n2, pvI n3]) (lo1 := [some (pvR 104), some (pvI n2), some (pvI n3)]) (d1 := d) (rest := []) rfl rfl rfl rfl rfl (fun _ => rfl) (Nat.zero_le _) rfl rfl rfl (se_X6_append_104_x_x M hok n2 n3 b16_ b31_ d) (fun x43_ M44_ b45_ o46_ g47_ d42_ => ?_)
              have f48_ : pvFr fp_eX9_appendTold_0_104_x_x M M44_ := pvfr_t g47_ pvfr_0 fp_eX9_appendTold_0_104_x_x_fp_eX6_append_104_x_x
              obtain ⟨b49_, d50_⟩ := b45_
              subst d50_
              exact pw_ret hT rfl (r := some (pvI (if (M.1 104 0) < (Int32.ofNat 8) then ((M.1 104 0) + 1) else (M.1 104 0)))) (M' := M44_) ⟨rfl, rfl⟩ ⟨⟨_, rfl, (zr_wide b49_ (by decide) (by decide)), (by rw [if_neg c1_, if_neg c7_, if_neg c12_, if_neg c24_, if_neg c28_, if_pos c39_]; first | done | (rw [if_pos c39_]; done))⟩, o46_, f48_, (zBk_9 (c := Int32.ofNat 8) (by decide) (by decide) c39_ (pvok_r hok 104 0 (lo := 0) (hi := 8) rfl).1 (zvl_y c7_ c12_) d42_.1 (d42_.2.trans (if_pos c39_)) (if_pos c39_)), (by rw [if_neg c1_, if_neg c7_, if_neg c12_, if_neg c24_, if_neg c28_, if_pos c39_]; first | done | exact d42_.2 | (rw [if_pos c39_]; done) | (rw [if_pos c39_]; exact d42_.2))⟩
            · refine pw_eqI (if_neg c39_) ?_
              have b51_ : 8 ≤ Int32.toInt (M.1 104 0) ∧ Int32.toInt (M.1 104 0) ≤ 8 := zr_nlt_l 8 c39_ b38_ (show 8 ≤ Int32.toInt (Int32.ofNat 8) ∧ Int32.toInt (Int32.ofNat 8) ≤ 8 from (by decide)) (by decide)
              show PW 168 d (41, [some (pvR 0), some (pvR 104), some (pvI n2), some (pvI n3)], [pvI 1], M) _
              refine pw_if hT (c := 1 = 0) rfl rfl (fun c52_ => absurd c52_ (by decide)) (fun c52_ => ?_)
              refine pw_blk hT 1 (S' := (46, [some (pvR 0), some (pvR 104), some (pvI n2), some (pvI n3)], [pvI (-4)], M)) rfl ⟨trivial, trivial⟩ ?_
              exact pw_ret hT rfl (r := some (pvI (-4))) (M' := M) ⟨rfl, rfl⟩ ⟨⟨_, rfl, (zr_wide (show (-4) ≤ Int32.toInt (-4) ∧ Int32.toInt (-4) ≤ (-4) from (by decide)) (by decide) (by decide)), (by rw [if_neg c1_, if_neg c7_, if_neg c12_, if_neg c24_, if_neg c28_, if_neg c39_]; first | done | (rw [if_neg c39_]; done))⟩, hok, pvfr_0, (zBk_n (by decide)), (by rw [if_neg c1_, if_neg c7_, if_neg c12_, if_neg c24_, if_neg c28_, if_neg c39_]; first | done | exact rfl | (rw [if_neg c39_]; done) | (rw [if_neg c39_]; exact rfl))⟩
  · have b53_ : (-1) ≤ Int32.toInt n2 ∧ Int32.toInt n2 ≤ (-1) := (by have u0 := (zbnd n2); have u1 := (zi_eq _ _).mp c1_; have u2 := (show (-1) ≤ Int32.toInt (-1) ∧ Int32.toInt (-1) ≤ (-1) from (by decide)); omega)
    refine pw_blk hT 1 (S' := (6, [some (pvR 0), some (pvR 104), some (pvI n2), some (pvI n3)], [pvR 104], M)) rfl ⟨trivial, trivial⟩ ?_
    refine pw_callGd hT (as := [pvR 104]) (lo1 := [some (pvR 104)]) (d1 := d) (rest := []) rfl rfl rfl rfl rfl (fun _ => rfl) (Nat.zero_le _) rfl rfl rfl (se_X6_clear_104 M hok d) (fun x55_ M56_ b57_ o58_ g59_ d54_ => ?_)
    have f60_ : pvFr fp_eX9_appendTold_0_104_x_x M M56_ := pvfr_t g59_ pvfr_0 fp_eX9_appendTold_0_104_x_x_fp_eX6_clear_104
    obtain ⟨b61_, d62_⟩ := b57_
    subst d62_
    exact pw_ret hT rfl (r := some (pvI 0)) (M' := M56_) ⟨rfl, rfl⟩ ⟨⟨_, rfl, (zr_wide b61_ (by decide) (by decide)), (by rw [if_pos c1_]; first | done | (rw [if_pos c1_]; done))⟩, o58_, f60_, (zBk_c rfl d54_), (by rw [if_pos c1_]; first | done | exact d54_ | (rw [if_pos c1_]; done) | (rw [if_pos c1_]; exact d54_))⟩
def fpL_eX9_book_0_x_x : List (Nat × Nat × Nat) := [(0, 104, 1), (0, 112, 0), (0, 120, 0)]
def fp_eX9_book_0_x_x (q k : Nat) : Bool := pvfp fpL_eX9_book_0_x_x q k
theorem fp_eX9_book_0_x_x_fp_eX9_appendTold_0_104_x_x (a b : Nat) (h : fp_eX9_appendTold_0_104_x_x a b = true) : fp_eX9_book_0_x_x a b = true := pvfp_sub (l1 := fpL_eX9_appendTold_0_104_x_x) (l2 := fpL_eX9_book_0_x_x) (by decide) a b h
set_option maxHeartbeats 4000000 in
set_option maxRecDepth 10000 in
theorem se_X9_book_0_x_x (M : pvM) (hok : pvOk M) (n1 : Int32) (n2 : Int32) (d : Nat) : PW 171 d (0, [some (pvR 0), some (pvI n1), some (pvI n2)], [], M) (fun r X => (∃ x : Int32, r = some (pvI x) ∧ ((-4) ≤ Int32.toInt x ∧ Int32.toInt x ≤ 8) ∧ x = (if n1 = (-1) then 0 else (if n1 < 0 then (-1) else (if (M.1 8 1) ≤ n1 then (-1) else (if n2 < 0 then (-2) else (if 9999 < n2 then (-2) else (if (M.1 104 0) < (Int32.ofNat 8) then (if (M.1 104 0) < (Int32.ofNat 8) then ((M.1 104 0) + 1) else (M.1 104 0)) else (-4)))))))) ∧ pvOk X ∧ pvFr fp_eX9_book_0_x_x M X ∧ zBk 104 0 112 120 8 1 8 n1 n2 r M X ∧ X.1 104 0 = (if n1 = (-1) then 0 else (if n1 < 0 then (M.1 104 0) else (if (M.1 8 1) ≤ n1 then (M.1 104 0) else (if n2 < 0 then (M.1 104 0) else (if 9999 < n2 then (M.1 104 0) else (if (M.1 104 0) < (Int32.ofNat 8) then (if (M.1 104 0) < (Int32.ofNat 8) then ((M.1 104 0) + 1) else (M.1 104 0)) else (M.1 104 0)))))))) := by
  have hT : pvdom 171 = pvD_171 := rfl
  refine pw_blk hT 6 (S' := (10, [some (pvR 0), some (pvI n1), some (pvI n2)], [pvI n2, pvI n1, pvR 104, pvR 0], M)) rfl ⟨trivial, trivial, rfl, rfl, trivial, trivial, trivial⟩ ?_
  refine pw_callGd hT (as := [pvR 0, pvR 104, pvI n1, pvI n2]) (lo1 := [some (pvR 0), some (pvR 104), some (pvI n1), some (pvI n2)]) (d1 := d) (rest := []) rfl rfl rfl rfl rfl (fun _ => rfl) (Nat.zero_le _) rfl rfl rfl (se_X9_appendTold_0_104_x_x M hok n1 n2 d) (fun x2_ M3_ b4_ o5_ g6_ d1_ => ?_)
  have f7_ : pvFr fp_eX9_book_0_x_x M M3_ := pvfr_t g6_ pvfr_0 fp_eX9_book_0_x_x_fp_eX9_appendTold_0_104_x_x
  obtain ⟨b8_, d9_⟩ := b4_
  subst d9_
  exact pw_ret hT rfl (r := some (pvI (if n1 = (-1) then 0 else (if n1 < 0 then (-1) else (if (M.1 8 1) ≤ n1 then (-1) else (if n2 < 0 then (-2) else (if 9999 < n2 then (-2) else (if (M.1 104 0) < (Int32.ofNat 8) then (if (M.1 104 0) < (Int32.ofNat 8) then ((M.1 104 0) + 1) else (M.1 104 0)) else (-4))))))))) (M' := M3_) ⟨rfl, rfl⟩ ⟨⟨_, rfl, b8_, rfl⟩, o5_, f7_, d1_.1, d1_.2⟩
set_option maxHeartbeats 4000000 in
set_option maxRecDepth 10000 in
theorem se_X9_count_0_x (M : pvM) (hok : pvOk M) (n1 : Int32) (d : Nat) : PW 172 d (0, [some (pvR 0), some (pvI n1)], [], M) (fun r X => r = some (pvI ((if n1 = 0 then (M.1 8 1) else (if n1 = 1 then (M.1 0 1) else (if n1 = 2 then (M.1 100 0) else (if n1 = 3 then (M.1 102 0) else (if n1 = 4 then (M.1 104 0) else (if n1 = 5 then (M.1 6 1) else (if n1 = 6 then (M.1 3 1) else (-2)))))))))) ∧ X = M) := by
  have hT : pvdom 172 = pvD_172 := rfl
  refine pw_blk hT 1 (S' := (1, [some (pvR 0), some (pvI n1)], [pvI n1], M)) rfl ⟨trivial, trivial⟩ ?_
  refine pw_sw hT rfl rfl ?_
  refine And.intro (fun c1_ => ?_) (fun c1_ => ?_)
  · show PW 172 d (44, [some (pvR 0), some (pvI n1)], [], M) _
    have b2_ : 0 ≤ Int32.toInt n1 ∧ Int32.toInt n1 ≤ 0 := (by have u0 := (zbnd n1); have u1 := (zi_eq _ _).mp c1_; have u2 := (show 0 ≤ Int32.toInt 0 ∧ Int32.toInt 0 ≤ 0 from (by decide)); omega)
    have b3_ : 0 ≤ Int32.toInt (M.1 8 1) ∧ Int32.toInt (M.1 8 1) ≤ 7 := pvok_r hok 8 1 rfl
    refine pw_blk hT 3 (S' := (51, [some (pvR 0), some (pvI n1)], [pvI (M.1 8 1)], M)) rfl ⟨trivial, rfl, rfl, trivial⟩ ?_
    exact pw_ret hT rfl (r := some (pvI (M.1 8 1))) (M' := M) ⟨rfl, rfl⟩ ⟨(by rw [if_pos c1_]; first | done | (rw [if_pos c1_]; done)), rfl⟩
  · refine And.intro (fun c4_ => ?_) (fun c4_ => ?_)
    · show PW 172 d (52, [some (pvR 0), some (pvI n1)], [], M) _
      have b5_ : 1 ≤ Int32.toInt n1 ∧ Int32.toInt n1 ≤ 1 := (by have u0 := (zbnd n1); have u1 := (zi_eq _ _).mp c4_; have u2 := (show 1 ≤ Int32.toInt 1 ∧ Int32.toInt 1 ≤ 1 from (by decide)); omega)
      have b6_ : 0 ≤ Int32.toInt (M.1 0 1) ∧ Int32.toInt (M.1 0 1) ≤ 6 := pvok_r hok 0 1 rfl
      refine pw_blk hT 2 (S' := (56, [some (pvR 0), some (pvI n1)], [pvI (M.1 0 1)], M)) rfl ⟨trivial, rfl, trivial⟩ ?_
      exact pw_ret hT rfl (r := some (pvI (M.1 0 1))) (M' := M) ⟨rfl, rfl⟩ ⟨(by rw [if_neg c1_, if_pos c4_]; first | done | (rw [if_pos c4_]; done)), rfl⟩
    · refine And.intro (fun c7_ => ?_) (fun c7_ => ?_)
      · show PW 172 d (57, [some (pvR 0), some (pvI n1)], [], M) _
        have b8_ : 2 ≤ Int32.toInt n1 ∧ Int32.toInt n1 ≤ 2 := (by have u0 := (zbnd n1); have u1 := (zi_eq _ _).mp c7_; have u2 := (show 2 ≤ Int32.toInt 2 ∧ Int32.toInt 2 ≤ 2 from (by decide)); omega)
        have b9_ : 0 ≤ Int32.toInt (M.1 100 0) ∧ Int32.toInt (M.1 100 0) ≤ 7 := pvok_r hok 100 0 rfl
        refine pw_blk hT 4 (S' := (67, [some (pvR 0), some (pvI n1)], [pvI (M.1 100 0)], M)) rfl ⟨trivial, rfl, rfl, rfl, trivial⟩ ?_
        exact pw_ret hT rfl (r := some (pvI (M.1 100 0))) (M' := M) ⟨rfl, rfl⟩ ⟨(by rw [if_neg c1_, if_neg c4_, if_pos c7_]; first | done | (rw [if_pos c7_]; done)), rfl⟩
      · refine And.intro (fun c10_ => ?_) (fun c10_ => ?_)
        · show PW 172 d (68, [some (pvR 0), some (pvI n1)], [], M) _
          have b11_ : 3 ≤ Int32.toInt n1 ∧ Int32.toInt n1 ≤ 3 := (by have u0 := (zbnd n1); have u1 := (zi_eq _ _).mp c10_; have u2 := (show 3 ≤ Int32.toInt 3 ∧ Int32.toInt 3 ≤ 3 from (by decide)); omega)
          have b12_ : 0 ≤ Int32.toInt (M.1 102 0) ∧ Int32.toInt (M.1 102 0) ≤ 6 := pvok_r hok 102 0 rfl
          refine pw_blk hT 4 (S' := (78, [some (pvR 0), some (pvI n1)], [pvI (M.1 102 0)], M)) rfl ⟨trivial, rfl, rfl, rfl, trivial⟩ ?_
          exact pw_ret hT rfl (r := some (pvI (M.1 102 0))) (M' := M) ⟨rfl, rfl⟩ ⟨(by rw [if_neg c1_, if_neg c4_, if_neg c7_, if_pos c10_]; first | done | (rw [if_pos c10_]; done)), rfl⟩
        · refine And.intro (fun c13_ => ?_) (fun c13_ => ?_)
          · show PW 172 d (79, [some (pvR 0), some (pvI n1)], [], M) _
            have b14_ : 4 ≤ Int32.toInt n1 ∧ Int32.toInt n1 ≤ 4 := (by have u0 := (zbnd n1); have u1 := (zi_eq _ _).mp c13_; have u2 := (show 4 ≤ Int32.toInt 4 ∧ Int32.toInt 4 ≤ 4 from (by decide)); omega)
            have b15_ : 0 ≤ Int32.toInt (M.1 104 0) ∧ Int32.toInt (M.1 104 0) ≤ 8 := pvok_r hok 104 0 rfl
            refine pw_blk hT 4 (S' := (89, [some (pvR 0), some (pvI n1)], [pvI (M.1 104 0)], M)) rfl ⟨trivial, rfl, rfl, rfl, trivial⟩ ?_
            exact pw_ret hT rfl (r := some (pvI (M.1 104 0))) (M' := M) ⟨rfl, rfl⟩ ⟨(by rw [if_neg c1_, if_neg c4_, if_neg c7_, if_neg c10_, if_pos c13_]; first | done | (rw [if_pos c13_]; done)), rfl⟩
          · refine And.intro (fun c16_ => ?_) (fun c16_ => ?_)
            · show PW 172 d (90, [some (pvR 0), some (pvI n1)], [], M) _
              have b17_ : 5 ≤ Int32.toInt n1 ∧ Int32.toInt n1 ≤ 5 := (by have u0 := (zbnd n1); have u1 := (zi_eq _ _).mp c16_; have u2 := (show 5 ≤ Int32.toInt 5 ∧ Int32.toInt 5 ≤ 5 from (by decide)); omega)
              have b18_ : 0 ≤ Int32.toInt (M.1 6 1) ∧ Int32.toInt (M.1 6 1) ≤ 100 := pvok_r hok 6 1 rfl
              refine pw_blk hT 3 (S' := (97, [some (pvR 0), some (pvI n1)], [pvI (M.1 6 1)], M)) rfl ⟨trivial, rfl, rfl, trivial⟩ ?_
              exact pw_ret hT rfl (r := some (pvI (M.1 6 1))) (M' := M) ⟨rfl, rfl⟩ ⟨(by rw [if_neg c1_, if_neg c4_, if_neg c7_, if_neg c10_, if_neg c13_, if_pos c16_]; first | done | (rw [if_pos c16_]; done)), rfl⟩
            · refine And.intro (fun c19_ => ?_) (fun c19_ => ?_)
              · show PW 172 d (98, [some (pvR 0), some (pvI n1)], [], M) _
                have b20_ : 6 ≤ Int32.toInt n1 ∧ Int32.toInt n1 ≤ 6 := (by have u0 := (zbnd n1); have u1 := (zi_eq _ _).mp c19_; have u2 := (show 6 ≤ Int32.toInt 6 ∧ Int32.toInt 6 ≤ 6 from (by decide)); omega)
                have b21_ : 0 ≤ Int32.toInt (M.1 3 1) ∧ Int32.toInt (M.1 3 1) ≤ 1000000 := pvok_r hok 3 1 rfl
                refine pw_blk hT 3 (S' := (105, [some (pvR 0), some (pvI n1)], [pvI (M.1 3 1)], M)) rfl ⟨trivial, rfl, rfl, trivial⟩ ?_
                exact pw_ret hT rfl (r := some (pvI (M.1 3 1))) (M' := M) ⟨rfl, rfl⟩ ⟨(by rw [if_neg c1_, if_neg c4_, if_neg c7_, if_neg c10_, if_neg c13_, if_neg c16_, if_pos c19_]; first | done | (rw [if_pos c19_]; done)), rfl⟩
              · show PW 172 d (106, [some (pvR 0), some (pvI n1)], [], M) _
                refine pw_blk hT 1 (S' := (108, [some (pvR 0), some (pvI n1)], [pvI (-2)], M)) rfl ⟨trivial, trivial⟩ ?_
                exact pw_ret hT rfl (r := some (pvI (-2))) (M' := M) ⟨rfl, rfl⟩ ⟨(by rw [if_neg c1_, if_neg c4_, if_neg c7_, if_neg c10_, if_neg c13_, if_neg c16_, if_neg c19_]; first | done | (rw [if_neg c19_]; done)), rfl⟩
def fpL_eX9_feed_0_x : List (Nat × Nat × Nat) := [(0, 6, 2), (0, 7, 0)]
def fp_eX9_feed_0_x (q k : Nat) : Bool := pvfp fpL_eX9_feed_0_x q k
set_option maxHeartbeats 4000000 in
set_option maxRecDepth 10000 in
theorem se_X9_feed_0_x (M : pvM) (hok : pvOk M) (n1 : Int32) (d : Nat) : PW 173 d (0, [some (pvR 0), some (pvI n1)], [], M) (fun r X => (∃ x : Int32, r = some (pvI x) ∧ (-4) ≤ Int32.toInt x ∧ Int32.toInt x ≤ 100) ∧ pvOk X ∧ pvFr fp_eX9_feed_0_x M X ∧ zFd 0 1 6 1 7 n1 r M X) := by
  have hT : pvdom 173 = pvD_173 := rfl
  refine pw_blk hT 3 (S' := (4, [some (pvR 0), some (pvI n1)], [pvI 127, pvI 0, pvI n1], M)) rfl ⟨trivial, trivial, trivial, trivial⟩ ?_
  refine pw_callT hT (as := [pvI n1, pvI 0, pvI 127]) (lo1 := [some (pvI n1), some (pvI 0), some (pvI 127)]) (d1 := d) (rest := []) rfl rfl rfl rfl rfl (fun h => absurd h (by decide)) (Nat.zero_le _) rfl rfl rfl (sf_X9_within_x_x_x M hok n1 0 127 d) ?_
  by_cases c6_ : n1 < 0
  · refine pw_eqI (if_pos c6_) ?_
    have b7_ : (-2147483648) ≤ Int32.toInt n1 ∧ Int32.toInt n1 ≤ (-1) := zr_lt_l (-1) c6_ (zbnd n1) (show 0 ≤ Int32.toInt 0 ∧ Int32.toInt 0 ≤ 0 from (by decide)) (by decide)
    show PW 173 d (7, [some (pvR 0), some (pvI n1)], [pvI 0], M) _
    refine pw_ifn hT (c := 0 = 0) rfl rfl (fun c8_ => absurd (by decide) c8_) (fun c8_ => ?_)
    refine pw_blk hT 1 (S' := (12, [some (pvR 0), some (pvI n1)], [pvI (-2)], M)) rfl ⟨trivial, trivial⟩ ?_
    exact pw_ret hT rfl (r := some (pvI (-2))) (M' := M) ⟨rfl, rfl⟩ ⟨⟨_, rfl, (zr_wide (show (-2) ≤ Int32.toInt (-2) ∧ Int32.toInt (-2) ≤ (-2) from (by decide)) (by decide) (by decide))⟩, hok, pvfr_0, (Or.inl ⟨Or.inl c6_, rfl, zKx_r 0 1 6 1 7 M⟩)⟩
  · refine pw_eqI (if_neg c6_) ?_
    have b9_ : 0 ≤ Int32.toInt n1 ∧ Int32.toInt n1 ≤ 2147483647 := zr_nlt_l 0 c6_ (zbnd n1) (show 0 ≤ Int32.toInt 0 ∧ Int32.toInt 0 ≤ 0 from (by decide)) (by decide)
    by_cases c10_ : 127 < n1
    · refine pw_eqI (if_pos c10_) ?_
      have b11_ : 128 ≤ Int32.toInt n1 ∧ Int32.toInt n1 ≤ 2147483647 := zr_lt_r 128 c10_ b9_ (show 127 ≤ Int32.toInt 127 ∧ Int32.toInt 127 ≤ 127 from (by decide)) (by decide)
      show PW 173 d (7, [some (pvR 0), some (pvI n1)], [pvI 0], M) _
      refine pw_ifn hT (c := 0 = 0) rfl rfl (fun c12_ => absurd (by decide) c12_) (fun c12_ => ?_)
      refine pw_blk hT 1 (S' := (12, [some (pvR 0), some (pvI n1)], [pvI (-2)], M)) rfl ⟨trivial, trivial⟩ ?_
      exact pw_ret hT rfl (r := some (pvI (-2))) (M' := M) ⟨rfl, rfl⟩ ⟨⟨_, rfl, (zr_wide (show (-2) ≤ Int32.toInt (-2) ∧ Int32.toInt (-2) ≤ (-2) from (by decide)) (by decide) (by decide))⟩, hok, pvfr_0, (Or.inl ⟨Or.inr c10_, rfl, zKx_r 0 1 6 1 7 M⟩)⟩
    · refine pw_eqI (if_neg c10_) ?_
      have b13_ : 0 ≤ Int32.toInt n1 ∧ Int32.toInt n1 ≤ 127 := zr_nlt_r 127 c10_ b9_ (show 127 ≤ Int32.toInt 127 ∧ Int32.toInt 127 ≤ 127 from (by decide)) (by decide)
      show PW 173 d (7, [some (pvR 0), some (pvI n1)], [pvI 1], M) _
      refine pw_ifn hT (c := 1 = 0) rfl rfl (fun c14_ => ?_) (fun c14_ => absurd c14_ (by decide))
      have b15_ : 0 ≤ Int32.toInt (M.1 6 1) ∧ Int32.toInt (M.1 6 1) ≤ 100 := pvok_r hok 6 1 rfl
      refine pw_blk hT 4 (S' := (22, [some (pvR 0), some (pvI n1)], [pvI 100, pvI (M.1 6 1)], M)) rfl ⟨trivial, rfl, rfl, trivial, trivial⟩ ?_
      refine pw_ic hT (c := (M.1 6 1) < 100) rfl rfl (fun c16_ => ?_) (fun c16_ => ?_)
      · have b17_ : 0 ≤ Int32.toInt (M.1 6 1) ∧ Int32.toInt (M.1 6 1) ≤ 99 := zr_lt_l 99 c16_ b15_ (show 100 ≤ Int32.toInt 100 ∧ Int32.toInt 100 ≤ 100 from (by decide)) (by decide)
        refine pw_blkw hT 8 (pc := 44) (lo := [some (pvR 0), some (pvI n1)]) (st := []) (M := pvu M 7 (Int32.toNatClampNeg (M.1 6 1)) n1) rfl ⟨trivial, rfl, rfl, trivial, rfl, rfl, trivial, ⟨rfl, (zr_in (n := 100) b17_ (by decide) (by decide))⟩, trivial⟩ (fun M18_ e19_ => ?_)
        have o20_ : pvOk M18_ := pvok_u2 e19_ hok rfl b13_
        have f21_ : pvFr fp_eX9_feed_0_x M M18_ := pvfr_u e19_ pvfr_0 rfl
        have e22_ : (M18_.1 6 1) = (M.1 6 1) := (pvu_n e19_ 6 1 (Or.inl (by decide)))
        have b23_ : 0 ≤ Int32.toInt (M18_.1 6 1) ∧ Int32.toInt (M18_.1 6 1) ≤ 99 := (by rw [e22_]; exact b17_)
        obtain ⟨q25_, b24_⟩ : (Int32.toInt ((M18_.1 6 1) + 1) = Int32.toInt (M18_.1 6 1) + 1) ∧ (1 ≤ Int32.toInt ((M18_.1 6 1) + 1) ∧ Int32.toInt ((M18_.1 6 1) + 1) ≤ 100) := zadd_k (M18_.1 6 1) 1 1 1 100 b23_ (by decide) (by decide) (by decide) (by decide) (by decide)
        refine pw_blkw hT 7 (pc := 57) (lo := [some (pvR 0), some (pvI n1)]) (st := []) (M := pvu M18_ 6 1 ((M18_.1 6 1) + 1)) rfl ⟨trivial, rfl, trivial, rfl, trivial, trivial, rfl, trivial⟩ (fun M26_ e27_ => ?_)
        have o28_ : pvOk M26_ := pvok_u2 e27_ o20_ rfl (zr_wide b24_ (by decide) (by decide))
        have f29_ : pvFr fp_eX9_feed_0_x M M26_ := pvfr_u e27_ f21_ rfl
        have e30_ : (M26_.1 6 1) = ((M18_.1 6 1) + 1) := (pvu_s e27_)
        have b31_ : 1 ≤ Int32.toInt (M26_.1 6 1) ∧ Int32.toInt (M26_.1 6 1) ≤ 100 := (by rw [e30_]; exact b24_)
        refine pw_blk hT 3 (S' := (64, [some (pvR 0), some (pvI n1)], [pvI (M26_.1 6 1)], M26_)) rfl ⟨trivial, rfl, rfl, trivial⟩ ?_
        exact pw_ret hT rfl (r := some (pvI (M26_.1 6 1))) (M' := M26_) ⟨rfl, rfl⟩ ⟨⟨_, rfl, (zr_wide b31_ (by decide) (by decide))⟩, o28_, f29_, (zFd_u (fun z => z.elim c6_ c10_) (by have u := b17_; omega) (by decide) (by decide) (Or.inl (by decide)) e19_ e27_)⟩
      · have b32_ : 100 ≤ Int32.toInt (M.1 6 1) ∧ Int32.toInt (M.1 6 1) ≤ 100 := zr_nlt_l 100 c16_ b15_ (show 100 ≤ Int32.toInt 100 ∧ Int32.toInt 100 ≤ 100 from (by decide)) (by decide)
        refine pw_blk hT 1 (S' := (27, [some (pvR 0), some (pvI n1)], [pvI (-4)], M)) rfl ⟨trivial, trivial⟩ ?_
        exact pw_ret hT rfl (r := some (pvI (-4))) (M' := M) ⟨rfl, rfl⟩ ⟨⟨_, rfl, (zr_wide (show (-4) ≤ Int32.toInt (-4) ∧ Int32.toInt (-4) ≤ (-4) from (by decide)) (by decide) (by decide))⟩, hok, pvfr_0, (Or.inr (Or.inl ⟨(fun z => z.elim c6_ c10_), (by have u := b32_; omega), rfl, zKx_r 0 1 6 1 7 M⟩))⟩
def fpL_eX2_becomeBare_x : List (Nat × Nat × Nat) := [(1, 2, 1), (1, 2, 2), (1, 2, 3), (1, 2, 6)]
def fp_eX2_becomeBare_x (q k : Nat) : Bool := pvfp fpL_eX2_becomeBare_x q k
set_option maxHeartbeats 4000000 in
set_option maxRecDepth 10000 in
theorem se_X2_becomeBare_x (M : pvM) (hok : pvOk M) (q0 : Nat) (hq0 : pvkl q0 = 2) (d : Nat) : PW 125 d (0, [some (pvR q0)], [], M) (fun r X => r = none ∧ pvOk X ∧ pvFr fp_eX2_becomeBare_x M X ∧ X = zpB M q0) := by
  have hT : pvdom 125 = pvD_125 := rfl
  refine pw_blkw hT 3 (pc := 5) (lo := [some (pvR q0)]) (st := []) (M := pvu M q0 0 2) rfl ⟨trivial, trivial, hq0, trivial⟩ (fun M1_ e2_ => ?_)
  have o3_ : pvOk M1_ := pvok_u2 e2_ hok ((pvrg_o 0 hq0 (by decide) (by decide)).trans rfl) (zr_wide (show 2 ≤ Int32.toInt 2 ∧ Int32.toInt 2 ≤ 2 from (by decide)) (by decide) (by decide))
  have f4_ : pvFr fp_eX2_becomeBare_x M M1_ := pvfr_u e2_ pvfr_0 (pvfp_r (l := fpL_eX2_becomeBare_x) (pvowr_2 hq0) (kk := 1) (by decide) (Or.inr rfl))
  refine pw_blkw hT 3 (pc := 11) (lo := [some (pvR q0)]) (st := []) (M := pvu M1_ q0 1 15) rfl ⟨trivial, trivial, hq0, trivial⟩ (fun M5_ e6_ => ?_)
  have o7_ : pvOk M5_ := pvok_u2 e6_ o3_ ((pvrg_o 1 hq0 (by decide) (by decide)).trans rfl) (zr_wide (show 15 ≤ Int32.toInt 15 ∧ Int32.toInt 15 ≤ 15 from (by decide)) (by decide) (by decide))
  have f8_ : pvFr fp_eX2_becomeBare_x M M5_ := pvfr_u e6_ f4_ (pvfp_r (l := fpL_eX2_becomeBare_x) (pvowr_2 hq0) (kk := 2) (by decide) (Or.inr rfl))
  refine pw_blkw hT 3 (pc := 16) (lo := [some (pvR q0)]) (st := []) (M := pvu M5_ q0 2 0) rfl ⟨trivial, trivial, hq0, trivial⟩ (fun M9_ e10_ => ?_)
  have o11_ : pvOk M9_ := pvok_u2 e10_ o7_ ((pvrg_o 2 hq0 (by decide) (by decide)).trans rfl) (zr_wide (show 0 ≤ Int32.toInt 0 ∧ Int32.toInt 0 ≤ 0 from (by decide)) (by decide) (by decide))
  have f12_ : pvFr fp_eX2_becomeBare_x M M9_ := pvfr_u e10_ f8_ (pvfp_r (l := fpL_eX2_becomeBare_x) (pvowr_2 hq0) (kk := 3) (by decide) (Or.inr rfl))
  refine pw_blkw hT 3 (pc := 21) (lo := [some (pvR q0)]) (st := []) (M := pvu M9_ q0 5 0) rfl ⟨trivial, trivial, hq0, trivial⟩ (fun M13_ e14_ => ?_)
  have o15_ : pvOk M13_ := pvok_u2 e14_ o11_ ((pvrg_o 5 hq0 (by decide) (by decide)).trans rfl) (zr_wide (show 0 ≤ Int32.toInt 0 ∧ Int32.toInt 0 ≤ 0 from (by decide)) (by decide) (by decide))
  have f16_ : pvFr fp_eX2_becomeBare_x M M13_ := pvfr_u e14_ f12_ (pvfp_r (l := fpL_eX2_becomeBare_x) (pvowr_2 hq0) (kk := 6) (by decide) (Or.inr rfl))
  exact pw_ret hT rfl (r := none) (M' := M13_) ⟨rfl, rfl⟩ ⟨rfl, o15_, f16_, (by rw [e14_, e10_, e6_, e2_]; rfl)⟩
def fpL_eX5_goOn_6 : List (Nat × Nat × Nat) := [(0, 6, 3), (0, 6, 4)]
def fp_eX5_goOn_6 (q k : Nat) : Bool := pvfp fpL_eX5_goOn_6 q k
set_option maxHeartbeats 4000000 in
set_option maxRecDepth 10000 in
theorem se_X5_goOn_6 (M : pvM) (hok : pvOk M) (hc6_2 : (-1) ≤ Int32.toInt (M.1 6 2) ∧ Int32.toInt (M.1 6 2) ≤ 99) (d : Nat) : PW 139 d (0, [some (pvR 6)], [], M) (fun r X => r = none ∧ pvOk X ∧ pvFr fp_eX5_goOn_6 M X ∧ ((Int32.toInt (X.1 6 3) ≤ -1 ∨ Int32.toInt (X.1 6 2) ≤ 99)) ∧ zGo M X) := by
  have hT : pvdom 139 = pvD_139 := rfl
  have b1_ : (-1) ≤ Int32.toInt (M.1 6 3) ∧ Int32.toInt (M.1 6 3) ≤ 127 := pvok_r hok 6 3 rfl
  obtain ⟨q3_, b2_⟩ : (Int32.toInt ((M.1 6 2) + 1) = Int32.toInt (M.1 6 2) + 1) ∧ (0 ≤ Int32.toInt ((M.1 6 2) + 1) ∧ Int32.toInt ((M.1 6 2) + 1) ≤ 100) := zadd_k (M.1 6 2) 1 1 0 100 hc6_2 (by decide) (by decide) (by decide) (by decide) (by decide)
  refine pw_blkw hT 6 (pc := 10) (lo := [some (pvR 6)]) (st := []) (M := pvu M 6 2 ((M.1 6 2) + 1)) rfl ⟨trivial, trivial, rfl, trivial, trivial, rfl, trivial⟩ (fun M4_ e5_ => ?_)
  have o6_ : pvOk M4_ := pvok_u2 e5_ hok rfl (zr_wide b2_ (by decide) (by decide))
  have f7_ : pvFr fp_eX5_goOn_6 M M4_ := pvfr_u e5_ pvfr_0 rfl
  have e8_ : (M4_.1 6 2) = ((M.1 6 2) + 1) := (pvu_s e5_)
  have b9_ : 0 ≤ Int32.toInt (M4_.1 6 2) ∧ Int32.toInt (M4_.1 6 2) ≤ 100 := (by rw [e8_]; exact b2_)
  have d10_ : Int32.toInt (M4_.1 6 2) = Int32.toInt ((M.1 6 2) + 1) := congrArg Int32.toInt e8_
  refine pw_blk hT 3 (S' := (15, [some (pvR 6)], [pvI (M4_.1 6 2), pvR 6], M4_)) rfl ⟨trivial, trivial, rfl, trivial⟩ ?_
  refine pw_if hT (c := (M4_.1 6 2) < 0) rfl rfl (fun c11_ => absurd c11_ (by have z0 := b9_; have z1 := (show 0 ≤ Int32.toInt 0 ∧ Int32.toInt 0 ≤ 0 from (by decide)); rw [zi_lt]; omega)) (fun c11_ => ?_)
  have b12_ : 0 ≤ Int32.toInt (M4_.1 6 1) ∧ Int32.toInt (M4_.1 6 1) ≤ 100 := pvok_r o6_ 6 1 rfl
  refine pw_blk hT 4 (S' := (26, [some (pvR 6)], [pvI (M4_.1 6 1), pvI (M4_.1 6 2), pvR 6], M4_)) rfl ⟨trivial, rfl, trivial, rfl, trivial⟩ ?_
  refine pw_ic hT (c := (M4_.1 6 1) ≤ (M4_.1 6 2)) rfl rfl (fun c13_ => ?_) (fun c13_ => ?_)
  · have d14_ : Int32.toInt (M4_.1 6 1) ≤ Int32.toInt (M4_.1 6 2) := (zi_le _ _).mp c13_
    refine pw_blkw hT 2 (pc := 54) (lo := [some (pvR 6)]) (st := []) (M := pvu M4_ 6 3 (-1)) rfl ⟨trivial, rfl, trivial⟩ (fun M15_ e16_ => ?_)
    have o17_ : pvOk M15_ := pvok_u2 e16_ o6_ rfl (zr_wide (show (-1) ≤ Int32.toInt (-1) ∧ Int32.toInt (-1) ≤ (-1) from (by decide)) (by decide) (by decide))
    have f18_ : pvFr fp_eX5_goOn_6 M M15_ := pvfr_u e16_ f7_ rfl
    have e19_ : (M15_.1 6 2) = (M4_.1 6 2) := (pvu_n e16_ 6 2 (Or.inr (by decide)))
    have b20_ : 0 ≤ Int32.toInt (M15_.1 6 2) ∧ Int32.toInt (M15_.1 6 2) ≤ 100 := (by rw [e19_]; exact b9_)
    have d21_ : Int32.toInt (M15_.1 6 2) = Int32.toInt (M4_.1 6 2) := congrArg Int32.toInt e19_
    have e22_ : (M15_.1 6 3) = (-1) := (pvu_s e16_)
    have b23_ : (-1) ≤ Int32.toInt (M15_.1 6 3) ∧ Int32.toInt (M15_.1 6 3) ≤ (-1) := (by rw [e22_]; exact (show (-1) ≤ Int32.toInt (-1) ∧ Int32.toInt (-1) ≤ (-1) from (by decide)))
    have u24_ : Int32.toInt (-1) = (-1) := by decide
    have d25_ : Int32.toInt (M15_.1 6 3) = Int32.toInt (-1) := congrArg Int32.toInt e22_
    exact pw_ret hT rfl (r := none) (M' := M15_) ⟨rfl, rfl⟩ ⟨rfl, o17_, f18_, (by omega), (zGo_e hc6_2 e5_ c13_ e16_)⟩
  · have b26_ : 1 ≤ Int32.toInt (M4_.1 6 1) ∧ Int32.toInt (M4_.1 6 1) ≤ 100 := zr_nle_l 1 c13_ b12_ b9_ (by decide)
    have b27_ : 0 ≤ Int32.toInt (M4_.1 6 2) ∧ Int32.toInt (M4_.1 6 2) ≤ 99 := zr_nle_r 99 c13_ b9_ b26_ (by decide)
    have d28_ : Int32.toInt (M4_.1 6 1) > Int32.toInt (M4_.1 6 2) := Int.not_le.mp ((not_congr (zi_le _ _)).mp c13_)
    refine pw_blk hT 3 (S' := (35, [some (pvR 6)], [pvI 100, pvI (M4_.1 6 2), pvR 6], M4_)) rfl ⟨trivial, rfl, trivial, trivial⟩ ?_
    refine pw_ic hT (c := 100 ≤ (M4_.1 6 2)) rfl rfl (fun c29_ => absurd c29_ (by have z0 := (show 100 ≤ Int32.toInt 100 ∧ Int32.toInt 100 ≤ 100 from (by decide)); have z1 := b27_; rw [zi_le]; omega)) (fun c29_ => ?_)
    have b30_ : 0 ≤ Int32.toInt (M4_.1 7 (Int32.toNatClampNeg (M4_.1 6 2))) ∧ Int32.toInt (M4_.1 7 (Int32.toNatClampNeg (M4_.1 6 2))) ≤ 127 := pvok_r o6_ 7 (Int32.toNatClampNeg (M4_.1 6 2)) rfl
    refine pw_blkw hT 7 (pc := 54) (lo := [some (pvR 6)]) (st := []) (M := pvu M4_ 6 3 (M4_.1 7 (Int32.toNatClampNeg (M4_.1 6 2)))) rfl ⟨trivial, rfl, trivial, rfl, ⟨rfl, (zr_in (n := 100) b27_ (by decide) (by decide))⟩, trivial, rfl, trivial⟩ (fun M31_ e32_ => ?_)
    have o33_ : pvOk M31_ := pvok_u2 e32_ o6_ rfl (zr_wide b30_ (by decide) (by decide))
    have f34_ : pvFr fp_eX5_goOn_6 M M31_ := pvfr_u e32_ f7_ rfl
    have e35_ : (M31_.1 6 2) = (M4_.1 6 2) := (pvu_n e32_ 6 2 (Or.inr (by decide)))
    have b36_ : 0 ≤ Int32.toInt (M31_.1 6 2) ∧ Int32.toInt (M31_.1 6 2) ≤ 99 := (by rw [e35_]; exact b27_)
    have d37_ : Int32.toInt (M31_.1 6 2) = Int32.toInt (M4_.1 6 2) := congrArg Int32.toInt e35_
    have e38_ : (M31_.1 6 3) = (M4_.1 7 (Int32.toNatClampNeg (M4_.1 6 2))) := (pvu_s e32_)
    have b39_ : 0 ≤ Int32.toInt (M31_.1 6 3) ∧ Int32.toInt (M31_.1 6 3) ≤ 127 := (by rw [e38_]; exact b30_)
    have d40_ : Int32.toInt (M31_.1 6 3) = Int32.toInt (M4_.1 7 (Int32.toNatClampNeg (M4_.1 6 2))) := congrArg Int32.toInt e38_
    exact pw_ret hT rfl (r := none) (M' := M31_) ⟨rfl, rfl⟩ ⟨rfl, o33_, f34_, (by omega), (zGo_t hc6_2 e5_ c13_ e32_)⟩
set_option maxHeartbeats 4000000 in
set_option maxRecDepth 10000 in
theorem se_X5_wordFrom_x (M : pvM) (hok : pvOk M) (n0 : Int32) (d : Nat) : PW 150 d (0, [some (pvI n0)], [], M) (fun r X => (∃ q : Nat, r = some (pvR q) ∧ q = (zwf n0)) ∧ X = M) := by
  have hT : pvdom 150 = pvD_150 := rfl
  refine pw_blk hT 1 (S' := (1, [some (pvI n0)], [pvI n0], M)) rfl ⟨trivial, trivial⟩ ?_
  refine pw_sw hT rfl rfl ?_
  refine And.intro (fun c1_ => ?_) (fun c1_ => ?_)
  · show PW 150 d (47, [some (pvI n0)], [], M) _
    have b2_ : 100 ≤ Int32.toInt n0 ∧ Int32.toInt n0 ≤ 100 := (by have u0 := (zbnd n0); have u1 := (zi_eq _ _).mp c1_; have u2 := (show 100 ≤ Int32.toInt 100 ∧ Int32.toInt 100 ≤ 100 from (by decide)); omega)
    refine pw_blk hT 1 (S' := (49, [some (pvI n0)], [pvR 1011], M)) rfl ⟨(by decide), trivial⟩ ?_
    exact pw_ret hT rfl (r := some (pvR 1011)) (M' := M) ⟨rfl, rfl⟩ ⟨⟨_, rfl, (by unfold zwf; rw [if_pos c1_])⟩, rfl⟩
  · refine And.intro (fun c3_ => ?_) (fun c3_ => ?_)
    · show PW 150 d (53, [some (pvI n0)], [], M) _
      have b4_ : 108 ≤ Int32.toInt n0 ∧ Int32.toInt n0 ≤ 108 := (by have u0 := (zbnd n0); have u1 := (zi_eq _ _).mp c3_; have u2 := (show 108 ≤ Int32.toInt 108 ∧ Int32.toInt 108 ≤ 108 from (by decide)); omega)
      refine pw_blk hT 1 (S' := (55, [some (pvI n0)], [pvR 1013], M)) rfl ⟨(by decide), trivial⟩ ?_
      exact pw_ret hT rfl (r := some (pvR 1013)) (M' := M) ⟨rfl, rfl⟩ ⟨⟨_, rfl, (by unfold zwf; rw [if_neg c1_, if_pos c3_])⟩, rfl⟩
    · refine And.intro (fun c5_ => ?_) (fun c5_ => ?_)
      · show PW 150 d (50, [some (pvI n0)], [], M) _
        have b6_ : 115 ≤ Int32.toInt n0 ∧ Int32.toInt n0 ≤ 115 := (by have u0 := (zbnd n0); have u1 := (zi_eq _ _).mp c5_; have u2 := (show 115 ≤ Int32.toInt 115 ∧ Int32.toInt 115 ≤ 115 from (by decide)); omega)
        refine pw_blk hT 1 (S' := (52, [some (pvI n0)], [pvR 1012], M)) rfl ⟨(by decide), trivial⟩ ?_
        exact pw_ret hT rfl (r := some (pvR 1012)) (M' := M) ⟨rfl, rfl⟩ ⟨⟨_, rfl, (by unfold zwf; rw [if_neg c1_, if_neg c3_, if_pos c5_])⟩, rfl⟩
      · refine And.intro (fun c7_ => ?_) (fun c7_ => ?_)
        · show PW 150 d (44, [some (pvI n0)], [], M) _
          have b8_ : 119 ≤ Int32.toInt n0 ∧ Int32.toInt n0 ≤ 119 := (by have u0 := (zbnd n0); have u1 := (zi_eq _ _).mp c7_; have u2 := (show 119 ≤ Int32.toInt 119 ∧ Int32.toInt 119 ≤ 119 from (by decide)); omega)
          refine pw_blk hT 1 (S' := (46, [some (pvI n0)], [pvR 1010], M)) rfl ⟨(by decide), trivial⟩ ?_
          exact pw_ret hT rfl (r := some (pvR 1010)) (M' := M) ⟨rfl, rfl⟩ ⟨⟨_, rfl, (by unfold zwf; rw [if_neg c1_, if_neg c3_, if_neg c5_, if_pos c7_])⟩, rfl⟩
        · show PW 150 d (56, [some (pvI n0)], [], M) _
          refine pw_blk hT 1 (S' := (58, [some (pvI n0)], [pvR 1014], M)) rfl ⟨(by decide), trivial⟩ ?_
          exact pw_ret hT rfl (r := some (pvR 1014)) (M' := M) ⟨rfl, rfl⟩ ⟨⟨_, rfl, (by unfold zwf; rw [if_neg c1_, if_neg c3_, if_neg c5_, if_neg c7_])⟩, rfl⟩
def fpL_eX5_readSign_6_x : List (Nat × Nat × Nat) := [(0, 6, 3), (0, 6, 4)]
def fp_eX5_readSign_6_x (q k : Nat) : Bool := pvfp fpL_eX5_readSign_6_x q k
theorem fp_eX5_readSign_6_x_fp_eX5_goOn_6 (a b : Nat) (h : fp_eX5_goOn_6 a b = true) : fp_eX5_readSign_6_x a b = true := pvfp_sub (l1 := fpL_eX5_goOn_6) (l2 := fpL_eX5_readSign_6_x) (by decide) a b h
set_option maxHeartbeats 4000000 in
set_option maxRecDepth 10000 in
theorem se_X5_readSign_6_x (M : pvM) (hok : pvOk M) (n1 : Int32) (hn1 : 0 ≤ Int32.toInt n1 ∧ Int32.toInt n1 ≤ 127) (hx0 : (Int32.toInt (M.1 6 3) ≤ -1 ∨ Int32.toInt (M.1 6 2) ≤ 99)) (hz : zRq M) (d : Nat) : PW 147 d (0, [some (pvR 6), some (pvI n1)], [], M) (fun r X => (∃ x : Int32, r = some (pvI x) ∧ 0 ≤ Int32.toInt x ∧ Int32.toInt x ≤ 1) ∧ pvOk X ∧ pvFr fp_eX5_readSign_6_x M X ∧ ((Int32.toInt (X.1 6 3) ≤ -1 ∨ Int32.toInt (X.1 6 2) ≤ 99)) ∧ zRb (zTsg n1) r M X) := by
  have hT : pvdom 147 = pvD_147 := rfl
  have b1_ : (-1) ≤ Int32.toInt (M.1 6 2) ∧ Int32.toInt (M.1 6 2) ≤ 100 := pvok_r hok 6 2 rfl
  have b2_ : (-1) ≤ Int32.toInt (M.1 6 3) ∧ Int32.toInt (M.1 6 3) ≤ 127 := pvok_r hok 6 3 rfl
  refine pw_blk hT 3 (S' := (5, [some (pvR 6), some (pvI n1)], [pvI n1, pvI (M.1 6 3)], M)) rfl ⟨trivial, rfl, trivial, trivial⟩ ?_
  refine pw_ic hT (c := (M.1 6 3) = n1) rfl rfl (fun c3_ => ?_) (fun c3_ => ?_)
  · have b4_ : 0 ≤ Int32.toInt (M.1 6 3) ∧ Int32.toInt (M.1 6 3) ≤ 127 := (by have u0 := b2_; have u1 := (zi_eq _ _).mp c3_; have u2 := hn1; omega)
    have d5_ : Int32.toInt (M.1 6 3) = Int32.toInt n1 := (zi_eq _ _).mp c3_
    refine pw_blk hT 1 (S' := (11, [some (pvR 6), some (pvI n1)], [pvR 6], M)) rfl ⟨trivial, trivial⟩ ?_
    refine pw_callVd hT (as := [pvR 6]) (lo1 := [some (pvR 6)]) (d1 := d) (rest := []) rfl rfl rfl rfl rfl (fun _ => rfl) (Nat.zero_le _) rfl rfl rfl (se_X5_goOn_6 M hok (by have u0 := b1_; omega) d) (fun M8_ o10_ g11_ d6_ => ?_)
    have f12_ : pvFr fp_eX5_readSign_6_x M M8_ := pvfr_t g11_ pvfr_0 fp_eX5_readSign_6_x_fp_eX5_goOn_6
    refine pw_blk hT 1 (S' := (15, [some (pvR 6), some (pvI n1)], [pvI 1], M8_)) rfl ⟨trivial, trivial⟩ ?_
    have b13_ : (-1) ≤ Int32.toInt (M8_.1 6 2) ∧ Int32.toInt (M8_.1 6 2) ≤ 100 := pvok_r o10_ 6 2 rfl
    have b14_ : (-1) ≤ Int32.toInt (M8_.1 6 3) ∧ Int32.toInt (M8_.1 6 3) ≤ 127 := pvok_r o10_ 6 3 rfl
    exact pw_ret hT rfl (r := some (pvI 1)) (M' := M8_) ⟨Or.inr rfl, rfl, rfl⟩ ⟨⟨_, rfl, (zr_wide (show 1 ≤ Int32.toInt 1 ∧ Int32.toInt 1 ≤ 1 from (by decide)) (by decide) (by decide))⟩, o10_, f12_, (by omega), (zRs_y hz c3_ d6_.2)⟩
  · refine pw_blk hT 1 (S' := (9, [some (pvR 6), some (pvI n1)], [pvI 0], M)) rfl ⟨trivial, trivial⟩ ?_
    exact pw_ret hT rfl (r := some (pvI 0)) (M' := M) ⟨Or.inl rfl, rfl, rfl⟩ ⟨⟨_, rfl, (zr_wide (show 0 ≤ Int32.toInt 0 ∧ Int32.toInt 0 ≤ 0 from (by decide)) (by decide) (by decide))⟩, hok, pvfr_0, (by omega), (zRs_n hz c3_)⟩
