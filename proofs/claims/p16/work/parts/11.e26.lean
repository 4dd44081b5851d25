def fpL_eX5_readAll_6_1 : List (Nat × Nat × Nat) := [(0, 6, 3), (0, 6, 4), (1, 111, 0), (1, 2, 6)]
def fp_eX5_readAll_6_1 (q k : Nat) : Bool := pvfp fpL_eX5_readAll_6_1 q k
theorem fp_eX5_readAll_6_1_fp_eX2_addStep_x_x (a b : Nat) (h : fp_eX2_addStep_x_x a b = true) : fp_eX5_readAll_6_1 a b = true := pvfp_sub (l1 := fpL_eX2_addStep_x_x) (l2 := fpL_eX5_readAll_6_1) (by decide) a b h
theorem fp_eX5_readAll_6_1_fp_eX5_readOne_6_1 (a b : Nat) (h : fp_eX5_readOne_6_1 a b = true) : fp_eX5_readAll_6_1 a b = true := pvfp_sub (l1 := fpL_eX5_readOne_6_1) (l2 := fpL_eX5_readAll_6_1) (by decide) a b h
theorem fp_eX5_readAll_6_1_fp_eX5_readSign_6_x (a b : Nat) (h : fp_eX5_readSign_6_x a b = true) : fp_eX5_readAll_6_1 a b = true := pvfp_sub (l1 := fpL_eX5_readSign_6_x) (l2 := fpL_eX5_readAll_6_1) (by decide) a b h
set_option maxHeartbeats 4000000 in
set_option maxRecDepth 10000 in
theorem se_X5_readAll_6_1 (M : pvM) (hok : pvOk M) (hx0 : (Int32.toInt (M.1 6 3) ≤ -1 ∨ Int32.toInt (M.1 6 2) ≤ 99)) (hs : zRs M) (d : Nat) (hd : 3 ≤ d) : PW 140 d (0, [some (pvR 6), some (pvI 1), none], [], M) (fun r X => (∃ x : Int32, r = some (pvI x) ∧ 0 ≤ Int32.toInt x ∧ Int32.toInt x ≤ 1) ∧ pvOk X ∧ pvFr fp_eX5_readAll_6_1 M X ∧ ((Int32.toInt (X.1 6 3) ≤ -1 ∨ Int32.toInt (X.1 6 2) ≤ 99)) ∧ zRc (zTT 1) r M X) := by
  have hT : pvdom 140 = pvD_140 := rfl
  have b1_ : (-1) ≤ Int32.toInt (M.1 6 2) ∧ Int32.toInt (M.1 6 2) ≤ 100 := pvok_r hok 6 2 rfl
  have b2_ : (-1) ≤ Int32.toInt (M.1 6 3) ∧ Int32.toInt (M.1 6 3) ≤ 127 := pvok_r hok 6 3 rfl
  refine pw_blk hT 2 (S' := (2, [some (pvR 6), some (pvI 1), some (pvI 0)], [], M)) rfl ⟨trivial, trivial, trivial⟩ ?_
  have hlz217_ : ∀ (nz217_ : Nat) (i2z217_ : Int32) (Mz217_ : pvM), (pvOk Mz217_) → (pvFr fp_eX5_readAll_6_1 M Mz217_) → (0 ≤ Int32.toInt i2z217_ ∧ Int32.toInt i2z217_ ≤ 100) → ((Int32.toInt (Mz217_.1 6 3) ≤ -1 ∨ Int32.toInt (Mz217_.1 6 2) ≤ 99)) → (zLT9 1 (Int32.toNatClampNeg i2z217_) M Mz217_) → (zhide ((101 - Int32.toInt i2z217_).toNat < nz217_)) → PW 140 d (2, [some (pvR 6), some (pvI 1), some (pvI i2z217_)], [], Mz217_) (fun r X => (∃ x : Int32, r = some (pvI x) ∧ 0 ≤ Int32.toInt x ∧ Int32.toInt x ≤ 1) ∧ pvOk X ∧ pvFr fp_eX5_readAll_6_1 M X ∧ ((Int32.toInt (X.1 6 3) ≤ -1 ∨ Int32.toInt (X.1 6 2) ≤ 99)) ∧ zRc (zTT 1) r M X) := by
    intro nz217_
    induction nz217_ with
    | zero => intro i2z217_ Mz217_ oz217_ fz217_ h2z217_ j0z217_ j1z217_ hmz217_; exact absurd (zshow hmz217_) (Nat.not_lt_zero _)
    | succ nz217_ ihz217_ =>
      intro i2z217_ Mz217_ oz217_ fz217_ h2z217_ j0z217_ j1z217_ hmz217_
      have b218_ : (-1) ≤ Int32.toInt (Mz217_.1 6 2) ∧ Int32.toInt (Mz217_.1 6 2) ≤ 100 := pvok_r oz217_ 6 2 rfl
      have b219_ : (-1) ≤ Int32.toInt (Mz217_.1 6 3) ∧ Int32.toInt (Mz217_.1 6 3) ≤ 127 := pvok_r oz217_ 6 3 rfl
      refine pw_blk hT 2 (S' := (5, [some (pvR 6), some (pvI 1), some (pvI i2z217_)], [pvI 100, pvI i2z217_], Mz217_)) rfl ⟨trivial, trivial, trivial⟩ ?_
      refine pw_ic hT (c := 100 ≤ i2z217_) rfl rfl (fun c220_ => ?_) (fun c220_ => ?_)
      · have b221_ : 100 ≤ Int32.toInt i2z217_ ∧ Int32.toInt i2z217_ ≤ 100 := zr_le_r 100 c220_ h2z217_ (show 100 ≤ Int32.toInt 100 ∧ Int32.toInt 100 ≤ 100 from (by decide)) (by decide)
        refine pw_blk hT 1 (S' := (49, [some (pvR 6), some (pvI 1), some (pvI i2z217_)], [pvI 0], Mz217_)) rfl ⟨trivial, trivial⟩ ?_
        exact pw_ret hT rfl (r := some (pvI 0)) (M' := Mz217_) ⟨Or.inl rfl, rfl, rfl⟩ ⟨⟨_, rfl, (zr_wide (show 0 ≤ Int32.toInt 0 ∧ Int32.toInt 0 ≤ 0 from (by decide)) (by decide) (by decide))⟩, oz217_, fz217_, (by omega), ((zLT9_x j1z217_ (show 100 ≤ (Int32.toInt i2z217_).toNat from by have u := b221_; omega)).elim)⟩
      · have b222_ : 0 ≤ Int32.toInt i2z217_ ∧ Int32.toInt i2z217_ ≤ 99 := zr_nle_r 99 c220_ h2z217_ (show 100 ≤ Int32.toInt 100 ∧ Int32.toInt 100 ≤ 100 from (by decide)) (by decide)
        refine pw_blk hT 2 (S' := (10, [some (pvR 6), some (pvI 1), some (pvI i2z217_)], [pvI 1, pvR 6], Mz217_)) rfl ⟨trivial, trivial, trivial⟩ ?_
        have u223_ : Int32.toInt 1 = 1 := by decide
        refine pw_callGd hT (as := [pvR 6, pvI 1]) (lo1 := [some (pvR 6), some (pvI 1), none, none]) (d1 := d) (rest := []) rfl rfl rfl rfl rfl (fun _ => rfl) (Nat.zero_le _) rfl rfl rfl (se_X5_readOne_6_1 Mz217_ oz217_ (show (Int32.toInt (Mz217_.1 6 3) ≤ -1 ∨ Int32.toInt (Mz217_.1 6 2) ≤ 99) from (by omega)) (zLT9_rs hs j1z217_) d (Nat.le_trans (by decide) hd)) (fun x225_ M226_ b227_ o228_ g229_ d224_ => ?_)
        have f230_ : pvFr fp_eX5_readAll_6_1 M M226_ := pvfr_t g229_ fz217_ fp_eX5_readAll_6_1_fp_eX5_readOne_6_1
        refine pw_ifn hT (c := x225_ = 0) rfl rfl (fun c231_ => ?_) (fun c231_ => ?_)
        · have b232_ : 1 ≤ Int32.toInt x225_ ∧ Int32.toInt x225_ ≤ 1 := (by have u0 := b227_; have u1 := (not_congr (zi_eq _ _)).mp c231_; have u2 := (show 0 ≤ Int32.toInt 0 ∧ Int32.toInt 0 ≤ 0 from (by decide)); omega)
          refine pw_blk hT 1 (S' := (19, [some (pvR 6), some (pvI 1), some (pvI i2z217_)], [pvI i2z217_], M226_)) rfl ⟨trivial, trivial⟩ ?_
          refine pw_if hT (c := i2z217_ ≤ 0) rfl rfl (fun c233_ => ?_) (fun c233_ => ?_)
          · have b234_ : 0 ≤ Int32.toInt i2z217_ ∧ Int32.toInt i2z217_ ≤ 0 := zr_le_l 0 c233_ b222_ (show 0 ≤ Int32.toInt 0 ∧ Int32.toInt 0 ≤ 0 from (by decide)) (by decide)
            refine pw_blk hT 2 (S' := (34, [some (pvR 6), some (pvI 1), some (pvI i2z217_)], [pvI 38, pvR 6], M226_)) rfl ⟨trivial, trivial, trivial⟩ ?_
            have u235_ : Int32.toInt 38 = 38 := by decide
            have b236_ : (-1) ≤ Int32.toInt (M226_.1 6 2) ∧ Int32.toInt (M226_.1 6 2) ≤ 100 := pvok_r o228_ 6 2 rfl
            have b237_ : (-1) ≤ Int32.toInt (M226_.1 6 3) ∧ Int32.toInt (M226_.1 6 3) ≤ 127 := pvok_r o228_ 6 3 rfl
            refine pw_callGd hT (as := [pvR 6, pvI 38]) (lo1 := [some (pvR 6), some (pvI 38)]) (d1 := d) (rest := []) rfl rfl rfl rfl rfl (fun _ => rfl) (Nat.zero_le _) rfl rfl rfl (se_X5_readSign_6_x M226_ o228_ 38 (zr_wide (show 38 ≤ Int32.toInt 38 ∧ Int32.toInt 38 ≤ 38 from (by decide)) (by decide) (by decide)) (show (Int32.toInt (M226_.1 6 3) ≤ -1 ∨ Int32.toInt (M226_.1 6 2) ≤ 99) from (by omega)) d224_.2.1 d) (fun x239_ M240_ b241_ o242_ g243_ d238_ => ?_)
            have f244_ : pvFr fp_eX5_readAll_6_1 M M240_ := pvfr_t g243_ f230_ fp_eX5_readAll_6_1_fp_eX5_readSign_6_x
            refine pw_ifn hT (c := x239_ = 0) rfl rfl (fun c245_ => ?_) (fun c245_ => ?_)
            · have b246_ : 1 ≤ Int32.toInt x239_ ∧ Int32.toInt x239_ ≤ 1 := (by have u0 := b241_; have u1 := (not_congr (zi_eq _ _)).mp c245_; have u2 := (show 0 ≤ Int32.toInt 0 ∧ Int32.toInt 0 ≤ 0 from (by decide)); omega)
              obtain ⟨q248_, b247_⟩ : (Int32.toInt (i2z217_ + 1) = Int32.toInt i2z217_ + 1) ∧ (1 ≤ Int32.toInt (i2z217_ + 1) ∧ Int32.toInt (i2z217_ + 1) ≤ 1) := zadd_k i2z217_ 1 1 1 1 b234_ (by decide) (by decide) (by decide) (by decide) (by decide)
              refine pw_blk hT 2 (S' := (2, [some (pvR 6), some (pvI 1), some (pvI (i2z217_ + 1))], [], M240_)) rfl ⟨trivial, trivial, trivial⟩ ?_
              have b249_ : (-1) ≤ Int32.toInt (M240_.1 6 2) ∧ Int32.toInt (M240_.1 6 2) ≤ 100 := pvok_r o242_ 6 2 rfl
              have b250_ : (-1) ≤ Int32.toInt (M240_.1 6 3) ∧ Int32.toInt (M240_.1 6 3) ≤ 127 := pvok_r o242_ 6 3 rfl
              have j251_ : (Int32.toInt (M240_.1 6 3) ≤ -1 ∨ Int32.toInt (M240_.1 6 2) ≤ 99) := by omega
              have j252_ : zLT9 1 (Int32.toNatClampNeg (i2z217_ + 1)) M M240_ := (zLT9_n (znp1 b234_ (by decide) (by decide)) (zT9_s hs (zT9_o hs j1z217_ d224_.2 c231_ (show (Int32.toInt i2z217_).toNat = 0 from by have u := b234_; omega)) d238_.2 c245_))
              exact ihz217_ (i2z217_ + 1) M240_ o242_ f244_ (zr_wide b247_ (by decide) (by decide)) j251_ j252_ (zhid (pvms_up (zshow hmz217_) h2z217_ q248_ (by decide) (by decide)))
            · have b253_ : 0 ≤ Int32.toInt x239_ ∧ Int32.toInt x239_ ≤ 0 := (by have u0 := b241_; have u1 := (zi_eq _ _).mp c245_; have u2 := (show 0 ≤ Int32.toInt 0 ∧ Int32.toInt 0 ≤ 0 from (by decide)); omega)
              refine pw_blk hT 1 (S' := (41, [some (pvR 6), some (pvI 1), some (pvI i2z217_)], [pvI 1], M240_)) rfl ⟨trivial, trivial⟩ ?_
              have b254_ : (-1) ≤ Int32.toInt (M240_.1 6 2) ∧ Int32.toInt (M240_.1 6 2) ≤ 100 := pvok_r o242_ 6 2 rfl
              have b255_ : (-1) ≤ Int32.toInt (M240_.1 6 3) ∧ Int32.toInt (M240_.1 6 3) ≤ 127 := pvok_r o242_ 6 3 rfl
              exact pw_ret hT rfl (r := some (pvI 1)) (M' := M240_) ⟨Or.inr rfl, rfl, rfl⟩ ⟨⟨_, rfl, (zr_wide (show 1 ≤ Int32.toInt 1 ∧ Int32.toInt 1 ≤ 1 from (by decide)) (by decide) (by decide))⟩, o242_, f244_, (by omega), (zT9_e hs (zT9_o hs j1z217_ d224_.2 c231_ (show (Int32.toInt i2z217_).toNat = 0 from by have u := b234_; omega)) d238_.2 c245_)⟩
          · have b256_ : 1 ≤ Int32.toInt i2z217_ ∧ Int32.toInt i2z217_ ≤ 99 := zr_nle_l 1 c233_ b222_ (show 0 ≤ Int32.toInt 0 ∧ Int32.toInt 0 ≤ 0 from (by decide)) (by decide)
            have b257_ : 15 ≤ Int32.toInt (M226_.1 6 4) ∧ Int32.toInt (M226_.1 6 4) ≤ 23 := pvok_r o228_ 6 4 rfl
            refine pw_blkr hT 2 (pc := 26) (lo := [some (pvR 6), some (pvI 1), some (pvI i2z217_)]) (st := []) (M := M226_) (z := (pvhp (M226_.1 6 4))) rfl ⟨trivial, rfl, trivial⟩ (fun q258_ e260_ => ?_)
            have k259_ : pvkl q258_ = 2 := pvhp_k b257_ e260_
            refine pw_blk hT 1 (S' := (28, [some (pvR 6), some (pvI 1), some (pvI i2z217_)], [pvI (-2), pvR q258_], M226_)) rfl ⟨trivial, trivial⟩ ?_
            refine pw_callVd hT (as := [pvR q258_, pvI (-2)]) (lo1 := [some (pvR q258_), some (pvI (-2))]) (d1 := d) (rest := []) rfl rfl rfl rfl rfl (fun _ => k259_) (Nat.zero_le _) rfl rfl rfl (se_X2_addStep_x_x M226_ o228_ q258_ (-2) k259_ (zr_wide (show (-2) ≤ Int32.toInt (-2) ∧ Int32.toInt (-2) ≤ (-2) from (by decide)) (by decide) (by decide)) d) (fun M263_ o265_ g266_ d261_ => ?_)
            have f267_ : pvFr fp_eX5_readAll_6_1 M M263_ := pvfr_t g266_ f230_ fp_eX5_readAll_6_1_fp_eX2_addStep_x_x
            refine pw_blk hT 2 (S' := (34, [some (pvR 6), some (pvI 1), some (pvI i2z217_)], [pvI 38, pvR 6], M263_)) rfl ⟨trivial, trivial, trivial⟩ ?_
            have u268_ : Int32.toInt 38 = 38 := by decide
            have e269_ : (M263_.1 6 2) = (M226_.1 6 2) := (g266_ 6 2 rfl)
            have b270_ : (-1) ≤ Int32.toInt (M263_.1 6 2) ∧ Int32.toInt (M263_.1 6 2) ≤ 100 := pvok_r o265_ 6 2 rfl
            have d271_ : Int32.toInt (M263_.1 6 2) = Int32.toInt (M226_.1 6 2) := congrArg Int32.toInt e269_
            have e272_ : (M263_.1 6 3) = (M226_.1 6 3) := (g266_ 6 3 rfl)
            have b273_ : (-1) ≤ Int32.toInt (M263_.1 6 3) ∧ Int32.toInt (M263_.1 6 3) ≤ 127 := pvok_r o265_ 6 3 rfl
            have d274_ : Int32.toInt (M263_.1 6 3) = Int32.toInt (M226_.1 6 3) := congrArg Int32.toInt e272_
            refine pw_callGd hT (as := [pvR 6, pvI 38]) (lo1 := [some (pvR 6), some (pvI 38)]) (d1 := d) (rest := []) rfl rfl rfl rfl rfl (fun _ => rfl) (Nat.zero_le _) rfl rfl rfl (se_X5_readSign_6_x M263_ o265_ 38 (zr_wide (show 38 ≤ Int32.toInt 38 ∧ Int32.toInt 38 ≤ 38 from (by decide)) (by decide) (by decide)) (show (Int32.toInt (M263_.1 6 3) ≤ -1 ∨ Int32.toInt (M263_.1 6 2) ≤ 99) from (by omega)) (zLO9_q (zT9_p hs j1z217_ d224_.2 c231_ (show 0 < (Int32.toInt i2z217_).toNat from by have u := b256_; omega) e260_ d261_)) d) (fun x276_ M277_ b278_ o279_ g280_ d275_ => ?_)
            have f281_ : pvFr fp_eX5_readAll_6_1 M M277_ := pvfr_t g280_ f267_ fp_eX5_readAll_6_1_fp_eX5_readSign_6_x
            refine pw_ifn hT (c := x276_ = 0) rfl rfl (fun c282_ => ?_) (fun c282_ => ?_)
            · have b283_ : 1 ≤ Int32.toInt x276_ ∧ Int32.toInt x276_ ≤ 1 := (by have u0 := b278_; have u1 := (not_congr (zi_eq _ _)).mp c282_; have u2 := (show 0 ≤ Int32.toInt 0 ∧ Int32.toInt 0 ≤ 0 from (by decide)); omega)
              obtain ⟨q285_, b284_⟩ : (Int32.toInt (i2z217_ + 1) = Int32.toInt i2z217_ + 1) ∧ (2 ≤ Int32.toInt (i2z217_ + 1) ∧ Int32.toInt (i2z217_ + 1) ≤ 100) := zadd_k i2z217_ 1 1 2 100 b256_ (by decide) (by decide) (by decide) (by decide) (by decide)
              refine pw_blk hT 2 (S' := (2, [some (pvR 6), some (pvI 1), some (pvI (i2z217_ + 1))], [], M277_)) rfl ⟨trivial, trivial, trivial⟩ ?_
              have b286_ : (-1) ≤ Int32.toInt (M277_.1 6 2) ∧ Int32.toInt (M277_.1 6 2) ≤ 100 := pvok_r o279_ 6 2 rfl
              have b287_ : (-1) ≤ Int32.toInt (M277_.1 6 3) ∧ Int32.toInt (M277_.1 6 3) ≤ 127 := pvok_r o279_ 6 3 rfl
              have j288_ : (Int32.toInt (M277_.1 6 3) ≤ -1 ∨ Int32.toInt (M277_.1 6 2) ≤ 99) := by omega
              have j289_ : zLT9 1 (Int32.toNatClampNeg (i2z217_ + 1)) M M277_ := (zLT9_n (znp1 b256_ (by decide) (by decide)) (zT9_s hs (zT9_p hs j1z217_ d224_.2 c231_ (show 0 < (Int32.toInt i2z217_).toNat from by have u := b256_; omega) e260_ d261_) d275_.2 c282_))
              exact ihz217_ (i2z217_ + 1) M277_ o279_ f281_ (zr_wide b284_ (by decide) (by decide)) j288_ j289_ (zhid (pvms_up (zshow hmz217_) h2z217_ q285_ (by decide) (by decide)))
            · have b290_ : 0 ≤ Int32.toInt x276_ ∧ Int32.toInt x276_ ≤ 0 := (by have u0 := b278_; have u1 := (zi_eq _ _).mp c282_; have u2 := (show 0 ≤ Int32.toInt 0 ∧ Int32.toInt 0 ≤ 0 from (by decide)); omega)
              refine pw_blk hT 1 (S' := (41, [some (pvR 6), some (pvI 1), some (pvI i2z217_)], [pvI 1], M277_)) rfl ⟨trivial, trivial⟩ ?_
              have b291_ : (-1) ≤ Int32.toInt (M277_.1 6 2) ∧ Int32.toInt (M277_.1 6 2) ≤ 100 := pvok_r o279_ 6 2 rfl
              have b292_ : (-1) ≤ Int32.toInt (M277_.1 6 3) ∧ Int32.toInt (M277_.1 6 3) ≤ 127 := pvok_r o279_ 6 3 rfl
              exact pw_ret hT rfl (r := some (pvI 1)) (M' := M277_) ⟨Or.inr rfl, rfl, rfl⟩ ⟨⟨_, rfl, (zr_wide (show 1 ≤ Int32.toInt 1 ∧ Int32.toInt 1 ≤ 1 from (by decide)) (by decide) (by decide))⟩, o279_, f281_, (by omega), (zT9_e hs (zT9_p hs j1z217_ d224_.2 c231_ (show 0 < (Int32.toInt i2z217_).toNat from by have u := b256_; omega) e260_ d261_) d275_.2 c282_)⟩
        · have b293_ : 0 ≤ Int32.toInt x225_ ∧ Int32.toInt x225_ ≤ 0 := (by have u0 := b227_; have u1 := (zi_eq _ _).mp c231_; have u2 := (show 0 ≤ Int32.toInt 0 ∧ Int32.toInt 0 ≤ 0 from (by decide)); omega)
          refine pw_blk hT 1 (S' := (17, [some (pvR 6), some (pvI 1), some (pvI i2z217_)], [pvI 0], M226_)) rfl ⟨trivial, trivial⟩ ?_
          have b294_ : (-1) ≤ Int32.toInt (M226_.1 6 2) ∧ Int32.toInt (M226_.1 6 2) ≤ 100 := pvok_r o228_ 6 2 rfl
          have b295_ : (-1) ≤ Int32.toInt (M226_.1 6 3) ∧ Int32.toInt (M226_.1 6 3) ≤ 127 := pvok_r o228_ 6 3 rfl
          exact pw_ret hT rfl (r := some (pvI 0)) (M' := M226_) ⟨Or.inl rfl, rfl, rfl⟩ ⟨⟨_, rfl, (zr_wide (show 0 ≤ Int32.toInt 0 ∧ Int32.toInt 0 ≤ 0 from (by decide)) (by decide) (by decide))⟩, o228_, f230_, (by omega), (zT9_f j1z217_ d224_.2 c231_)⟩
  have u296_ : Int32.toInt 1 = 1 := by decide
  have u297_ : Int32.toInt 0 = 0 := by decide
  have j298_ : (Int32.toInt (M.1 6 3) ≤ -1 ∨ Int32.toInt (M.1 6 2) ≤ 99) := by omega
  have j299_ : zLT9 1 (Int32.toNatClampNeg 0) M M := (zLT9_0 hs)
  exact hlz217_ _ 0 M hok pvfr_0 (zr_wide (show 0 ≤ Int32.toInt 0 ∧ Int32.toInt 0 ≤ 0 from (by decide)) (by decide) (by decide)) j298_ j299_ (zhid (Nat.lt_succ_self _))
def fpL_eX5_readAny_6_1 : List (Nat × Nat × Nat) := [(0, 6, 3), (0, 6, 4), (1, 111, 0), (1, 2, 6)]
def fp_eX5_readAny_6_1 (q k : Nat) : Bool := pvfp fpL_eX5_readAny_6_1 q k
theorem fp_eX5_readAny_6_1_fp_eX2_addStep_x_x (a b : Nat) (h : fp_eX2_addStep_x_x a b = true) : fp_eX5_readAny_6_1 a b = true := pvfp_sub (l1 := fpL_eX2_addStep_x_x) (l2 := fpL_eX5_readAny_6_1) (by decide) a b h
theorem fp_eX5_readAny_6_1_fp_eX5_readAll_6_1 (a b : Nat) (h : fp_eX5_readAll_6_1 a b = true) : fp_eX5_readAny_6_1 a b = true := pvfp_sub (l1 := fpL_eX5_readAll_6_1) (l2 := fpL_eX5_readAny_6_1) (by decide) a b h
theorem fp_eX5_readAny_6_1_fp_eX5_readSign_6_x (a b : Nat) (h : fp_eX5_readSign_6_x a b = true) : fp_eX5_readAny_6_1 a b = true := pvfp_sub (l1 := fpL_eX5_readSign_6_x) (l2 := fpL_eX5_readAny_6_1) (by decide) a b h
set_option maxHeartbeats 4000000 in
set_option maxRecDepth 10000 in
theorem se_X5_readAny_6_1 (M : pvM) (hok : pvOk M) (hx0 : (Int32.toInt (M.1 6 3) ≤ -1 ∨ Int32.toInt (M.1 6 2) ≤ 99)) (hs : zRs M) (d : Nat) (hd : 3 ≤ d) : PW 141 d (0, [some (pvR 6), some (pvI 1), none], [], M) (fun r X => (∃ x : Int32, r = some (pvI x) ∧ 0 ≤ Int32.toInt x ∧ Int32.toInt x ≤ 1) ∧ pvOk X ∧ pvFr fp_eX5_readAny_6_1 M X ∧ ((Int32.toInt (X.1 6 3) ≤ -1 ∨ Int32.toInt (X.1 6 2) ≤ 99)) ∧ zRc (zTA 1) r M X) := by
  have hT : pvdom 141 = pvD_141 := rfl
  have b1_ : (-1) ≤ Int32.toInt (M.1 6 2) ∧ Int32.toInt (M.1 6 2) ≤ 100 := pvok_r hok 6 2 rfl
  have b2_ : (-1) ≤ Int32.toInt (M.1 6 3) ∧ Int32.toInt (M.1 6 3) ≤ 127 := pvok_r hok 6 3 rfl
  refine pw_blk hT 2 (S' := (2, [some (pvR 6), some (pvI 1), some (pvI 0)], [], M)) rfl ⟨trivial, trivial, trivial⟩ ?_
  have hlz217_ : ∀ (nz217_ : Nat) (i2z217_ : Int32) (Mz217_ : pvM), (pvOk Mz217_) → (pvFr fp_eX5_readAny_6_1 M Mz217_) → (0 ≤ Int32.toInt i2z217_ ∧ Int32.toInt i2z217_ ≤ 100) → ((Int32.toInt (Mz217_.1 6 3) ≤ -1 ∨ Int32.toInt (Mz217_.1 6 2) ≤ 99)) → (zLA9 1 (Int32.toNatClampNeg i2z217_) M Mz217_) → (zhide ((101 - Int32.toInt i2z217_).toNat < nz217_)) → PW 141 d (2, [some (pvR 6), some (pvI 1), some (pvI i2z217_)], [], Mz217_) (fun r X => (∃ x : Int32, r = some (pvI x) ∧ 0 ≤ Int32.toInt x ∧ Int32.toInt x ≤ 1) ∧ pvOk X ∧ pvFr fp_eX5_readAny_6_1 M X ∧ ((Int32.toInt (X.1 6 3) ≤ -1 ∨ Int32.toInt (X.1 6 2) ≤ 99)) ∧ zRc (zTA 1) r M X) := by
    intro nz217_
    induction nz217_ with
    | zero => intro i2z217_ Mz217_ oz217_ fz217_ h2z217_ j0z217_ j1z217_ hmz217_; exact absurd (zshow hmz217_) (Nat.not_lt_zero _)
    | succ nz217_ ihz217_ =>
      intro i2z217_ Mz217_ oz217_ fz217_ h2z217_ j0z217_ j1z217_ hmz217_
      have b218_ : (-1) ≤ Int32.toInt (Mz217_.1 6 2) ∧ Int32.toInt (Mz217_.1 6 2) ≤ 100 := pvok_r oz217_ 6 2 rfl
      have b219_ : (-1) ≤ Int32.toInt (Mz217_.1 6 3) ∧ Int32.toInt (Mz217_.1 6 3) ≤ 127 := pvok_r oz217_ 6 3 rfl
      refine pw_blk hT 2 (S' := (5, [some (pvR 6), some (pvI 1), some (pvI i2z217_)], [pvI 100, pvI i2z217_], Mz217_)) rfl ⟨trivial, trivial, trivial⟩ ?_
      refine pw_ic hT (c := 100 ≤ i2z217_) rfl rfl (fun c220_ => ?_) (fun c220_ => ?_)
      · have b221_ : 100 ≤ Int32.toInt i2z217_ ∧ Int32.toInt i2z217_ ≤ 100 := zr_le_r 100 c220_ h2z217_ (show 100 ≤ Int32.toInt 100 ∧ Int32.toInt 100 ≤ 100 from (by decide)) (by decide)
        refine pw_blk hT 1 (S' := (49, [some (pvR 6), some (pvI 1), some (pvI i2z217_)], [pvI 0], Mz217_)) rfl ⟨trivial, trivial⟩ ?_
        exact pw_ret hT rfl (r := some (pvI 0)) (M' := Mz217_) ⟨Or.inl rfl, rfl, rfl⟩ ⟨⟨_, rfl, (zr_wide (show 0 ≤ Int32.toInt 0 ∧ Int32.toInt 0 ≤ 0 from (by decide)) (by decide) (by decide))⟩, oz217_, fz217_, (by omega), ((zLA9_x j1z217_ (show 100 ≤ (Int32.toInt i2z217_).toNat from by have u := b221_; omega)).elim)⟩
      · have b222_ : 0 ≤ Int32.toInt i2z217_ ∧ Int32.toInt i2z217_ ≤ 99 := zr_nle_r 99 c220_ h2z217_ (show 100 ≤ Int32.toInt 100 ∧ Int32.toInt 100 ≤ 100 from (by decide)) (by decide)
        refine pw_blk hT 2 (S' := (10, [some (pvR 6), some (pvI 1), some (pvI i2z217_)], [pvI 1, pvR 6], Mz217_)) rfl ⟨trivial, trivial, trivial⟩ ?_
        have u223_ : Int32.toInt 1 = 1 := by decide
        refine pw_callGd hT (as := [pvR 6, pvI 1]) (lo1 := [some (pvR 6), some (pvI 1), none]) (d1 := d) (rest := []) rfl rfl rfl rfl rfl (fun _ => rfl) (Nat.zero_le _) rfl rfl rfl (se_X5_readAll_6_1 Mz217_ oz217_ (show (Int32.toInt (Mz217_.1 6 3) ≤ -1 ∨ Int32.toInt (Mz217_.1 6 2) ≤ 99) from (by omega)) (zLA9_rs hs j1z217_) d (Nat.le_trans (by decide) hd)) (fun x225_ M226_ b227_ o228_ g229_ d224_ => ?_)
        have f230_ : pvFr fp_eX5_readAny_6_1 M M226_ := pvfr_t g229_ fz217_ fp_eX5_readAny_6_1_fp_eX5_readAll_6_1
        refine pw_ifn hT (c := x225_ = 0) rfl rfl (fun c231_ => ?_) (fun c231_ => ?_)
        · have b232_ : 1 ≤ Int32.toInt x225_ ∧ Int32.toInt x225_ ≤ 1 := (by have u0 := b227_; have u1 := (not_congr (zi_eq _ _)).mp c231_; have u2 := (show 0 ≤ Int32.toInt 0 ∧ Int32.toInt 0 ≤ 0 from (by decide)); omega)
          refine pw_blk hT 1 (S' := (19, [some (pvR 6), some (pvI 1), some (pvI i2z217_)], [pvI i2z217_], M226_)) rfl ⟨trivial, trivial⟩ ?_
          refine pw_if hT (c := i2z217_ ≤ 0) rfl rfl (fun c233_ => ?_) (fun c233_ => ?_)
          · have b234_ : 0 ≤ Int32.toInt i2z217_ ∧ Int32.toInt i2z217_ ≤ 0 := zr_le_l 0 c233_ b222_ (show 0 ≤ Int32.toInt 0 ∧ Int32.toInt 0 ≤ 0 from (by decide)) (by decide)
            refine pw_blk hT 2 (S' := (34, [some (pvR 6), some (pvI 1), some (pvI i2z217_)], [pvI 124, pvR 6], M226_)) rfl ⟨trivial, trivial, trivial⟩ ?_
            have u235_ : Int32.toInt 124 = 124 := by decide
            have b236_ : (-1) ≤ Int32.toInt (M226_.1 6 2) ∧ Int32.toInt (M226_.1 6 2) ≤ 100 := pvok_r o228_ 6 2 rfl
            have b237_ : (-1) ≤ Int32.toInt (M226_.1 6 3) ∧ Int32.toInt (M226_.1 6 3) ≤ 127 := pvok_r o228_ 6 3 rfl
            refine pw_callGd hT (as := [pvR 6, pvI 124]) (lo1 := [some (pvR 6), some (pvI 124)]) (d1 := d) (rest := []) rfl rfl rfl rfl rfl (fun _ => rfl) (Nat.zero_le _) rfl rfl rfl (se_X5_readSign_6_x M226_ o228_ 124 (zr_wide (show 124 ≤ Int32.toInt 124 ∧ Int32.toInt 124 ≤ 124 from (by decide)) (by decide) (by decide)) (show (Int32.toInt (M226_.1 6 3) ≤ -1 ∨ Int32.toInt (M226_.1 6 2) ≤ 99) from (by omega)) d224_.2.1 d) (fun x239_ M240_ b241_ o242_ g243_ d238_ => ?_)
            have f244_ : pvFr fp_eX5_readAny_6_1 M M240_ := pvfr_t g243_ f230_ fp_eX5_readAny_6_1_fp_eX5_readSign_6_x
            refine pw_ifn hT (c := x239_ = 0) rfl rfl (fun c245_ => ?_) (fun c245_ => ?_)
            · have b246_ : 1 ≤ Int32.toInt x239_ ∧ Int32.toInt x239_ ≤ 1 := (by have u0 := b241_; have u1 := (not_congr (zi_eq _ _)).mp c245_; have u2 := (show 0 ≤ Int32.toInt 0 ∧ Int32.toInt 0 ≤ 0 from (by decide)); omega)
              obtain ⟨q248_, b247_⟩ : (Int32.toInt (i2z217_ + 1) = Int32.toInt i2z217_ + 1) ∧ (1 ≤ Int32.toInt (i2z217_ + 1) ∧ Int32.toInt (i2z217_ + 1) ≤ 1) := zadd_k i2z217_ 1 1 1 1 b234_ (by decide) (by decide) (by decide) (by decide) (by decide)
              refine pw_blk hT 2 (S' := (2, [some (pvR 6), some (pvI 1), some (pvI (i2z217_ + 1))], [], M240_)) rfl ⟨trivial, trivial, trivial⟩ ?_
              have b249_ : (-1) ≤ Int32.toInt (M240_.1 6 2) ∧ Int32.toInt (M240_.1 6 2) ≤ 100 := pvok_r o242_ 6 2 rfl
              have b250_ : (-1) ≤ Int32.toInt (M240_.1 6 3) ∧ Int32.toInt (M240_.1 6 3) ≤ 127 := pvok_r o242_ 6 3 rfl
              have j251_ : (Int32.toInt (M240_.1 6 3) ≤ -1 ∨ Int32.toInt (M240_.1 6 2) ≤ 99) := by omega
              have j252_ : zLA9 1 (Int32.toNatClampNeg (i2z217_ + 1)) M M240_ := (zLA9_n (znp1 b234_ (by decide) (by decide)) (zA9_s hs (zA9_o hs j1z217_ d224_.2 c231_ (show (Int32.toInt i2z217_).toNat = 0 from by have u := b234_; omega)) d238_.2 c245_))
              exact ihz217_ (i2z217_ + 1) M240_ o242_ f244_ (zr_wide b247_ (by decide) (by decide)) j251_ j252_ (zhid (pvms_up (zshow hmz217_) h2z217_ q248_ (by decide) (by decide)))
            · have b253_ : 0 ≤ Int32.toInt x239_ ∧ Int32.toInt x239_ ≤ 0 := (by have u0 := b241_; have u1 := (zi_eq _ _).mp c245_; have u2 := (show 0 ≤ Int32.toInt 0 ∧ Int32.toInt 0 ≤ 0 from (by decide)); omega)
              refine pw_blk hT 1 (S' := (41, [some (pvR 6), some (pvI 1), some (pvI i2z217_)], [pvI 1], M240_)) rfl ⟨trivial, trivial⟩ ?_
              have b254_ : (-1) ≤ Int32.toInt (M240_.1 6 2) ∧ Int32.toInt (M240_.1 6 2) ≤ 100 := pvok_r o242_ 6 2 rfl
              have b255_ : (-1) ≤ Int32.toInt (M240_.1 6 3) ∧ Int32.toInt (M240_.1 6 3) ≤ 127 := pvok_r o242_ 6 3 rfl
              exact pw_ret hT rfl (r := some (pvI 1)) (M' := M240_) ⟨Or.inr rfl, rfl, rfl⟩ ⟨⟨_, rfl, (zr_wide (show 1 ≤ Int32.toInt 1 ∧ Int32.toInt 1 ≤ 1 from (by decide)) (by decide) (by decide))⟩, o242_, f244_, (by omega), (zA9_e hs (zA9_o hs j1z217_ d224_.2 c231_ (show (Int32.toInt i2z217_).toNat = 0 from by have u := b234_; omega)) d238_.2 c245_)⟩
          · have b256_ : 1 ≤ Int32.toInt i2z217_ ∧ Int32.toInt i2z217_ ≤ 99 := zr_nle_l 1 c233_ b222_ (show 0 ≤ Int32.toInt 0 ∧ Int32.toInt 0 ≤ 0 from (by decide)) (by decide)
            have b257_ : 15 ≤ Int32.toInt (M226_.1 6 4) ∧ Int32.toInt (M226_.1 6 4) ≤ 23 := pvok_r o228_ 6 4 rfl
            refine pw_blkr hT 2 (pc := 26) (lo := [some (pvR 6), some (pvI 1), some (pvI i2z217_)]) (st := []) (M := M226_) (z := (pvhp (M226_.1 6 4))) rfl ⟨trivial, rfl, trivial⟩ (fun q258_ e260_ => ?_)
            have k259_ : pvkl q258_ = 2 := pvhp_k b257_ e260_
            refine pw_blk hT 1 (S' := (28, [some (pvR 6), some (pvI 1), some (pvI i2z217_)], [pvI (-3), pvR q258_], M226_)) rfl ⟨trivial, trivial⟩ ?_
            refine pw_callVd hT (as := [pvR q258_, pvI (-3)]) (lo1 := [some (pvR q258_), some (pvI (-3))]) (d1 := d) (rest := []) rfl rfl rfl rfl rfl (fun _ => k259_) (Nat.zero_le _) rfl rfl rfl (se_X2_addStep_x_x M226_ o228_ q258_ (-3) k259_ (zr_wide (show (-3) ≤ Int32.toInt (-3) ∧ Int32.toInt (-3) ≤ (-3) from (by decide)) (by decide) (by decide)) d) (fun M263_ o265_ g266_ d261_ => ?_)
            have f267_ : pvFr fp_eX5_readAny_6_1 M M263_ := pvfr_t g266_ f230_ fp_eX5_readAny_6_1_fp_eX2_addStep_x_x
            refine pw_blk hT 2 (S' := (34, [some (pvR 6), some (pvI 1), some (pvI i2z217_)], [pvI 124, pvR 6], M263_)) rfl ⟨trivial, trivial, trivial⟩ ?_
            have u268_ : Int32.toInt 124 = 124 := by decide
            have e269_ : (M263_.1 6 2) = (M226_.1 6 2) := (g266_ 6 2 rfl)
            have b270_ : (-1) ≤ Int32.toInt (M263_.1 6 2) ∧ Int32.toInt (M263_.1 6 2) ≤ 100 := pvok_r o265_ 6 2 rfl
            have d271_ : Int32.toInt (M263_.1 6 2) = Int32.toInt (M226_.1 6 2) := congrArg Int32.toInt e269_
            have e272_ : (M263_.1 6 3) = (M226_.1 6 3) := (g266_ 6 3 rfl)
            have b273_ : (-1) ≤ Int32.toInt (M263_.1 6 3) ∧ Int32.toInt (M263_.1 6 3) ≤ 127 := pvok_r o265_ 6 3 rfl
            have d274_ : Int32.toInt (M263_.1 6 3) = Int32.toInt (M226_.1 6 3) := congrArg Int32.toInt e272_
            refine pw_callGd hT (as := [pvR 6, pvI 124]) (lo1 := [some (pvR 6), some (pvI 124)]) (d1 := d) (rest := []) rfl rfl rfl rfl rfl (fun _ => rfl) (Nat.zero_le _) rfl rfl rfl (se_X5_readSign_6_x M263_ o265_ 124 (zr_wide (show 124 ≤ Int32.toInt 124 ∧ Int32.toInt 124 ≤ 124 from (by decide)) (by decide) (by decide)) (show (Int32.toInt (M263_.1 6 3) ≤ -1 ∨ Int32.toInt (M263_.1 6 2) ≤ 99) from (by omega)) (zLB9_q (zA9_p hs j1z217_ d224_.2 c231_ (show 0 < (Int32.toInt i2z217_).toNat from by have u := b256_; omega) e260_ d261_)) d) (fun x276_ M277_ b278_ o279_ g280_ d275_ => ?_)
            have f281_ : pvFr fp_eX5_readAny_6_1 M M277_ := pvfr_t g280_ f267_ fp_eX5_readAny_6_1_fp_eX5_readSign_6_x
            refine pw_ifn hT (c := x276_ = 0) rfl rfl (fun c282_ => ?_) (fun c282_ => ?_)
            · have b283_ : 1 ≤ Int32.toInt x276_ ∧ Int32.toInt x276_ ≤ 1 := (by have u0 := b278_; have u1 := (not_congr (zi_eq _ _)).mp c282_; have u2 := (show 0 ≤ Int32.toInt 0 ∧ Int32.toInt 0 ≤ 0 from (by decide)); omega)
              obtain ⟨q285_, b284_⟩ : (Int32.toInt (i2z217_ + 1) = Int32.toInt i2z217_ + 1) ∧ (2 ≤ Int32.toInt (i2z217_ + 1) ∧ Int32.toInt (i2z217_ + 1) ≤ 100) := zadd_k i2z217_ 1 1 2 100 b256_ (by decide) (by decide) (by decide) (by decide) (by decide)
              refine pw_blk hT 2 (S' := (2, [some (pvR 6), some (pvI 1), some (pvI (i2z217_ + 1))], [], M277_)) rfl ⟨trivial, trivial, trivial⟩ ?_
              have b286_ : (-1) ≤ Int32.toInt (M277_.1 6 2) ∧ Int32.toInt (M277_.1 6 2) ≤ 100 := pvok_r o279_ 6 2 rfl
              have b287_ : (-1) ≤ Int32.toInt (M277_.1 6 3) ∧ Int32.toInt (M277_.1 6 3) ≤ 127 := pvok_r o279_ 6 3 rfl
              have j288_ : (Int32.toInt (M277_.1 6 3) ≤ -1 ∨ Int32.toInt (M277_.1 6 2) ≤ 99) := by omega
              have j289_ : zLA9 1 (Int32.toNatClampNeg (i2z217_ + 1)) M M277_ := (zLA9_n (znp1 b256_ (by decide) (by decide)) (zA9_s hs (zA9_p hs j1z217_ d224_.2 c231_ (show 0 < (Int32.toInt i2z217_).toNat from by have u := b256_; omega) e260_ d261_) d275_.2 c282_))
              exact ihz217_ (i2z217_ + 1) M277_ o279_ f281_ (zr_wide b284_ (by decide) (by decide)) j288_ j289_ (zhid (pvms_up (zshow hmz217_) h2z217_ q285_ (by decide) (by decide)))
            · have b290_ : 0 ≤ Int32.toInt x276_ ∧ Int32.toInt x276_ ≤ 0 := (by have u0 := b278_; have u1 := (zi_eq _ _).mp c282_; have u2 := (show 0 ≤ Int32.toInt 0 ∧ Int32.toInt 0 ≤ 0 from (by decide)); omega)
              refine pw_blk hT 1 (S' := (41, [some (pvR 6), some (pvI 1), some (pvI i2z217_)], [pvI 1], M277_)) rfl ⟨trivial, trivial⟩ ?_
              have b291_ : (-1) ≤ Int32.toInt (M277_.1 6 2) ∧ Int32.toInt (M277_.1 6 2) ≤ 100 := pvok_r o279_ 6 2 rfl
              have b292_ : (-1) ≤ Int32.toInt (M277_.1 6 3) ∧ Int32.toInt (M277_.1 6 3) ≤ 127 := pvok_r o279_ 6 3 rfl
              exact pw_ret hT rfl (r := some (pvI 1)) (M' := M277_) ⟨Or.inr rfl, rfl, rfl⟩ ⟨⟨_, rfl, (zr_wide (show 1 ≤ Int32.toInt 1 ∧ Int32.toInt 1 ≤ 1 from (by decide)) (by decide) (by decide))⟩, o279_, f281_, (by omega), (zA9_e hs (zA9_p hs j1z217_ d224_.2 c231_ (show 0 < (Int32.toInt i2z217_).toNat from by have u := b256_; omega) e260_ d261_) d275_.2 c282_)⟩
        · have b293_ : 0 ≤ Int32.toInt x225_ ∧ Int32.toInt x225_ ≤ 0 := (by have u0 := b227_; have u1 := (zi_eq _ _).mp c231_; have u2 := (show 0 ≤ Int32.toInt 0 ∧ Int32.toInt 0 ≤ 0 from (by decide)); omega)
          refine pw_blk hT 1 (S' := (17, [some (pvR 6), some (pvI 1), some (pvI i2z217_)], [pvI 0], M226_)) rfl ⟨trivial, trivial⟩ ?_
          have b294_ : (-1) ≤ Int32.toInt (M226_.1 6 2) ∧ Int32.toInt (M226_.1 6 2) ≤ 100 := pvok_r o228_ 6 2 rfl
          have b295_ : (-1) ≤ Int32.toInt (M226_.1 6 3) ∧ Int32.toInt (M226_.1 6 3) ≤ 127 := pvok_r o228_ 6 3 rfl
          exact pw_ret hT rfl (r := some (pvI 0)) (M' := M226_) ⟨Or.inl rfl, rfl, rfl⟩ ⟨⟨_, rfl, (zr_wide (show 0 ≤ Int32.toInt 0 ∧ Int32.toInt 0 ≤ 0 from (by decide)) (by decide) (by decide))⟩, o228_, f230_, (by omega), (zA9_f j1z217_ d224_.2 c231_)⟩
  have u296_ : Int32.toInt 1 = 1 := by decide
  have u297_ : Int32.toInt 0 = 0 := by decide
  have j298_ : (Int32.toInt (M.1 6 3) ≤ -1 ∨ Int32.toInt (M.1 6 2) ≤ 99) := by omega
  have j299_ : zLA9 1 (Int32.toNatClampNeg 0) M M := (zLA9_0 hs)
  exact hlz217_ _ 0 M hok pvfr_0 (zr_wide (show 0 ≤ Int32.toInt 0 ∧ Int32.toInt 0 ≤ 0 from (by decide)) (by decide) (by decide)) j298_ j299_ (zhid (Nat.lt_succ_self _))
def fpL_eX5_readOne_6_0 : List (Nat × Nat × Nat) := [(0, 6, 3), (0, 6, 4), (1, 111, 0), (1, 2, 6)]
def fp_eX5_readOne_6_0 (q k : Nat) : Bool := pvfp fpL_eX5_readOne_6_0 q k
theorem fp_eX5_readOne_6_0_fp_eX2_addStep_x_x (a b : Nat) (h : fp_eX2_addStep_x_x a b = true) : fp_eX5_readOne_6_0 a b = true := pvfp_sub (l1 := fpL_eX2_addStep_x_x) (l2 := fpL_eX5_readOne_6_0) (by decide) a b h
theorem fp_eX5_readOne_6_0_fp_eX5_readAny_6_1 (a b : Nat) (h : fp_eX5_readAny_6_1 a b = true) : fp_eX5_readOne_6_0 a b = true := pvfp_sub (l1 := fpL_eX5_readAny_6_1) (l2 := fpL_eX5_readOne_6_0) (by decide) a b h
theorem fp_eX5_readOne_6_0_fp_eX5_readAny_6_2 (a b : Nat) (h : fp_eX5_readAny_6_2 a b = true) : fp_eX5_readOne_6_0 a b = true := pvfp_sub (l1 := fpL_eX5_readAny_6_2) (l2 := fpL_eX5_readOne_6_0) (by decide) a b h
theorem fp_eX5_readOne_6_0_fp_eX5_readAny_6_3 (a b : Nat) (h : fp_eX5_readAny_6_3 a b = true) : fp_eX5_readOne_6_0 a b = true := pvfp_sub (l1 := fpL_eX5_readAny_6_3) (l2 := fpL_eX5_readOne_6_0) (by decide) a b h
theorem fp_eX5_readOne_6_0_fp_eX5_readAny_6_4 (a b : Nat) (h : fp_eX5_readAny_6_4 a b = true) : fp_eX5_readOne_6_0 a b = true := pvfp_sub (l1 := fpL_eX5_readAny_6_4) (l2 := fpL_eX5_readOne_6_0) (by decide) a b h
theorem fp_eX5_readOne_6_0_fp_eX5_readSign_6_x (a b : Nat) (h : fp_eX5_readSign_6_x a b = true) : fp_eX5_readOne_6_0 a b = true := pvfp_sub (l1 := fpL_eX5_readSign_6_x) (l2 := fpL_eX5_readOne_6_0) (by decide) a b h
theorem fp_eX5_readOne_6_0_fp_eX5_readTest_6 (a b : Nat) (h : fp_eX5_readTest_6 a b = true) : fp_eX5_readOne_6_0 a b = true := pvfp_sub (l1 := fpL_eX5_readTest_6) (l2 := fpL_eX5_readOne_6_0) (by decide) a b h
set_option maxHeartbeats 4000000 in
set_option maxRecDepth 10000 in
theorem se_X5_readOne_6_0 (M : pvM) (hok : pvOk M) (hx0 : (Int32.toInt (M.1 6 3) ≤ -1 ∨ Int32.toInt (M.1 6 2) ≤ 99)) (hs : zRs M) (d : Nat) (hd : 4 ≤ d) : PW 145 d (0, [some (pvR 6), some (pvI 0), none, none], [], M) (fun r X => (∃ x : Int32, r = some (pvI x) ∧ 0 ≤ Int32.toInt x ∧ Int32.toInt x ≤ 1) ∧ pvOk X ∧ pvFr fp_eX5_readOne_6_0 M X ∧ ((Int32.toInt (X.1 6 3) ≤ -1 ∨ Int32.toInt (X.1 6 2) ≤ 99)) ∧ zRc (zTO 0) r M X) := by
  have hT : pvdom 145 = pvD_145 := rfl
  have b1_ : (-1) ≤ Int32.toInt (M.1 6 2) ∧ Int32.toInt (M.1 6 2) ≤ 100 := pvok_r hok 6 2 rfl
  have b2_ : (-1) ≤ Int32.toInt (M.1 6 3) ∧ Int32.toInt (M.1 6 3) ≤ 127 := pvok_r hok 6 3 rfl
  refine pw_blk hT 2 (S' := (2, [some (pvR 6), some (pvI 0), some (pvI 0), none], [], M)) rfl ⟨trivial, trivial, trivial⟩ ?_
  refine pw_blk hT 2 (S' := (4, [some (pvR 6), some (pvI 0), some (pvI 0), none], [pvI 4, pvI 0], M)) rfl ⟨trivial, trivial, trivial⟩ ?_
  refine pw_ic hT (c := 4 ≤ 0) rfl rfl (fun c3_ => absurd c3_ (by decide)) (fun c3_ => ?_)
  refine pw_blk hT 2 (S' := (10, [some (pvR 6), some (pvI 0), some (pvI 0), none], [pvI 33, pvR 6], M)) rfl ⟨trivial, trivial, trivial⟩ ?_
  have u4_ : Int32.toInt 33 = 33 := by decide
  refine pw_callGd hT (as := [pvR 6, pvI 33]) (lo1 := [some (pvR 6), some (pvI 33)]) (d1 := d) (rest := []) rfl rfl rfl rfl rfl (fun _ => rfl) (Nat.zero_le _) rfl rfl rfl (se_X5_readSign_6_x M hok 33 (zr_wide (show 33 ≤ Int32.toInt 33 ∧ Int32.toInt 33 ≤ 33 from (by decide)) (by decide) (by decide)) (show (Int32.toInt (M.1 6 3) ≤ -1 ∨ Int32.toInt (M.1 6 2) ≤ 99) from (by omega)) hs.1 d) (fun x6_ M7_ b8_ o9_ g10_ d5_ => ?_)
  have f11_ : pvFr fp_eX5_readOne_6_0 M M7_ := pvfr_t g10_ pvfr_0 fp_eX5_readOne_6_0_fp_eX5_readSign_6_x
  refine pw_if hT (c := x6_ = 0) rfl rfl (fun c12_ => ?_) (fun c12_ => ?_)
  · have b13_ : 0 ≤ Int32.toInt x6_ ∧ Int32.toInt x6_ ≤ 0 := (by have u0 := b8_; have u1 := (zi_eq _ _).mp c12_; have u2 := (show 0 ≤ Int32.toInt 0 ∧ Int32.toInt 0 ≤ 0 from (by decide)); omega)
    refine pw_blk hT 2 (S' := (24, [some (pvR 6), some (pvI 0), some (pvI 0), none], [pvI 4, pvI 0], M7_)) rfl ⟨trivial, trivial, trivial⟩ ?_
    refine pw_ic hT (c := 4 ≤ 0) rfl rfl (fun c14_ => absurd c14_ (by decide)) (fun c14_ => ?_)
    refine pw_blk hT 2 (S' := (30, [some (pvR 6), some (pvI 0), some (pvI 0), none], [pvI 40, pvR 6], M7_)) rfl ⟨trivial, trivial, trivial⟩ ?_
    have u15_ : Int32.toInt 40 = 40 := by decide
    have b16_ : (-1) ≤ Int32.toInt (M7_.1 6 2) ∧ Int32.toInt (M7_.1 6 2) ≤ 100 := pvok_r o9_ 6 2 rfl
    have b17_ : (-1) ≤ Int32.toInt (M7_.1 6 3) ∧ Int32.toInt (M7_.1 6 3) ≤ 127 := pvok_r o9_ 6 3 rfl
    refine pw_callGd hT (as := [pvR 6, pvI 40]) (lo1 := [some (pvR 6), some (pvI 40)]) (d1 := d) (rest := []) rfl rfl rfl rfl rfl (fun _ => rfl) (Nat.zero_le _) rfl rfl rfl (se_X5_readSign_6_x M7_ o9_ 40 (zr_wide (show 40 ≤ Int32.toInt 40 ∧ Int32.toInt 40 ≤ 40 from (by decide)) (by decide) (by decide)) (show (Int32.toInt (M7_.1 6 3) ≤ -1 ∨ Int32.toInt (M7_.1 6 2) ≤ 99) from (by omega)) d5_.2.1 d) (fun x19_ M20_ b21_ o22_ g23_ d18_ => ?_)
    have f24_ : pvFr fp_eX5_readOne_6_0 M M20_ := pvfr_t g23_ f11_ fp_eX5_readOne_6_0_fp_eX5_readSign_6_x
    refine pw_if hT (c := x19_ = 0) rfl rfl (fun c25_ => ?_) (fun c25_ => ?_)
    · have b26_ : 0 ≤ Int32.toInt x19_ ∧ Int32.toInt x19_ ≤ 0 := (by have u0 := b21_; have u1 := (zi_eq _ _).mp c25_; have u2 := (show 0 ≤ Int32.toInt 0 ∧ Int32.toInt 0 ≤ 0 from (by decide)); omega)
      refine pw_blk hT 1 (S' := (64, [some (pvR 6), some (pvI 0), some (pvI 0), none], [pvR 6], M20_)) rfl ⟨trivial, trivial⟩ ?_
      have b27_ : (-1) ≤ Int32.toInt (M20_.1 6 2) ∧ Int32.toInt (M20_.1 6 2) ≤ 100 := pvok_r o22_ 6 2 rfl
      have b28_ : (-1) ≤ Int32.toInt (M20_.1 6 3) ∧ Int32.toInt (M20_.1 6 3) ≤ 127 := pvok_r o22_ 6 3 rfl
      refine pw_callGd hT (as := [pvR 6]) (lo1 := [some (pvR 6), none, none, none]) (d1 := d) (rest := []) rfl rfl rfl rfl rfl (fun _ => rfl) (Nat.zero_le _) rfl rfl rfl (se_X5_readTest_6 M20_ o22_ (show (Int32.toInt (M20_.1 6 3) ≤ -1 ∨ Int32.toInt (M20_.1 6 2) ≤ 99) from (by omega)) (zOm9_rs hs (zOm9_p (zOm9_n (zOn9_0 (d := 0) hs (by decide)) d5_.2 c12_) d18_.2 c25_).1) d) (fun x30_ M31_ b32_ o33_ g34_ d29_ => ?_)
      have f35_ : pvFr fp_eX5_readOne_6_0 M M31_ := pvfr_t g34_ f24_ fp_eX5_readOne_6_0_fp_eX5_readTest_6
      refine pw_blk hT 7 (S' := (74, [some (pvR 6), some (pvI 0), some (pvI 0), some (pvI x30_)], [pvI 1, pvI ((0 - 0) - (0 - 0) / 2 * 2)], M31_)) rfl ⟨trivial, trivial, trivial, trivial, trivial, (by decide), trivial, trivial⟩ ?_
      refine pw_icn hT (c := ((0 - 0) - (0 - 0) / 2 * 2) = 1) rfl rfl (fun c36_ => ?_) (fun c36_ => absurd c36_ (by decide))
      refine pw_blk hT 1 (S' := (86, [some (pvR 6), some (pvI 0), some (pvI 0), some (pvI x30_)], [pvI x30_], M31_)) rfl ⟨trivial, trivial⟩ ?_
      have b37_ : (-1) ≤ Int32.toInt (M31_.1 6 2) ∧ Int32.toInt (M31_.1 6 2) ≤ 100 := pvok_r o33_ 6 2 rfl
      have b38_ : (-1) ≤ Int32.toInt (M31_.1 6 3) ∧ Int32.toInt (M31_.1 6 3) ≤ 127 := pvok_r o33_ 6 3 rfl
      exact pw_ret hT rfl (r := some (pvI x30_)) (M' := M31_) ⟨pv01 b32_, rfl, rfl⟩ ⟨⟨_, rfl, b32_⟩, o33_, f35_, (by omega), (zOe_e (zOt9 hs (zOm9_p (zOm9_n (zOn9_0 (d := 0) hs (by decide)) d5_.2 c12_) d18_.2 c25_).1 (zOm9_p (zOm9_n (zOn9_0 (d := 0) hs (by decide)) d5_.2 c12_) d18_.2 c25_).2 d29_.2 (pv01 b32_)) (by decide))⟩
    · have b39_ : 1 ≤ Int32.toInt x19_ ∧ Int32.toInt x19_ ≤ 1 := (by have u0 := b21_; have u1 := (not_congr (zi_eq _ _)).mp c25_; have u2 := (show 0 ≤ Int32.toInt 0 ∧ Int32.toInt 0 ≤ 0 from (by decide)); omega)
      refine pw_blk hT 4 (S' := (40, [some (pvR 6), some (pvI 0), some (pvI 0), none], [pvI (0 + 1), pvR 6], M20_)) rfl ⟨trivial, trivial, trivial, trivial, trivial⟩ ?_
      have u40_ : Int32.toInt (0 + 1) = 1 := by decide
      have b41_ : (-1) ≤ Int32.toInt (M20_.1 6 2) ∧ Int32.toInt (M20_.1 6 2) ≤ 100 := pvok_r o22_ 6 2 rfl
      have b42_ : (-1) ≤ Int32.toInt (M20_.1 6 3) ∧ Int32.toInt (M20_.1 6 3) ≤ 127 := pvok_r o22_ 6 3 rfl
      refine pw_callGd hT (as := [pvR 6, pvI (0 + 1)]) (lo1 := [some (pvR 6), some (pvI (0 + 1)), none]) (d1 := (d - 1)) (rest := []) rfl rfl rfl rfl rfl (fun _ => rfl) (show 1 ≤ d by omega) rfl rfl rfl (se_X5_readAny_6_1 M20_ o22_ (show (Int32.toInt (M20_.1 6 3) ≤ -1 ∨ Int32.toInt (M20_.1 6 2) ≤ 99) from (by omega)) (zOp9_rs hs (zOp9_y (zOm9_n (zOn9_0 (d := 0) hs (by decide)) d5_.2 c12_) (by decide) d18_.2 c25_)) (d - 1) (by omega)) (fun x44_ M45_ b46_ o47_ g48_ d43_ => ?_)
      have f49_ : pvFr fp_eX5_readOne_6_0 M M45_ := pvfr_t g48_ f24_ fp_eX5_readOne_6_0_fp_eX5_readAny_6_1
      refine pw_if hT (c := x44_ = 0) rfl rfl (fun c50_ => ?_) (fun c50_ => ?_)
      · have b51_ : 0 ≤ Int32.toInt x44_ ∧ Int32.toInt x44_ ≤ 0 := (by have u0 := b46_; have u1 := (zi_eq _ _).mp c50_; have u2 := (show 0 ≤ Int32.toInt 0 ∧ Int32.toInt 0 ≤ 0 from (by decide)); omega)
        refine pw_blk hT 9 (S' := (74, [some (pvR 6), some (pvI 0), some (pvI 0), some (pvI 0)], [pvI 1, pvI ((0 - 0) - (0 - 0) / 2 * 2)], M45_)) rfl ⟨trivial, trivial, trivial, trivial, trivial, trivial, trivial, (by decide), trivial, trivial⟩ ?_
        refine pw_icn hT (c := ((0 - 0) - (0 - 0) / 2 * 2) = 1) rfl rfl (fun c52_ => ?_) (fun c52_ => absurd c52_ (by decide))
        refine pw_blk hT 1 (S' := (86, [some (pvR 6), some (pvI 0), some (pvI 0), some (pvI 0)], [pvI 0], M45_)) rfl ⟨trivial, trivial⟩ ?_
        have b53_ : (-1) ≤ Int32.toInt (M45_.1 6 2) ∧ Int32.toInt (M45_.1 6 2) ≤ 100 := pvok_r o47_ 6 2 rfl
        have b54_ : (-1) ≤ Int32.toInt (M45_.1 6 3) ∧ Int32.toInt (M45_.1 6 3) ≤ 127 := pvok_r o47_ 6 3 rfl
        exact pw_ret hT rfl (r := some (pvI 0)) (M' := M45_) ⟨Or.inl rfl, rfl, rfl⟩ ⟨⟨_, rfl, (zr_wide (show 0 ≤ Int32.toInt 0 ∧ Int32.toInt 0 ≤ 0 from (by decide)) (by decide) (by decide))⟩, o47_, f49_, (by omega), (zOe_e (zOp9_n (zOp9_y (zOm9_n (zOn9_0 (d := 0) hs (by decide)) d5_.2 c12_) (by decide) d18_.2 c25_) (by decide) d43_.2 c50_) (by decide))⟩
      · have b55_ : 1 ≤ Int32.toInt x44_ ∧ Int32.toInt x44_ ≤ 1 := (by have u0 := b46_; have u1 := (not_congr (zi_eq _ _)).mp c50_; have u2 := (show 0 ≤ Int32.toInt 0 ∧ Int32.toInt 0 ≤ 0 from (by decide)); omega)
        refine pw_blk hT 2 (S' := (49, [some (pvR 6), some (pvI 0), some (pvI 0), none], [pvI 41, pvR 6], M45_)) rfl ⟨trivial, trivial, trivial⟩ ?_
        have u56_ : Int32.toInt 41 = 41 := by decide
        have b57_ : (-1) ≤ Int32.toInt (M45_.1 6 2) ∧ Int32.toInt (M45_.1 6 2) ≤ 100 := pvok_r o47_ 6 2 rfl
        have b58_ : (-1) ≤ Int32.toInt (M45_.1 6 3) ∧ Int32.toInt (M45_.1 6 3) ≤ 127 := pvok_r o47_ 6 3 rfl
        refine pw_callGd hT (as := [pvR 6, pvI 41]) (lo1 := [some (pvR 6), some (pvI 41)]) (d1 := d) (rest := []) rfl rfl rfl rfl rfl (fun _ => rfl) (Nat.zero_le _) rfl rfl rfl (se_X5_readSign_6_x M45_ o47_ 41 (zr_wide (show 41 ≤ Int32.toInt 41 ∧ Int32.toInt 41 ≤ 41 from (by decide)) (by decide) (by decide)) (show (Int32.toInt (M45_.1 6 3) ≤ -1 ∨ Int32.toInt (M45_.1 6 2) ≤ 99) from (by omega)) d43_.2.1 d) (fun x60_ M61_ b62_ o63_ g64_ d59_ => ?_)
        have f65_ : pvFr fp_eX5_readOne_6_0 M M61_ := pvfr_t g64_ f49_ fp_eX5_readOne_6_0_fp_eX5_readSign_6_x
        refine pw_if hT (c := x60_ = 0) rfl rfl (fun c66_ => ?_) (fun c66_ => ?_)
        · have b67_ : 0 ≤ Int32.toInt x60_ ∧ Int32.toInt x60_ ≤ 0 := (by have u0 := b62_; have u1 := (zi_eq _ _).mp c66_; have u2 := (show 0 ≤ Int32.toInt 0 ∧ Int32.toInt 0 ≤ 0 from (by decide)); omega)
          refine pw_blk hT 9 (S' := (74, [some (pvR 6), some (pvI 0), some (pvI 0), some (pvI 0)], [pvI 1, pvI ((0 - 0) - (0 - 0) / 2 * 2)], M61_)) rfl ⟨trivial, trivial, trivial, trivial, trivial, trivial, trivial, (by decide), trivial, trivial⟩ ?_
          refine pw_icn hT (c := ((0 - 0) - (0 - 0) / 2 * 2) = 1) rfl rfl (fun c68_ => ?_) (fun c68_ => absurd c68_ (by decide))
          refine pw_blk hT 1 (S' := (86, [some (pvR 6), some (pvI 0), some (pvI 0), some (pvI 0)], [pvI 0], M61_)) rfl ⟨trivial, trivial⟩ ?_
          have b69_ : (-1) ≤ Int32.toInt (M61_.1 6 2) ∧ Int32.toInt (M61_.1 6 2) ≤ 100 := pvok_r o63_ 6 2 rfl
          have b70_ : (-1) ≤ Int32.toInt (M61_.1 6 3) ∧ Int32.toInt (M61_.1 6 3) ≤ 127 := pvok_r o63_ 6 3 rfl
          exact pw_ret hT rfl (r := some (pvI 0)) (M' := M61_) ⟨Or.inl rfl, rfl, rfl⟩ ⟨⟨_, rfl, (zr_wide (show 0 ≤ Int32.toInt 0 ∧ Int32.toInt 0 ≤ 0 from (by decide)) (by decide) (by decide))⟩, o63_, f65_, (by omega), (zOe_e ((zOp9_c hs (zOp9_y (zOm9_n (zOn9_0 (d := 0) hs (by decide)) d5_.2 c12_) (by decide) d18_.2 c25_) (by decide) d43_.2 c50_ d59_.2).1 c66_) (by decide))⟩
        · have b71_ : 1 ≤ Int32.toInt x60_ ∧ Int32.toInt x60_ ≤ 1 := (by have u0 := b62_; have u1 := (not_congr (zi_eq _ _)).mp c66_; have u2 := (show 0 ≤ Int32.toInt 0 ∧ Int32.toInt 0 ≤ 0 from (by decide)); omega)
          refine pw_blk hT 9 (S' := (74, [some (pvR 6), some (pvI 0), some (pvI 0), some (pvI 1)], [pvI 1, pvI ((0 - 0) - (0 - 0) / 2 * 2)], M61_)) rfl ⟨trivial, trivial, trivial, trivial, trivial, trivial, trivial, (by decide), trivial, trivial⟩ ?_
          refine pw_icn hT (c := ((0 - 0) - (0 - 0) / 2 * 2) = 1) rfl rfl (fun c72_ => ?_) (fun c72_ => absurd c72_ (by decide))
          refine pw_blk hT 1 (S' := (86, [some (pvR 6), some (pvI 0), some (pvI 0), some (pvI 1)], [pvI 1], M61_)) rfl ⟨trivial, trivial⟩ ?_
          have b73_ : (-1) ≤ Int32.toInt (M61_.1 6 2) ∧ Int32.toInt (M61_.1 6 2) ≤ 100 := pvok_r o63_ 6 2 rfl
          have b74_ : (-1) ≤ Int32.toInt (M61_.1 6 3) ∧ Int32.toInt (M61_.1 6 3) ≤ 127 := pvok_r o63_ 6 3 rfl
          exact pw_ret hT rfl (r := some (pvI 1)) (M' := M61_) ⟨Or.inr rfl, rfl, rfl⟩ ⟨⟨_, rfl, (zr_wide (show 1 ≤ Int32.toInt 1 ∧ Int32.toInt 1 ≤ 1 from (by decide)) (by decide) (by decide))⟩, o63_, f65_, (by omega), (zOe_e ((zOp9_c hs (zOp9_y (zOm9_n (zOn9_0 (d := 0) hs (by decide)) d5_.2 c12_) (by decide) d18_.2 c25_) (by decide) d43_.2 c50_ d59_.2).2 c66_) (by decide))⟩
  · have b75_ : 1 ≤ Int32.toInt x6_ ∧ Int32.toInt x6_ ≤ 1 := (by have u0 := b8_; have u1 := (not_congr (zi_eq _ _)).mp c12_; have u2 := (show 0 ≤ Int32.toInt 0 ∧ Int32.toInt 0 ≤ 0 from (by decide)); omega)
    refine pw_blk hT 2 (S' := (2, [some (pvR 6), some (pvI 0), some (pvI (0 + 1)), none], [], M7_)) rfl ⟨trivial, trivial, trivial⟩ ?_
    refine pw_blk hT 2 (S' := (4, [some (pvR 6), some (pvI 0), some (pvI (0 + 1)), none], [pvI 4, pvI (0 + 1)], M7_)) rfl ⟨trivial, trivial, trivial⟩ ?_
    refine pw_ic hT (c := 4 ≤ (0 + 1)) rfl rfl (fun c76_ => absurd c76_ (by decide)) (fun c76_ => ?_)
    refine pw_blk hT 2 (S' := (10, [some (pvR 6), some (pvI 0), some (pvI (0 + 1)), none], [pvI 33, pvR 6], M7_)) rfl ⟨trivial, trivial, trivial⟩ ?_
    have b77_ : (-1) ≤ Int32.toInt (M7_.1 6 2) ∧ Int32.toInt (M7_.1 6 2) ≤ 100 := pvok_r o9_ 6 2 rfl
    have b78_ : (-1) ≤ Int32.toInt (M7_.1 6 3) ∧ Int32.toInt (M7_.1 6 3) ≤ 127 := pvok_r o9_ 6 3 rfl
    refine pw_callGd hT (as := [pvR 6, pvI 33]) (lo1 := [some (pvR 6), some (pvI 33)]) (d1 := d) (rest := []) rfl rfl rfl rfl rfl (fun _ => rfl) (Nat.zero_le _) rfl rfl rfl (se_X5_readSign_6_x M7_ o9_ 33 (zr_wide (show 33 ≤ Int32.toInt 33 ∧ Int32.toInt 33 ≤ 33 from (by decide)) (by decide) (by decide)) (show (Int32.toInt (M7_.1 6 3) ≤ -1 ∨ Int32.toInt (M7_.1 6 2) ≤ 99) from (by omega)) d5_.2.1 d) (fun x80_ M81_ b82_ o83_ g84_ d79_ => ?_)
    have f85_ : pvFr fp_eX5_readOne_6_0 M M81_ := pvfr_t g84_ f11_ fp_eX5_readOne_6_0_fp_eX5_readSign_6_x
    refine pw_if hT (c := x80_ = 0) rfl rfl (fun c86_ => ?_) (fun c86_ => ?_)
    · have b87_ : 0 ≤ Int32.toInt x80_ ∧ Int32.toInt x80_ ≤ 0 := (by have u0 := b82_; have u1 := (zi_eq _ _).mp c86_; have u2 := (show 0 ≤ Int32.toInt 0 ∧ Int32.toInt 0 ≤ 0 from (by decide)); omega)
      refine pw_blk hT 2 (S' := (24, [some (pvR 6), some (pvI 0), some (pvI (0 + 1)), none], [pvI 4, pvI (0 + 1)], M81_)) rfl ⟨trivial, trivial, trivial⟩ ?_
      refine pw_ic hT (c := 4 ≤ (0 + 1)) rfl rfl (fun c88_ => absurd c88_ (by decide)) (fun c88_ => ?_)
      refine pw_blk hT 2 (S' := (30, [some (pvR 6), some (pvI 0), some (pvI (0 + 1)), none], [pvI 40, pvR 6], M81_)) rfl ⟨trivial, trivial, trivial⟩ ?_
      have u89_ : Int32.toInt 40 = 40 := by decide
      have b90_ : (-1) ≤ Int32.toInt (M81_.1 6 2) ∧ Int32.toInt (M81_.1 6 2) ≤ 100 := pvok_r o83_ 6 2 rfl
      have b91_ : (-1) ≤ Int32.toInt (M81_.1 6 3) ∧ Int32.toInt (M81_.1 6 3) ≤ 127 := pvok_r o83_ 6 3 rfl
      refine pw_callGd hT (as := [pvR 6, pvI 40]) (lo1 := [some (pvR 6), some (pvI 40)]) (d1 := d) (rest := []) rfl rfl rfl rfl rfl (fun _ => rfl) (Nat.zero_le _) rfl rfl rfl (se_X5_readSign_6_x M81_ o83_ 40 (zr_wide (show 40 ≤ Int32.toInt 40 ∧ Int32.toInt 40 ≤ 40 from (by decide)) (by decide) (by decide)) (show (Int32.toInt (M81_.1 6 3) ≤ -1 ∨ Int32.toInt (M81_.1 6 2) ≤ 99) from (by omega)) d79_.2.1 d) (fun x93_ M94_ b95_ o96_ g97_ d92_ => ?_)
      have f98_ : pvFr fp_eX5_readOne_6_0 M M94_ := pvfr_t g97_ f85_ fp_eX5_readOne_6_0_fp_eX5_readSign_6_x
      refine pw_if hT (c := x93_ = 0) rfl rfl (fun c99_ => ?_) (fun c99_ => ?_)
      · have b100_ : 0 ≤ Int32.toInt x93_ ∧ Int32.toInt x93_ ≤ 0 := (by have u0 := b95_; have u1 := (zi_eq _ _).mp c99_; have u2 := (show 0 ≤ Int32.toInt 0 ∧ Int32.toInt 0 ≤ 0 from (by decide)); omega)
        refine pw_blk hT 1 (S' := (64, [some (pvR 6), some (pvI 0), some (pvI (0 + 1)), none], [pvR 6], M94_)) rfl ⟨trivial, trivial⟩ ?_
        have b101_ : (-1) ≤ Int32.toInt (M94_.1 6 2) ∧ Int32.toInt (M94_.1 6 2) ≤ 100 := pvok_r o96_ 6 2 rfl
        have b102_ : (-1) ≤ Int32.toInt (M94_.1 6 3) ∧ Int32.toInt (M94_.1 6 3) ≤ 127 := pvok_r o96_ 6 3 rfl
        refine pw_callGd hT (as := [pvR 6]) (lo1 := [some (pvR 6), none, none, none]) (d1 := d) (rest := []) rfl rfl rfl rfl rfl (fun _ => rfl) (Nat.zero_le _) rfl rfl rfl (se_X5_readTest_6 M94_ o96_ (show (Int32.toInt (M94_.1 6 3) ≤ -1 ∨ Int32.toInt (M94_.1 6 2) ≤ 99) from (by omega)) (zOm9_rs hs (zOm9_p (zOm9_n (zOn9_b (zOn9_0 (d := 0) hs (by decide)) (by decide) d5_.2 c12_) d79_.2 c86_) d92_.2 c99_).1) d) (fun x104_ M105_ b106_ o107_ g108_ d103_ => ?_)
        have f109_ : pvFr fp_eX5_readOne_6_0 M M105_ := pvfr_t g108_ f98_ fp_eX5_readOne_6_0_fp_eX5_readTest_6
        refine pw_blk hT 7 (S' := (74, [some (pvR 6), some (pvI 0), some (pvI (0 + 1)), some (pvI x104_)], [pvI 1, pvI (((0 + 1) - 0) - ((0 + 1) - 0) / 2 * 2)], M105_)) rfl ⟨trivial, trivial, trivial, trivial, trivial, (by decide), trivial, trivial⟩ ?_
        refine pw_icn hT (c := (((0 + 1) - 0) - ((0 + 1) - 0) / 2 * 2) = 1) rfl rfl (fun c110_ => absurd (by decide) c110_) (fun c110_ => ?_)
        have b111_ : 15 ≤ Int32.toInt (M105_.1 6 4) ∧ Int32.toInt (M105_.1 6 4) ≤ 23 := pvok_r o107_ 6 4 rfl
        refine pw_blkr hT 2 (pc := 81) (lo := [some (pvR 6), some (pvI 0), some (pvI (0 + 1)), some (pvI x104_)]) (st := []) (M := M105_) (z := (pvhp (M105_.1 6 4))) rfl ⟨trivial, rfl, trivial⟩ (fun q112_ e114_ => ?_)
        have k113_ : pvkl q112_ = 2 := pvhp_k b111_ e114_
        refine pw_blk hT 1 (S' := (82, [some (pvR 6), some (pvI 0), some (pvI (0 + 1)), some (pvI x104_)], [pvI (-1), pvR q112_], M105_)) rfl ⟨trivial, trivial⟩ ?_
        refine pw_callVd hT (as := [pvR q112_, pvI (-1)]) (lo1 := [some (pvR q112_), some (pvI (-1))]) (d1 := d) (rest := []) rfl rfl rfl rfl rfl (fun _ => k113_) (Nat.zero_le _) rfl rfl rfl (se_X2_addStep_x_x M105_ o107_ q112_ (-1) k113_ (zr_wide (show (-1) ≤ Int32.toInt (-1) ∧ Int32.toInt (-1) ≤ (-1) from (by decide)) (by decide) (by decide)) d) (fun M117_ o119_ g120_ d115_ => ?_)
        have f121_ : pvFr fp_eX5_readOne_6_0 M M117_ := pvfr_t g120_ f109_ fp_eX5_readOne_6_0_fp_eX2_addStep_x_x
        refine pw_blk hT 1 (S' := (86, [some (pvR 6), some (pvI 0), some (pvI (0 + 1)), some (pvI x104_)], [pvI x104_], M117_)) rfl ⟨trivial, trivial⟩ ?_
        have e122_ : (M117_.1 6 2) = (M105_.1 6 2) := (g120_ 6 2 rfl)
        have b123_ : (-1) ≤ Int32.toInt (M117_.1 6 2) ∧ Int32.toInt (M117_.1 6 2) ≤ 100 := pvok_r o119_ 6 2 rfl
        have d124_ : Int32.toInt (M117_.1 6 2) = Int32.toInt (M105_.1 6 2) := congrArg Int32.toInt e122_
        have e125_ : (M117_.1 6 3) = (M105_.1 6 3) := (g120_ 6 3 rfl)
        have b126_ : (-1) ≤ Int32.toInt (M117_.1 6 3) ∧ Int32.toInt (M117_.1 6 3) ≤ 127 := pvok_r o119_ 6 3 rfl
        have d127_ : Int32.toInt (M117_.1 6 3) = Int32.toInt (M105_.1 6 3) := congrArg Int32.toInt e125_
        exact pw_ret hT rfl (r := some (pvI x104_)) (M' := M117_) ⟨pv01 b106_, rfl, rfl⟩ ⟨⟨_, rfl, b106_⟩, o119_, f121_, (by omega), (zOe_o hs (zOt9 hs (zOm9_p (zOm9_n (zOn9_b (zOn9_0 (d := 0) hs (by decide)) (by decide) d5_.2 c12_) d79_.2 c86_) d92_.2 c99_).1 (zOm9_p (zOm9_n (zOn9_b (zOn9_0 (d := 0) hs (by decide)) (by decide) d5_.2 c12_) d79_.2 c86_) d92_.2 c99_).2 d103_.2 (pv01 b106_)) (by decide) e114_ d115_)⟩
      · have b128_ : 1 ≤ Int32.toInt x93_ ∧ Int32.toInt x93_ ≤ 1 := (by have u0 := b95_; have u1 := (not_congr (zi_eq _ _)).mp c99_; have u2 := (show 0 ≤ Int32.toInt 0 ∧ Int32.toInt 0 ≤ 0 from (by decide)); omega)
        refine pw_blk hT 4 (S' := (40, [some (pvR 6), some (pvI 0), some (pvI (0 + 1)), none], [pvI ((0 + 1) + 1), pvR 6], M94_)) rfl ⟨trivial, trivial, trivial, trivial, trivial⟩ ?_
        have u129_ : Int32.toInt ((0 + 1) + 1) = 2 := by decide
        have b130_ : (-1) ≤ Int32.toInt (M94_.1 6 2) ∧ Int32.toInt (M94_.1 6 2) ≤ 100 := pvok_r o96_ 6 2 rfl
        have b131_ : (-1) ≤ Int32.toInt (M94_.1 6 3) ∧ Int32.toInt (M94_.1 6 3) ≤ 127 := pvok_r o96_ 6 3 rfl
        refine pw_callGd hT (as := [pvR 6, pvI ((0 + 1) + 1)]) (lo1 := [some (pvR 6), some (pvI ((0 + 1) + 1)), none]) (d1 := (d - 1)) (rest := []) rfl rfl rfl rfl rfl (fun _ => rfl) (show 1 ≤ d by omega) rfl rfl rfl (se_X5_readAny_6_2 M94_ o96_ (show (Int32.toInt (M94_.1 6 3) ≤ -1 ∨ Int32.toInt (M94_.1 6 2) ≤ 99) from (by omega)) (zOp9_rs hs (zOp9_y (zOm9_n (zOn9_b (zOn9_0 (d := 0) hs (by decide)) (by decide) d5_.2 c12_) d79_.2 c86_) (by decide) d92_.2 c99_)) (d - 1) (by omega)) (fun x133_ M134_ b135_ o136_ g137_ d132_ => ?_)
        have f138_ : pvFr fp_eX5_readOne_6_0 M M134_ := pvfr_t g137_ f98_ fp_eX5_readOne_6_0_fp_eX5_readAny_6_2
        refine pw_if hT (c := x133_ = 0) rfl rfl (fun c139_ => ?_) (fun c139_ => ?_)
        · have b140_ : 0 ≤ Int32.toInt x133_ ∧ Int32.toInt x133_ ≤ 0 := (by have u0 := b135_; have u1 := (zi_eq _ _).mp c139_; have u2 := (show 0 ≤ Int32.toInt 0 ∧ Int32.toInt 0 ≤ 0 from (by decide)); omega)
          refine pw_blk hT 9 (S' := (74, [some (pvR 6), some (pvI 0), some (pvI (0 + 1)), some (pvI 0)], [pvI 1, pvI (((0 + 1) - 0) - ((0 + 1) - 0) / 2 * 2)], M134_)) rfl ⟨trivial, trivial, trivial, trivial, trivial, trivial, trivial, (by decide), trivial, trivial⟩ ?_
          refine pw_icn hT (c := (((0 + 1) - 0) - ((0 + 1) - 0) / 2 * 2) = 1) rfl rfl (fun c141_ => absurd (by decide) c141_) (fun c141_ => ?_)
          have b142_ : 15 ≤ Int32.toInt (M134_.1 6 4) ∧ Int32.toInt (M134_.1 6 4) ≤ 23 := pvok_r o136_ 6 4 rfl
          refine pw_blkr hT 2 (pc := 81) (lo := [some (pvR 6), some (pvI 0), some (pvI (0 + 1)), some (pvI 0)]) (st := []) (M := M134_) (z := (pvhp (M134_.1 6 4))) rfl ⟨trivial, rfl, trivial⟩ (fun q143_ e145_ => ?_)
          have k144_ : pvkl q143_ = 2 := pvhp_k b142_ e145_
          refine pw_blk hT 1 (S' := (82, [some (pvR 6), some (pvI 0), some (pvI (0 + 1)), some (pvI 0)], [pvI (-1), pvR q143_], M134_)) rfl ⟨trivial, trivial⟩ ?_
          refine pw_callVd hT (as := [pvR q143_, pvI (-1)]) (lo1 := [some (pvR q143_), some (pvI (-1))]) (d1 := d) (rest := []) rfl rfl rfl rfl rfl (fun _ => k144_) (Nat.zero_le _) rfl rfl rfl (se_X2_addStep_x_x M134_ o136_ q143_ (-1) k144_ (zr_wide (show (-1) ≤ Int32.toInt (-1) ∧ Int32.toInt (-1) ≤ (-1) from (by decide)) (by decide) (by decide)) d) (fun M148_ o150_ g151_ d146_ => ?_)
          have f152_ : pvFr fp_eX5_readOne_6_0 M M148_ := pvfr_t g151_ f138_ fp_eX5_readOne_6_0_fp_eX2_addStep_x_x
          refine pw_blk hT 1 (S' := (86, [some (pvR 6), some (pvI 0), some (pvI (0 + 1)), some (pvI 0)], [pvI 0], M148_)) rfl ⟨trivial, trivial⟩ ?_
          have e153_ : (M148_.1 6 2) = (M134_.1 6 2) := (g151_ 6 2 rfl)
          have b154_ : (-1) ≤ Int32.toInt (M148_.1 6 2) ∧ Int32.toInt (M148_.1 6 2) ≤ 100 := pvok_r o150_ 6 2 rfl
          have d155_ : Int32.toInt (M148_.1 6 2) = Int32.toInt (M134_.1 6 2) := congrArg Int32.toInt e153_
          have e156_ : (M148_.1 6 3) = (M134_.1 6 3) := (g151_ 6 3 rfl)
          have b157_ : (-1) ≤ Int32.toInt (M148_.1 6 3) ∧ Int32.toInt (M148_.1 6 3) ≤ 127 := pvok_r o150_ 6 3 rfl
          have d158_ : Int32.toInt (M148_.1 6 3) = Int32.toInt (M134_.1 6 3) := congrArg Int32.toInt e156_
          exact pw_ret hT rfl (r := some (pvI 0)) (M' := M148_) ⟨Or.inl rfl, rfl, rfl⟩ ⟨⟨_, rfl, (zr_wide (show 0 ≤ Int32.toInt 0 ∧ Int32.toInt 0 ≤ 0 from (by decide)) (by decide) (by decide))⟩, o150_, f152_, (by omega), (zOe_o hs (zOp9_n (zOp9_y (zOm9_n (zOn9_b (zOn9_0 (d := 0) hs (by decide)) (by decide) d5_.2 c12_) d79_.2 c86_) (by decide) d92_.2 c99_) (by decide) d132_.2 c139_) (by decide) e145_ d146_)⟩
        · have b159_ : 1 ≤ Int32.toInt x133_ ∧ Int32.toInt x133_ ≤ 1 := (by have u0 := b135_; have u1 := (not_congr (zi_eq _ _)).mp c139_; have u2 := (show 0 ≤ Int32.toInt 0 ∧ Int32.toInt 0 ≤ 0 from (by decide)); omega)
          refine pw_blk hT 2 (S' := (49, [some (pvR 6), some (pvI 0), some (pvI (0 + 1)), none], [pvI 41, pvR 6], M134_)) rfl ⟨trivial, trivial, trivial⟩ ?_
          have u160_ : Int32.toInt 41 = 41 := by decide
          have b161_ : (-1) ≤ Int32.toInt (M134_.1 6 2) ∧ Int32.toInt (M134_.1 6 2) ≤ 100 := pvok_r o136_ 6 2 rfl
          have b162_ : (-1) ≤ Int32.toInt (M134_.1 6 3) ∧ Int32.toInt (M134_.1 6 3) ≤ 127 := pvok_r o136_ 6 3 rfl
          refine pw_callGd hT (as := [pvR 6, pvI 41]) (lo1 := [some (pvR 6), some (pvI 41)]) (d1 := d) (rest := []) rfl rfl rfl rfl rfl (fun _ => rfl) (Nat.zero_le _) rfl rfl rfl (se_X5_readSign_6_x M134_ o136_ 41 (zr_wide (show 41 ≤ Int32.toInt 41 ∧ Int32.toInt 41 ≤ 41 from (by decide)) (by decide) (by decide)) (show (Int32.toInt (M134_.1 6 3) ≤ -1 ∨ Int32.toInt (M134_.1 6 2) ≤ 99) from (by omega)) d132_.2.1 d) (fun x164_ M165_ b166_ o167_ g168_ d163_ => ?_)
          have f169_ : pvFr fp_eX5_readOne_6_0 M M165_ := pvfr_t g168_ f138_ fp_eX5_readOne_6_0_fp_eX5_readSign_6_x
          refine pw_if hT (c := x164_ = 0) rfl rfl (fun c170_ => ?_) (fun c170_ => ?_)
          · have b171_ : 0 ≤ Int32.toInt x164_ ∧ Int32.toInt x164_ ≤ 0 := (by have u0 := b166_; have u1 := (zi_eq _ _).mp c170_; have u2 := (show 0 ≤ Int32.toInt 0 ∧ Int32.toInt 0 ≤ 0 from (by decide)); omega)
            refine pw_blk hT 9 (S' := (74, [some (pvR 6), some (pvI 0), some (pvI (0 + 1)), some (pvI 0)], [pvI 1, pvI (((0 + 1) - 0) - ((0 + 1) - 0) / 2 * 2)], M165_)) rfl ⟨trivial, trivial, trivial, trivial, trivial, trivial, trivial, (by decide), trivial, trivial⟩ ?_
            refine pw_icn hT (c := (((0 + 1) - 0) - ((0 + 1) - 0) / 2 * 2) = 1) rfl rfl (fun c172_ => absurd (by decide) c172_) (fun c172_ => ?_)
            have b173_ : 15 ≤ Int32.toInt (M165_.1 6 4) ∧ Int32.toInt (M165_.1 6 4) ≤ 23 := pvok_r o167_ 6 4 rfl
            refine pw_blkr hT 2 (pc := 81) (lo := [some (pvR 6), some (pvI 0), some (pvI (0 + 1)), some (pvI 0)]) (st := []) (M := M165_) (z := (pvhp (M165_.1 6 4))) rfl ⟨trivial, rfl, trivial⟩ (fun q174_ e176_ => ?_)
            have k175_ : pvkl q174_ = 2 := pvhp_k b173_ e176_
            refine pw_blk hT 1 (S' := (82, [some (pvR 6), some (pvI 0), some (pvI (0 + 1)), some (pvI 0)], [pvI (-1), pvR q174_], M165_)) rfl ⟨trivial, trivial⟩ ?_
            refine pw_callVd hT (as := [pvR q174_, pvI (-1)]) (lo1 := [some (pvR q174_), some (pvI (-1))]) (d1 := d) (rest := []) rfl rfl rfl rfl rfl (fun _ => k175_) (Nat.zero_le _) rfl rfl rfl (se_X2_addStep_x_x M165_ o167_ q174_ (-1) k175_ (zr_wide (show (-1) ≤ Int32.toInt (-1) ∧ Int32.toInt (-1) ≤ (-1) from (by decide)) (by decide) (by decide)) d) (fun M179_ o181_ g182_ d177_ => ?_)
            have f183_ : pvFr fp_eX5_readOne_6_0 M M179_ := pvfr_t g182_ f169_ fp_eX5_readOne_6_0_fp_eX2_addStep_x_x
            refine pw_blk hT 1 (S' := (86, [some (pvR 6), some (pvI 0), some (pvI (0 + 1)), some (pvI 0)], [pvI 0], M179_)) rfl ⟨trivial, trivial⟩ ?_
            have e184_ : (M179_.1 6 2) = (M165_.1 6 2) := (g182_ 6 2 rfl)
            have b185_ : (-1) ≤ Int32.toInt (M179_.1 6 2) ∧ Int32.toInt (M179_.1 6 2) ≤ 100 := pvok_r o181_ 6 2 rfl
            have d186_ : Int32.toInt (M179_.1 6 2) = Int32.toInt (M165_.1 6 2) := congrArg Int32.toInt e184_
            have e187_ : (M179_.1 6 3) = (M165_.1 6 3) := (g182_ 6 3 rfl)
            have b188_ : (-1) ≤ Int32.toInt (M179_.1 6 3) ∧ Int32.toInt (M179_.1 6 3) ≤ 127 := pvok_r o181_ 6 3 rfl
            have d189_ : Int32.toInt (M179_.1 6 3) = Int32.toInt (M165_.1 6 3) := congrArg Int32.toInt e187_
            exact pw_ret hT rfl (r := some (pvI 0)) (M' := M179_) ⟨Or.inl rfl, rfl, rfl⟩ ⟨⟨_, rfl, (zr_wide (show 0 ≤ Int32.toInt 0 ∧ Int32.toInt 0 ≤ 0 from (by decide)) (by decide) (by decide))⟩, o181_, f183_, (by omega), (zOe_o hs ((zOp9_c hs (zOp9_y (zOm9_n (zOn9_b (zOn9_0 (d := 0) hs (by decide)) (by decide) d5_.2 c12_) d79_.2 c86_) (by decide) d92_.2 c99_) (by decide) d132_.2 c139_ d163_.2).1 c170_) (by decide) e176_ d177_)⟩
          · have b190_ : 1 ≤ Int32.toInt x164_ ∧ Int32.toInt x164_ ≤ 1 := (by have u0 := b166_; have u1 := (not_congr (zi_eq _ _)).mp c170_; have u2 := (show 0 ≤ Int32.toInt 0 ∧ Int32.toInt 0 ≤ 0 from (by decide)); omega)
            refine pw_blk hT 9 (S' := (74, [some (pvR 6), some (pvI 0), some (pvI (0 + 1)), some (pvI 1)], [pvI 1, pvI (((0 + 1) - 0) - ((0 + 1) - 0) / 2 * 2)], M165_)) rfl ⟨trivial, trivial, trivial, trivial, trivial, trivial, trivial, (by decide), trivial, trivial⟩ ?_
            refine pw_icn hT (c := (((0 + 1) - 0) - ((0 + 1) - 0) / 2 * 2) = 1) rfl rfl (fun c191_ => absurd (by decide) c191_) (fun c191_ => ?_)
            have b192_ : 15 ≤ Int32.toInt (M165_.1 6 4) ∧ Int32.toInt (M165_.1 6 4) ≤ 23 := pvok_r o167_ 6 4 rfl
            refine pw_blkr hT 2 (pc := 81) (lo := [some (pvR 6), some (pvI 0), some (pvI (0 + 1)), some (pvI 1)]) (st := []) (M := M165_) (z := (pvhp (M165_.1 6 4))) rfl ⟨trivial, rfl, trivial⟩ (fun q193_ e195_ => ?_)
            have k194_ : pvkl q193_ = 2 := pvhp_k b192_ e195_
            refine pw_blk hT 1 (S' := (82, [some (pvR 6), some (pvI 0), some (pvI (0 + 1)), some (pvI 1)], [pvI (-1), pvR q193_], M165_)) rfl ⟨trivial, trivial⟩ ?_
            refine pw_callVd hT (as := [pvR q193_, pvI (-1)]) (lo1 := [some (pvR q193_), some (pvI (-1))]) (d1 := d) (rest := []) rfl rfl rfl rfl rfl (fun _ => k194_) (Nat.zero_le _) rfl rfl rfl (se_X2_addStep_x_x M165_ o167_ q193_ (-1) k194_ (zr_wide (show (-1) ≤ Int32.toInt (-1) ∧ Int32.toInt (-1) ≤ (-1) from (by decide)) (by decide) (by decide)) d) (fun M198_ o200_ g201_ d196_ => ?_)
            have f202_ : pvFr fp_eX5_readOne_6_0 M M198_ := pvfr_t g201_ f169_ fp_eX5_readOne_6_0_fp_eX2_addStep_x_x
            refine pw_blk hT 1 (S' := (86, [some (pvR 6), some (pvI 0), some (pvI (0 + 1)), some (pvI 1)], [pvI 1], M198_)) rfl ⟨trivial, trivial⟩ ?_
            have e203_ : (M198_.1 6 2) = (M165_.1 6 2) := (g201_ 6 2 rfl)
            have b204_ : (-1) ≤ Int32.toInt (M198_.1 6 2) ∧ Int32.toInt (M198_.1 6 2) ≤ 100 := pvok_r o200_ 6 2 rfl
            have d205_ : Int32.toInt (M198_.1 6 2) = Int32.toInt (M165_.1 6 2) := congrArg Int32.toInt e203_
            have e206_ : (M198_.1 6 3) = (M165_.1 6 3) := (g201_ 6 3 rfl)
            have b207_ : (-1) ≤ Int32.toInt (M198_.1 6 3) ∧ Int32.toInt (M198_.1 6 3) ≤ 127 := pvok_r o200_ 6 3 rfl
            have d208_ : Int32.toInt (M198_.1 6 3) = Int32.toInt (M165_.1 6 3) := congrArg Int32.toInt e206_
            exact pw_ret hT rfl (r := some (pvI 1)) (M' := M198_) ⟨Or.inr rfl, rfl, rfl⟩ ⟨⟨_, rfl, (zr_wide (show 1 ≤ Int32.toInt 1 ∧ Int32.toInt 1 ≤ 1 from (by decide)) (by decide) (by decide))⟩, o200_, f202_, (by omega), (zOe_o hs ((zOp9_c hs (zOp9_y (zOm9_n (zOn9_b (zOn9_0 (d := 0) hs (by decide)) (by decide) d5_.2 c12_) d79_.2 c86_) (by decide) d92_.2 c99_) (by decide) d132_.2 c139_ d163_.2).2 c170_) (by decide) e195_ d196_)⟩
    · have b209_ : 1 ≤ Int32.toInt x80_ ∧ Int32.toInt x80_ ≤ 1 := (by have u0 := b82_; have u1 := (not_congr (zi_eq _ _)).mp c86_; have u2 := (show 0 ≤ Int32.toInt 0 ∧ Int32.toInt 0 ≤ 0 from (by decide)); omega)
      refine pw_blk hT 2 (S' := (2, [some (pvR 6), some (pvI 0), some (pvI ((0 + 1) + 1)), none], [], M81_)) rfl ⟨trivial, trivial, trivial⟩ ?_
      refine pw_blk hT 2 (S' := (4, [some (pvR 6), some (pvI 0), some (pvI ((0 + 1) + 1)), none], [pvI 4, pvI ((0 + 1) + 1)], M81_)) rfl ⟨trivial, trivial, trivial⟩ ?_
      refine pw_ic hT (c := 4 ≤ ((0 + 1) + 1)) rfl rfl (fun c210_ => absurd c210_ (by decide)) (fun c210_ => ?_)
      refine pw_blk hT 2 (S' := (10, [some (pvR 6), some (pvI 0), some (pvI ((0 + 1) + 1)), none], [pvI 33, pvR 6], M81_)) rfl ⟨trivial, trivial, trivial⟩ ?_
      have b211_ : (-1) ≤ Int32.toInt (M81_.1 6 2) ∧ Int32.toInt (M81_.1 6 2) ≤ 100 := pvok_r o83_ 6 2 rfl
      have b212_ : (-1) ≤ Int32.toInt (M81_.1 6 3) ∧ Int32.toInt (M81_.1 6 3) ≤ 127 := pvok_r o83_ 6 3 rfl
      refine pw_callGd hT (as := [pvR 6, pvI 33]) (lo1 := [some (pvR 6), some (pvI 33)]) (d1 := d) (rest := []) rfl rfl rfl rfl rfl (fun _ => rfl) (Nat.zero_le _) rfl rfl rfl (se_X5_readSign_6_x M81_ o83_ 33 (zr_wide (show 33 ≤ Int32.toInt 33 ∧ Int32.toInt 33 ≤ 33 from (by decide)) (by decide) (by decide)) (show (Int32.toInt (M81_.1 6 3) ≤ -1 ∨ Int32.toInt (M81_.1 6 2) ≤ 99) from (by omega)) d79_.2.1 d) (fun x214_ M215_ b216_ o217_ g218_ d213_ => ?_)
      have f219_ : pvFr fp_eX5_readOne_6_0 M M215_ := pvfr_t g218_ f85_ fp_eX5_readOne_6_0_fp_eX5_readSign_6_x
      refine pw_if hT (c := x214_ = 0) rfl rfl (fun c220_ => ?_) (fun c220_ => ?_)
      · have b221_ : 0 ≤ Int32.toInt x214_ ∧ Int32.toInt x214_ ≤ 0 := (by have u0 := b216_; have u1 := (zi_eq _ _).mp c220_; have u2 := (show 0 ≤ Int32.toInt 0 ∧ Int32.toInt 0 ≤ 0 from (by decide)); omega)
        refine pw_blk hT 2 (S' := (24, [some (pvR 6), some (pvI 0), some (pvI ((0 + 1) + 1)), none], [pvI 4, pvI ((0 + 1) + 1)], M215_)) rfl ⟨trivial, trivial, trivial⟩ ?_
        refine pw_ic hT (c := 4 ≤ ((0 + 1) + 1)) rfl rfl (fun c222_ => absurd c222_ (by decide)) (fun c222_ => ?_)
        refine pw_blk hT 2 (S' := (30, [some (pvR 6), some (pvI 0), some (pvI ((0 + 1) + 1)), none], [pvI 40, pvR 6], M215_)) rfl ⟨trivial, trivial, trivial⟩ ?_
        have u223_ : Int32.toInt 40 = 40 := by decide
        have b224_ : (-1) ≤ Int32.toInt (M215_.1 6 2) ∧ Int32.toInt (M215_.1 6 2) ≤ 100 := pvok_r o217_ 6 2 rfl
        have b225_ : (-1) ≤ Int32.toInt (M215_.1 6 3) ∧ Int32.toInt (M215_.1 6 3) ≤ 127 := pvok_r o217_ 6 3 rfl
        refine pw_callGd hT (as := [pvR 6, pvI 40]) (lo1 := [some (pvR 6), some (pvI 40)]) (d1 := d) (rest := []) rfl rfl rfl rfl rfl (fun _ => rfl) (Nat.zero_le _) rfl rfl rfl (se_X5_readSign_6_x M215_ o217_ 40 (zr_wide (show 40 ≤ Int32.toInt 40 ∧ Int32.toInt 40 ≤ 40 from (by decide)) (by decide) (by decide)) (show (Int32.toInt (M215_.1 6 3) ≤ -1 ∨ Int32.toInt (M215_.1 6 2) ≤ 99) from (by omega)) d213_.2.1 d) (fun x227_ M228_ b229_ o230_ g231_ d226_ => ?_)
        have f232_ : pvFr fp_eX5_readOne_6_0 M M228_ := pvfr_t g231_ f219_ fp_eX5_readOne_6_0_fp_eX5_readSign_6_x
        refine pw_if hT (c := x227_ = 0) rfl rfl (fun c233_ => ?_) (fun c233_ => ?_)
        · have b234_ : 0 ≤ Int32.toInt x227_ ∧ Int32.toInt x227_ ≤ 0 := (by have u0 := b229_; have u1 := (zi_eq _ _).mp c233_; have u2 := (show 0 ≤ Int32.toInt 0 ∧ Int32.toInt 0 ≤ 0 from (by decide)); omega)
          refine pw_blk hT 1 (S' := (64, [some (pvR 6), some (pvI 0), some (pvI ((0 + 1) + 1)), none], [pvR 6], M228_)) rfl ⟨trivial, trivial⟩ ?_
          have b235_ : (-1) ≤ Int32.toInt (M228_.1 6 2) ∧ Int32.toInt (M228_.1 6 2) ≤ 100 := pvok_r o230_ 6 2 rfl
          have b236_ : (-1) ≤ Int32.toInt (M228_.1 6 3) ∧ Int32.toInt (M228_.1 6 3) ≤ 127 := pvok_r o230_ 6 3 rfl
          refine pw_callGd hT (as := [pvR 6]) (lo1 := [some (pvR 6), none, none, none]) (d1 := d) (rest := []) rfl rfl rfl rfl rfl (fun _ => rfl) (Nat.zero_le _) rfl rfl rfl (se_X5_readTest_6 M228_ o230_ (show (Int32.toInt (M228_.1 6 3) ≤ -1 ∨ Int32.toInt (M228_.1 6 2) ≤ 99) from (by omega)) (zOm9_rs hs (zOm9_p (zOm9_n (zOn9_b (zOn9_b (zOn9_0 (d := 0) hs (by decide)) (by decide) d5_.2 c12_) (by decide) d79_.2 c86_) d213_.2 c220_) d226_.2 c233_).1) d) (fun x238_ M239_ b240_ o241_ g242_ d237_ => ?_)
          have f243_ : pvFr fp_eX5_readOne_6_0 M M239_ := pvfr_t g242_ f232_ fp_eX5_readOne_6_0_fp_eX5_readTest_6
          refine pw_blk hT 7 (S' := (74, [some (pvR 6), some (pvI 0), some (pvI ((0 + 1) + 1)), some (pvI x238_)], [pvI 1, pvI ((((0 + 1) + 1) - 0) - (((0 + 1) + 1) - 0) / 2 * 2)], M239_)) rfl ⟨trivial, trivial, trivial, trivial, trivial, (by decide), trivial, trivial⟩ ?_
          refine pw_icn hT (c := ((((0 + 1) + 1) - 0) - (((0 + 1) + 1) - 0) / 2 * 2) = 1) rfl rfl (fun c244_ => ?_) (fun c244_ => absurd c244_ (by decide))
          refine pw_blk hT 1 (S' := (86, [some (pvR 6), some (pvI 0), some (pvI ((0 + 1) + 1)), some (pvI x238_)], [pvI x238_], M239_)) rfl ⟨trivial, trivial⟩ ?_
          have b245_ : (-1) ≤ Int32.toInt (M239_.1 6 2) ∧ Int32.toInt (M239_.1 6 2) ≤ 100 := pvok_r o241_ 6 2 rfl
          have b246_ : (-1) ≤ Int32.toInt (M239_.1 6 3) ∧ Int32.toInt (M239_.1 6 3) ≤ 127 := pvok_r o241_ 6 3 rfl
          exact pw_ret hT rfl (r := some (pvI x238_)) (M' := M239_) ⟨pv01 b240_, rfl, rfl⟩ ⟨⟨_, rfl, b240_⟩, o241_, f243_, (by omega), (zOe_e (zOt9 hs (zOm9_p (zOm9_n (zOn9_b (zOn9_b (zOn9_0 (d := 0) hs (by decide)) (by decide) d5_.2 c12_) (by decide) d79_.2 c86_) d213_.2 c220_) d226_.2 c233_).1 (zOm9_p (zOm9_n (zOn9_b (zOn9_b (zOn9_0 (d := 0) hs (by decide)) (by decide) d5_.2 c12_) (by decide) d79_.2 c86_) d213_.2 c220_) d226_.2 c233_).2 d237_.2 (pv01 b240_)) (by decide))⟩
        · have b247_ : 1 ≤ Int32.toInt x227_ ∧ Int32.toInt x227_ ≤ 1 := (by have u0 := b229_; have u1 := (not_congr (zi_eq _ _)).mp c233_; have u2 := (show 0 ≤ Int32.toInt 0 ∧ Int32.toInt 0 ≤ 0 from (by decide)); omega)
          refine pw_blk hT 4 (S' := (40, [some (pvR 6), some (pvI 0), some (pvI ((0 + 1) + 1)), none], [pvI (((0 + 1) + 1) + 1), pvR 6], M228_)) rfl ⟨trivial, trivial, trivial, trivial, trivial⟩ ?_
          have u248_ : Int32.toInt (((0 + 1) + 1) + 1) = 3 := by decide
          have b249_ : (-1) ≤ Int32.toInt (M228_.1 6 2) ∧ Int32.toInt (M228_.1 6 2) ≤ 100 := pvok_r o230_ 6 2 rfl
          have b250_ : (-1) ≤ Int32.toInt (M228_.1 6 3) ∧ Int32.toInt (M228_.1 6 3) ≤ 127 := pvok_r o230_ 6 3 rfl
          refine pw_callGd hT (as := [pvR 6, pvI (((0 + 1) + 1) + 1)]) (lo1 := [some (pvR 6), some (pvI (((0 + 1) + 1) + 1)), none]) (d1 := (d - 1)) (rest := []) rfl rfl rfl rfl rfl (fun _ => rfl) (show 1 ≤ d by omega) rfl rfl rfl (se_X5_readAny_6_3 M228_ o230_ (show (Int32.toInt (M228_.1 6 3) ≤ -1 ∨ Int32.toInt (M228_.1 6 2) ≤ 99) from (by omega)) (zOp9_rs hs (zOp9_y (zOm9_n (zOn9_b (zOn9_b (zOn9_0 (d := 0) hs (by decide)) (by decide) d5_.2 c12_) (by decide) d79_.2 c86_) d213_.2 c220_) (by decide) d226_.2 c233_)) (d - 1) (by omega)) (fun x252_ M253_ b254_ o255_ g256_ d251_ => ?_)
          have f257_ : pvFr fp_eX5_readOne_6_0 M M253_ := pvfr_t g256_ f232_ fp_eX5_readOne_6_0_fp_eX5_readAny_6_3
          refine pw_if hT (c := x252_ = 0) rfl rfl (fun c258_ => ?_) (fun c258_ => ?_)
          · have b259_ : 0 ≤ Int32.toInt x252_ ∧ Int32.toInt x252_ ≤ 0 := (by have u0 := b254_; have u1 := (zi_eq _ _).mp c258_; have u2 := (show 0 ≤ Int32.toInt 0 ∧ Int32.toInt 0 ≤ 0 from (by decide)); omega)
            refine pw_blk hT 9 (S' := (74, [some (pvR 6), some (pvI 0), some (pvI ((0 + 1) + 1)), some (pvI 0)], [pvI 1, pvI ((((0 + 1) + 1) - 0) - (((0 + 1) + 1) - 0) / 2 * 2)], M253_)) rfl ⟨trivial, trivial, trivial, trivial, trivial, trivial, trivial, (by decide), trivial, trivial⟩ ?_
            refine pw_icn hT (c := ((((0 + 1) + 1) - 0) - (((0 + 1) + 1) - 0) / 2 * 2) = 1) rfl rfl (fun c260_ => ?_) (fun c260_ => absurd c260_ (by decide))
            refine pw_blk hT 1 (S' := (86, [some (pvR 6), some (pvI 0), some (pvI ((0 + 1) + 1)), some (pvI 0)], [pvI 0], M253_)) rfl ⟨trivial, trivial⟩ ?_
            have b261_ : (-1) ≤ Int32.toInt (M253_.1 6 2) ∧ Int32.toInt (M253_.1 6 2) ≤ 100 := pvok_r o255_ 6 2 rfl
            have b262_ : (-1) ≤ Int32.toInt (M253_.1 6 3) ∧ Int32.toInt (M253_.1 6 3) ≤ 127 := pvok_r o255_ 6 3 rfl
            exact pw_ret hT rfl (r := some (pvI 0)) (M' := M253_) ⟨Or.inl rfl, rfl, rfl⟩ ⟨⟨_, rfl, (zr_wide (show 0 ≤ Int32.toInt 0 ∧ Int32.toInt 0 ≤ 0 from (by decide)) (by decide) (by decide))⟩, o255_, f257_, (by omega), (zOe_e (zOp9_n (zOp9_y (zOm9_n (zOn9_b (zOn9_b (zOn9_0 (d := 0) hs (by decide)) (by decide) d5_.2 c12_) (by decide) d79_.2 c86_) d213_.2 c220_) (by decide) d226_.2 c233_) (by decide) d251_.2 c258_) (by decide))⟩
          · have b263_ : 1 ≤ Int32.toInt x252_ ∧ Int32.toInt x252_ ≤ 1 := (by have u0 := b254_; have u1 := (not_congr (zi_eq _ _)).mp c258_; have u2 := (show 0 ≤ Int32.toInt 0 ∧ Int32.toInt 0 ≤ 0 from (by decide)); omega)
            refine pw_blk hT 2 (S' := (49, [some (pvR 6), some (pvI 0), some (pvI ((0 + 1) + 1)), none], [pvI 41, pvR 6], M253_)) rfl ⟨trivial, trivial, trivial⟩ ?_
            have u264_ : Int32.toInt 41 = 41 := by decide
            have b265_ : (-1) ≤ Int32.toInt (M253_.1 6 2) ∧ Int32.toInt (M253_.1 6 2) ≤ 100 := pvok_r o255_ 6 2 rfl
            have b266_ : (-1) ≤ Int32.toInt (M253_.1 6 3) ∧ Int32.toInt (M253_.1 6 3) ≤ 127 := pvok_r o255_ 6 3 rfl
            refine pw_callGd hT (as := [pvR 6, pvI 41]) (lo1 := [some (pvR 6), some (pvI 41)]) (d1 := d) (rest := []) rfl rfl rfl rfl rfl (fun _ => rfl) (Nat.zero_le _) rfl rfl rfl (se_X5_readSign_6_x M253_ o255_ 41 (zr_wide (show 41 ≤ Int32.toInt 41 ∧ Int32.toInt 41 ≤ 41 from (by decide)) (by decide) (by decide)) (show (Int32.toInt (M253_.1 6 3) ≤ -1 ∨ Int32.toInt (M253_.1 6 2) ≤ 99) from (by omega)) d251_.2.1 d) (fun x268_ M269_ b270_ o271_ g272_ d267_ => ?_)
            have f273_ : pvFr fp_eX5_readOne_6_0 M M269_ := pvfr_t g272_ f257_ fp_eX5_readOne_6_0_fp_eX5_readSign_6_x
            refine pw_if hT (c := x268_ = 0) rfl rfl (fun c274_ => ?_) (fun c274_ => ?_)
            · have b275_ : 0 ≤ Int32.toInt x268_ ∧ Int32.toInt x268_ ≤ 0 := (by have u0 := b270_; have u1 := (zi_eq _ _).mp c274_; have u2 := (show 0 ≤ Int32.toInt 0 ∧ Int32.toInt 0 ≤ 0 from (by decide)); omega)
              refine pw_blk hT 9 (S' := (74, [some (pvR 6), some (pvI 0), some (pvI ((0 + 1) + 1)), some (pvI 0)], [pvI 1, pvI ((((0 + 1) + 1) - 0) - (((0 + 1) + 1) - 0) / 2 * 2)], M269_)) rfl ⟨trivial, trivial, trivial, trivial, trivial, trivial, trivial, (by decide), trivial, trivial⟩ ?_
              refine pw_icn hT (c := ((((0 + 1) + 1) - 0) - (((0 + 1) + 1) - 0) / 2 * 2) = 1) rfl rfl (fun c276_ => ?_) (fun c276_ => absurd c276_ (by decide))
              refine pw_blk hT 1 (S' := (86, [some (pvR 6), some (pvI 0), some (pvI ((0 + 1) + 1)), some (pvI 0)], [pvI 0], M269_)) rfl ⟨trivial, trivial⟩ ?_
              have b277_ : (-1) ≤ Int32.toInt (M269_.1 6 2) ∧ Int32.toInt (M269_.1 6 2) ≤ 100 := pvok_r o271_ 6 2 rfl
              have b278_ : (-1) ≤ Int32.toInt (M269_.1 6 3) ∧ Int32.toInt (M269_.1 6 3) ≤ 127 := pvok_r o271_ 6 3 rfl
              exact pw_ret hT rfl (r := some (pvI 0)) (M' := M269_) ⟨Or.inl rfl, rfl, rfl⟩ ⟨⟨_, rfl, (zr_wide (show 0 ≤ Int32.toInt 0 ∧ Int32.toInt 0 ≤ 0 from (by decide)) (by decide) (by decide))⟩, o271_, f273_, (by omega), (zOe_e ((zOp9_c hs (zOp9_y (zOm9_n (zOn9_b (zOn9_b (zOn9_0 (d := 0) hs (by decide)) (by decide) d5_.2 c12_) (by decide) d79_.2 c86_) d213_.2 c220_) (by decide) d226_.2 c233_) (by decide) d251_.2 c258_ d267_.2).1 c274_) (by decide))⟩
            · have b279_ : 1 ≤ Int32.toInt x268_ ∧ Int32.toInt x268_ ≤ 1 := (by have u0 := b270_; have u1 := (not_congr (zi_eq _ _)).mp c274_; have u2 := (show 0 ≤ Int32.toInt 0 ∧ Int32.toInt 0 ≤ 0 from (by decide)); omega)
              refine pw_blk hT 9 (S' := (74, [some (pvR 6), some (pvI 0), some (pvI ((0 + 1) + 1)), some (pvI 1)], [pvI 1, pvI ((((0 + 1) + 1) - 0) - (((0 + 1) + 1) - 0) / 2 * 2)], M269_)) rfl ⟨trivial, trivial, trivial, trivial, trivial, trivial, trivial, (by decide), trivial, trivial⟩ ?_
              refine pw_icn hT (c := ((((0 + 1) + 1) - 0) - (((0 + 1) + 1) - 0) / 2 * 2) = 1) rfl rfl (fun c280_ => ?_) (fun c280_ => absurd c280_ (by decide))
              refine pw_blk hT 1 (S' := (86, [some (pvR 6), some (pvI 0), some (pvI ((0 + 1) + 1)), some (pvI 1)], [pvI 1], M269_)) rfl ⟨trivial, trivial⟩ ?_
              have b281_ : (-1) ≤ Int32.toInt (M269_.1 6 2) ∧ Int32.toInt (M269_.1 6 2) ≤ 100 := pvok_r o271_ 6 2 rfl
              have b282_ : (-1) ≤ Int32.toInt (M269_.1 6 3) ∧ Int32.toInt (M269_.1 6 3) ≤ 127 := pvok_r o271_ 6 3 rfl
              exact pw_ret hT rfl (r := some (pvI 1)) (M' := M269_) ⟨Or.inr rfl, rfl, rfl⟩ ⟨⟨_, rfl, (zr_wide (show 1 ≤ Int32.toInt 1 ∧ Int32.toInt 1 ≤ 1 from (by decide)) (by decide) (by decide))⟩, o271_, f273_, (by omega), (zOe_e ((zOp9_c hs (zOp9_y (zOm9_n (zOn9_b (zOn9_b (zOn9_0 (d := 0) hs (by decide)) (by decide) d5_.2 c12_) (by decide) d79_.2 c86_) d213_.2 c220_) (by decide) d226_.2 c233_) (by decide) d251_.2 c258_ d267_.2).2 c274_) (by decide))⟩
      · have b283_ : 1 ≤ Int32.toInt x214_ ∧ Int32.toInt x214_ ≤ 1 := (by have u0 := b216_; have u1 := (not_congr (zi_eq _ _)).mp c220_; have u2 := (show 0 ≤ Int32.toInt 0 ∧ Int32.toInt 0 ≤ 0 from (by decide)); omega)
        refine pw_blk hT 2 (S' := (2, [some (pvR 6), some (pvI 0), some (pvI (((0 + 1) + 1) + 1)), none], [], M215_)) rfl ⟨trivial, trivial, trivial⟩ ?_
        refine pw_blk hT 2 (S' := (4, [some (pvR 6), some (pvI 0), some (pvI (((0 + 1) + 1) + 1)), none], [pvI 4, pvI (((0 + 1) + 1) + 1)], M215_)) rfl ⟨trivial, trivial, trivial⟩ ?_
        refine pw_ic hT (c := 4 ≤ (((0 + 1) + 1) + 1)) rfl rfl (fun c284_ => absurd c284_ (by decide)) (fun c284_ => ?_)
        refine pw_blk hT 2 (S' := (10, [some (pvR 6), some (pvI 0), some (pvI (((0 + 1) + 1) + 1)), none], [pvI 33, pvR 6], M215_)) rfl ⟨trivial, trivial, trivial⟩ ?_
        have b285_ : (-1) ≤ Int32.toInt (M215_.1 6 2) ∧ Int32.toInt (M215_.1 6 2) ≤ 100 := pvok_r o217_ 6 2 rfl
        have b286_ : (-1) ≤ Int32.toInt (M215_.1 6 3) ∧ Int32.toInt (M215_.1 6 3) ≤ 127 := pvok_r o217_ 6 3 rfl
        refine pw_callGd hT (as := [pvR 6, pvI 33]) (lo1 := [some (pvR 6), some (pvI 33)]) (d1 := d) (rest := []) rfl rfl rfl rfl rfl (fun _ => rfl) (Nat.zero_le _) rfl rfl rfl (se_X5_readSign_6_x M215_ o217_ 33 (zr_wide (show 33 ≤ Int32.toInt 33 ∧ Int32.toInt 33 ≤ 33 from (by decide)) (by decide) (by decide)) (show (Int32.toInt (M215_.1 6 3) ≤ -1 ∨ Int32.toInt (M215_.1 6 2) ≤ 99) from (by omega)) d213_.2.1 d) (fun x288_ M289_ b290_ o291_ g292_ d287_ => ?_)
        have f293_ : pvFr fp_eX5_readOne_6_0 M M289_ := pvfr_t g292_ f219_ fp_eX5_readOne_6_0_fp_eX5_readSign_6_x
        refine pw_if hT (c := x288_ = 0) rfl rfl (fun c294_ => ?_) (fun c294_ => ?_)
        · have b295_ : 0 ≤ Int32.toInt x288_ ∧ Int32.toInt x288_ ≤ 0 := (by have u0 := b290_; have u1 := (zi_eq _ _).mp c294_; have u2 := (show 0 ≤ Int32.toInt 0 ∧ Int32.toInt 0 ≤ 0 from (by decide)); omega)
          refine pw_blk hT 2 (S' := (24, [some (pvR 6), some (pvI 0), some (pvI (((0 + 1) + 1) + 1)), none], [pvI 4, pvI (((0 + 1) + 1) + 1)], M289_)) rfl ⟨trivial, trivial, trivial⟩ ?_
          refine pw_ic hT (c := 4 ≤ (((0 + 1) + 1) + 1)) rfl rfl (fun c296_ => absurd c296_ (by decide)) (fun c296_ => ?_)
          refine pw_blk hT 2 (S' := (30, [some (pvR 6), some (pvI 0), some (pvI (((0 + 1) + 1) + 1)), none], [pvI 40, pvR 6], M289_)) rfl ⟨trivial, trivial, trivial⟩ ?_
          have u297_ : Int32.toInt 40 = 40 := by decide
          have b298_ : (-1) ≤ Int32.toInt (M289_.1 6 2) ∧ Int32.toInt (M289_.1 6 2) ≤ 100 := pvok_r o291_ 6 2 rfl
          have b299_ : (-1) ≤ Int32.toInt (M289_.1 6 3) ∧ Int32.toInt (M289_.1 6 3) ≤ 127 := pvok_r o291_ 6 3 rfl
          refine pw_callGd hT (as := [pvR 6, pvI 40]) (lo1 := [some (pvR 6), some (pvI 40)]) (d1 := d) (rest := []) rfl rfl rfl rfl rfl (fun _ => rfl) (Nat.zero_le _) rfl rfl rfl (se_X5_readSign_6_x M289_ o291_ 40 (zr_wide (show 40 ≤ Int32.toInt 40 ∧ Int32.toInt 40 ≤ 40 from (by decide)) (by decide) (by decide)) (show (Int32.toInt (M289_.1 6 3) ≤ -1 ∨ Int32.toInt (M289_.1 6 2) ≤ 99) from (by omega)) d287_.2.1 d) (fun x301_ M302_ b303_ o304_ g305_ d300_ => ?_)
          have f306_ : pvFr fp_eX5_readOne_6_0 M M302_ := pvfr_t g305_ f293_ fp_eX5_readOne_6_0_fp_eX5_readSign_6_x
          refine pw_if hT (c := x301_ = 0) rfl rfl (fun c307_ => ?_) (fun c307_ => ?_)
          · have b308_ : 0 ≤ Int32.toInt x301_ ∧ Int32.toInt x301_ ≤ 0 := (by have u0 := b303_; have u1 := (zi_eq _ _).mp c307_; have u2 := (show 0 ≤ Int32.toInt 0 ∧ Int32.toInt 0 ≤ 0 from (by decide)); omega)
            refine pw_blk hT 1 (S' := (64, [some (pvR 6), some (pvI 0), some (pvI (((0 + 1) + 1) + 1)), none], [pvR 6], M302_)) rfl ⟨trivial, trivial⟩ ?_
            have b309_ : (-1) ≤ Int32.toInt (M302_.1 6 2) ∧ Int32.toInt (M302_.1 6 2) ≤ 100 := pvok_r o304_ 6 2 rfl
            have b310_ : (-1) ≤ Int32.toInt (M302_.1 6 3) ∧ Int32.toInt (M302_.1 6 3) ≤ 127 := pvok_r o304_ 6 3 rfl
            refine pw_callGd hT (as := [pvR 6]) (lo1 := [some (pvR 6), none, none, none]) (d1 := d) (rest := []) rfl rfl rfl rfl rfl (fun _ => rfl) (Nat.zero_le _) rfl rfl rfl (se_X5_readTest_6 M302_ o304_ (show (Int32.toInt (M302_.1 6 3) ≤ -1 ∨ Int32.toInt (M302_.1 6 2) ≤ 99) from (by omega)) (zOm9_rs hs (zOm9_p (zOm9_n (zOn9_b (zOn9_b (zOn9_b (zOn9_0 (d := 0) hs (by decide)) (by decide) d5_.2 c12_) (by decide) d79_.2 c86_) (by decide) d213_.2 c220_) d287_.2 c294_) d300_.2 c307_).1) d) (fun x312_ M313_ b314_ o315_ g316_ d311_ => ?_)
            have f317_ : pvFr fp_eX5_readOne_6_0 M M313_ := pvfr_t g316_ f306_ fp_eX5_readOne_6_0_fp_eX5_readTest_6
            refine pw_blk hT 7 (S' := (74, [some (pvR 6), some (pvI 0), some (pvI (((0 + 1) + 1) + 1)), some (pvI x312_)], [pvI 1, pvI (((((0 + 1) + 1) + 1) - 0) - ((((0 + 1) + 1) + 1) - 0) / 2 * 2)], M313_)) rfl ⟨trivial, trivial, trivial, trivial, trivial, (by decide), trivial, trivial⟩ ?_
            refine pw_icn hT (c := (((((0 + 1) + 1) + 1) - 0) - ((((0 + 1) + 1) + 1) - 0) / 2 * 2) = 1) rfl rfl (fun c318_ => absurd (by decide) c318_) (fun c318_ => ?_)
            have b319_ : 15 ≤ Int32.toInt (M313_.1 6 4) ∧ Int32.toInt (M313_.1 6 4) ≤ 23 := pvok_r o315_ 6 4 rfl
            refine pw_blkr hT 2 (pc := 81) (lo := [some (pvR 6), some (pvI 0), some (pvI (((0 + 1) + 1) + 1)), some (pvI x312_)]) (st := []) (M := M313_) (z := (pvhp (M313_.1 6 4))) rfl ⟨trivial, rfl, trivial⟩ (fun q320_ e322_ => ?_)
            have k321_ : pvkl q320_ = 2 := pvhp_k b319_ e322_
            refine pw_blk hT 1 (S' := (82, [some (pvR 6), some (pvI 0), some (pvI (((0 + 1) + 1) + 1)), some (pvI x312_)], [pvI (-1), pvR q320_], M313_)) rfl ⟨trivial, trivial⟩ ?_
            refine pw_callVd hT (as := [pvR q320_, pvI (-1)]) (lo1 := [some (pvR q320_), some (pvI (-1))]) (d1 := d) (rest := []) rfl rfl rfl rfl rfl (fun _ => k321_) (Nat.zero_le _) rfl rfl rfl (se_X2_addStep_x_x M313_ o315_ q320_ (-1) k321_ (zr_wide (show (-1) ≤ Int32.toInt (-1) ∧ Int32.toInt (-1) ≤ (-1) from (by decide)) (by decide) (by decide)) d) (fun M325_ o327_ g328_ d323_ => ?_)
            have f329_ : pvFr fp_eX5_readOne_6_0 M M325_ := pvfr_t g328_ f317_ fp_eX5_readOne_6_0_fp_eX2_addStep_x_x
            refine pw_blk hT 1 (S' := (86, [some (pvR 6), some (pvI 0), some (pvI (((0 + 1) + 1) + 1)), some (pvI x312_)], [pvI x312_], M325_)) rfl ⟨trivial, trivial⟩ ?_
            have e330_ : (M325_.1 6 2) = (M313_.1 6 2) := (g328_ 6 2 rfl)
            have b331_ : (-1) ≤ Int32.toInt (M325_.1 6 2) ∧ Int32.toInt (M325_.1 6 2) ≤ 100 := pvok_r o327_ 6 2 rfl
            have d332_ : Int32.toInt (M325_.1 6 2) = Int32.toInt (M313_.1 6 2) := congrArg Int32.toInt e330_
            have e333_ : (M325_.1 6 3) = (M313_.1 6 3) := (g328_ 6 3 rfl)
            have b334_ : (-1) ≤ Int32.toInt (M325_.1 6 3) ∧ Int32.toInt (M325_.1 6 3) ≤ 127 := pvok_r o327_ 6 3 rfl
            have d335_ : Int32.toInt (M325_.1 6 3) = Int32.toInt (M313_.1 6 3) := congrArg Int32.toInt e333_
            exact pw_ret hT rfl (r := some (pvI x312_)) (M' := M325_) ⟨pv01 b314_, rfl, rfl⟩ ⟨⟨_, rfl, b314_⟩, o327_, f329_, (by omega), (zOe_o hs (zOt9 hs (zOm9_p (zOm9_n (zOn9_b (zOn9_b (zOn9_b (zOn9_0 (d := 0) hs (by decide)) (by decide) d5_.2 c12_) (by decide) d79_.2 c86_) (by decide) d213_.2 c220_) d287_.2 c294_) d300_.2 c307_).1 (zOm9_p (zOm9_n (zOn9_b (zOn9_b (zOn9_b (zOn9_0 (d := 0) hs (by decide)) (by decide) d5_.2 c12_) (by decide) d79_.2 c86_) (by decide) d213_.2 c220_) d287_.2 c294_) d300_.2 c307_).2 d311_.2 (pv01 b314_)) (by decide) e322_ d323_)⟩
          · have b336_ : 1 ≤ Int32.toInt x301_ ∧ Int32.toInt x301_ ≤ 1 := (by have u0 := b303_; have u1 := (not_congr (zi_eq _ _)).mp c307_; have u2 := (show 0 ≤ Int32.toInt 0 ∧ Int32.toInt 0 ≤ 0 from (by decide)); omega)
            refine pw_blk hT 4 (S' := (40, [some (pvR 6), some (pvI 0), some (pvI (((0 + 1) + 1) + 1)), none], [pvI ((((0 + 1) + 1) + 1) + 1), pvR 6], M302_)) rfl ⟨trivial, trivial, trivial, trivial, trivial⟩ ?_
            have u337_ : Int32.toInt ((((0 + 1) + 1) + 1) + 1) = 4 := by decide
            have b338_ : (-1) ≤ Int32.toInt (M302_.1 6 2) ∧ Int32.toInt (M302_.1 6 2) ≤ 100 := pvok_r o304_ 6 2 rfl
            have b339_ : (-1) ≤ Int32.toInt (M302_.1 6 3) ∧ Int32.toInt (M302_.1 6 3) ≤ 127 := pvok_r o304_ 6 3 rfl
            refine pw_callGd hT (as := [pvR 6, pvI ((((0 + 1) + 1) + 1) + 1)]) (lo1 := [some (pvR 6), some (pvI ((((0 + 1) + 1) + 1) + 1)), none]) (d1 := (d - 1)) (rest := []) rfl rfl rfl rfl rfl (fun _ => rfl) (show 1 ≤ d by omega) rfl rfl rfl (se_X5_readAny_6_4 M302_ o304_ (show (Int32.toInt (M302_.1 6 3) ≤ -1 ∨ Int32.toInt (M302_.1 6 2) ≤ 99) from (by omega)) (zOp9_rs hs (zOp9_y (zOm9_n (zOn9_b (zOn9_b (zOn9_b (zOn9_0 (d := 0) hs (by decide)) (by decide) d5_.2 c12_) (by decide) d79_.2 c86_) (by decide) d213_.2 c220_) d287_.2 c294_) (by decide) d300_.2 c307_)) (d - 1)) (fun x341_ M342_ b343_ o344_ g345_ d340_ => ?_)
            have f346_ : pvFr fp_eX5_readOne_6_0 M M342_ := pvfr_t g345_ f306_ fp_eX5_readOne_6_0_fp_eX5_readAny_6_4
            refine pw_if hT (c := x341_ = 0) rfl rfl (fun c347_ => ?_) (fun c347_ => ?_)
            · have b348_ : 0 ≤ Int32.toInt x341_ ∧ Int32.toInt x341_ ≤ 0 := (by have u0 := b343_; have u1 := (zi_eq _ _).mp c347_; have u2 := (show 0 ≤ Int32.toInt 0 ∧ Int32.toInt 0 ≤ 0 from (by decide)); omega)
              refine pw_blk hT 9 (S' := (74, [some (pvR 6), some (pvI 0), some (pvI (((0 + 1) + 1) + 1)), some (pvI 0)], [pvI 1, pvI (((((0 + 1) + 1) + 1) - 0) - ((((0 + 1) + 1) + 1) - 0) / 2 * 2)], M342_)) rfl ⟨trivial, trivial, trivial, trivial, trivial, trivial, trivial, (by decide), trivial, trivial⟩ ?_
              refine pw_icn hT (c := (((((0 + 1) + 1) + 1) - 0) - ((((0 + 1) + 1) + 1) - 0) / 2 * 2) = 1) rfl rfl (fun c349_ => absurd (by decide) c349_) (fun c349_ => ?_)
              have b350_ : 15 ≤ Int32.toInt (M342_.1 6 4) ∧ Int32.toInt (M342_.1 6 4) ≤ 23 := pvok_r o344_ 6 4 rfl
              refine pw_blkr hT 2 (pc := 81) (lo := [some (pvR 6), some (pvI 0), some (pvI (((0 + 1) + 1) + 1)), some (pvI 0)]) (st := []) (M := M342_) (z := (pvhp (M342_.1 6 4))) rfl ⟨trivial, rfl, trivial⟩ (fun q351_ e353_ => ?_)
              have k352_ : pvkl q351_ = 2 := pvhp_k b350_ e353_
              refine pw_blk hT 1 (S' := (82, [some (pvR 6), some (pvI 0), some (pvI (((0 + 1) + 1) + 1)), some (pvI 0)], [pvI (-1), pvR q351_], M342_)) rfl ⟨trivial, trivial⟩ ?_
              refine pw_callVd hT (as := [pvR q351_, pvI (-1)]) (lo1 := [some (pvR q351_), some (pvI (-1))]) (d1 := d) (rest := []) rfl rfl rfl rfl rfl (fun _ => k352_) (Nat.zero_le _) rfl rfl rfl (se_X2_addStep_x_x M342_ o344_ q351_ (-1) k352_ (zr_wide (show (-1) ≤ Int32.toInt (-1) ∧ Int32.toInt (-1) ≤ (-1) from (by decide)) (by decide) (by decide)) d) (fun M356_ o358_ g359_ d354_ => ?_)
              have f360_ : pvFr fp_eX5_readOne_6_0 M M356_ := pvfr_t g359_ f346_ fp_eX5_readOne_6_0_fp_eX2_addStep_x_x
              refine pw_blk hT 1 (S' := (86, [some (pvR 6), some (pvI 0), some (pvI (((0 + 1) + 1) + 1)), some (pvI 0)], [pvI 0], M356_)) rfl ⟨trivial, trivial⟩ ?_
              have e361_ : (M356_.1 6 2) = (M342_.1 6 2) := (g359_ 6 2 rfl)
              have b362_ : (-1) ≤ Int32.toInt (M356_.1 6 2) ∧ Int32.toInt (M356_.1 6 2) ≤ 100 := pvok_r o358_ 6 2 rfl
              have d363_ : Int32.toInt (M356_.1 6 2) = Int32.toInt (M342_.1 6 2) := congrArg Int32.toInt e361_
              have e364_ : (M356_.1 6 3) = (M342_.1 6 3) := (g359_ 6 3 rfl)
              have b365_ : (-1) ≤ Int32.toInt (M356_.1 6 3) ∧ Int32.toInt (M356_.1 6 3) ≤ 127 := pvok_r o358_ 6 3 rfl
              have d366_ : Int32.toInt (M356_.1 6 3) = Int32.toInt (M342_.1 6 3) := congrArg Int32.toInt e364_
              exact pw_ret hT rfl (r := some (pvI 0)) (M' := M356_) ⟨Or.inl rfl, rfl, rfl⟩ ⟨⟨_, rfl, (zr_wide (show 0 ≤ Int32.toInt 0 ∧ Int32.toInt 0 ≤ 0 from (by decide)) (by decide) (by decide))⟩, o358_, f360_, (by omega), (zOe_o hs (zOp9_n (zOp9_y (zOm9_n (zOn9_b (zOn9_b (zOn9_b (zOn9_0 (d := 0) hs (by decide)) (by decide) d5_.2 c12_) (by decide) d79_.2 c86_) (by decide) d213_.2 c220_) d287_.2 c294_) (by decide) d300_.2 c307_) (by decide) d340_.2 c347_) (by decide) e353_ d354_)⟩
            · have b367_ : 1 ≤ Int32.toInt x341_ ∧ Int32.toInt x341_ ≤ 1 := (by have u0 := b343_; have u1 := (not_congr (zi_eq _ _)).mp c347_; have u2 := (show 0 ≤ Int32.toInt 0 ∧ Int32.toInt 0 ≤ 0 from (by decide)); omega)
              refine pw_blk hT 2 (S' := (49, [some (pvR 6), some (pvI 0), some (pvI (((0 + 1) + 1) + 1)), none], [pvI 41, pvR 6], M342_)) rfl ⟨trivial, trivial, trivial⟩ ?_
              have u368_ : Int32.toInt 41 = 41 := by decide
              have b369_ : (-1) ≤ Int32.toInt (M342_.1 6 2) ∧ Int32.toInt (M342_.1 6 2) ≤ 100 := pvok_r o344_ 6 2 rfl
              have b370_ : (-1) ≤ Int32.toInt (M342_.1 6 3) ∧ Int32.toInt (M342_.1 6 3) ≤ 127 := pvok_r o344_ 6 3 rfl
              refine pw_callGd hT (as := [pvR 6, pvI 41]) (lo1 := [some (pvR 6), some (pvI 41)]) (d1 := d) (rest := []) rfl rfl rfl rfl rfl (fun _ => rfl) (Nat.zero_le _) rfl rfl rfl (se_X5_readSign_6_x M342_ o344_ 41 (zr_wide (show 41 ≤ Int32.toInt 41 ∧ Int32.toInt 41 ≤ 41 from (by decide)) (by decide) (by decide)) (show (Int32.toInt (M342_.1 6 3) ≤ -1 ∨ Int32.toInt (M342_.1 6 2) ≤ 99) from (by omega)) d340_.2.1 d) (fun x372_ M373_ b374_ o375_ g376_ d371_ => ?_)
              have f377_ : pvFr fp_eX5_readOne_6_0 M M373_ := pvfr_t g376_ f346_ fp_eX5_readOne_6_0_fp_eX5_readSign_6_x
              refine pw_if hT (c := x372_ = 0) rfl rfl (fun c378_ => ?_) (fun c378_ => ?_)
              · have b379_ : 0 ≤ Int32.toInt x372_ ∧ Int32.toInt x372_ ≤ 0 := (by have u0 := b374_; have u1 := (zi_eq _ _).mp c378_; have u2 := (show 0 ≤ Int32.toInt 0 ∧ Int32.toInt 0 ≤ 0 from (by decide)); omega)
                refine pw_blk hT 9 (S' := (74, [some (pvR 6), some (pvI 0), some (pvI (((0 + 1) + 1) + 1)), some (pvI 0)], [pvI 1, pvI (((((0 + 1) + 1) + 1) - 0) - ((((0 + 1) + 1) + 1) - 0) / 2 * 2)], M373_)) rfl ⟨trivial, trivial, trivial, trivial, trivial, trivial, trivial, (by decide), trivial, trivial⟩ ?_
                refine pw_icn hT (c := (((((0 + 1) + 1) + 1) - 0) - ((((0 + 1) + 1) + 1) - 0) / 2 * 2) = 1) rfl rfl (fun c380_ => absurd (by decide) c380_) (fun c380_ => ?_)
                have b381_ : 15 ≤ Int32.toInt (M373_.1 6 4) ∧ Int32.toInt (M373_.1 6 4) ≤ 23 := pvok_r o375_ 6 4 rfl
                refine pw_blkr hT 2 (pc := 81) (lo := [some (pvR 6), some (pvI 0), some (pvI (((0 + 1) + 1) + 1)), some (pvI 0)]) (st := []) (M := M373_) (z := (pvhp (M373_.1 6 4))) rfl ⟨trivial, rfl, trivial⟩ (fun q382_ e384_ => ?_)
                have k383_ : pvkl q382_ = 2 := pvhp_k b381_ e384_
                refine pw_blk hT 1 (S' := (82, [some (pvR 6), some (pvI 0), some (pvI (((0 + 1) + 1) + 1)), some (pvI 0)], [pvI (-1), pvR q382_], M373_)) rfl ⟨trivial, trivial⟩ ?_
                refine pw_callVd hT (as := [pvR q382_, pvI (-1)]) (lo1 := [some (pvR q382_), some (pvI (-1))]) (d1 := d) (rest := []) rfl rfl rfl rfl rfl (fun _ => k383_) (Nat.zero_le _) rfl rfl rfl (se_X2_addStep_x_x M373_ o375_ q382_ (-1) k383_ (zr_wide (show (-1) ≤ Int32.toInt (-1) ∧ Int32.toInt (-1) ≤ (-1) from (by decide)) (by decide) (by decide)) d) (fun M387_ o389_ g390_ d385_ => ?_)
                have f391_ : pvFr fp_eX5_readOne_6_0 M M387_ := pvfr_t g390_ f377_ fp_eX5_readOne_6_0_fp_eX2_addStep_x_x
                refine pw_blk hT 1 (S' := (86, [some (pvR 6), some (pvI 0), some (pvI (((0 + 1) + 1) + 1)), some (pvI 0)], [pvI 0], M387_)) rfl ⟨trivial, trivial⟩ ?_
                have e392_ : (M387_.1 6 2) = (M373_.1 6 2) := (g390_ 6 2 rfl)
                have b393_ : (-1) ≤ Int32.toInt (M387_.1 6 2) ∧ Int32.toInt (M387_.1 6 2) ≤ 100 := pvok_r o389_ 6 2 rfl
                have d394_ : Int32.toInt (M387_.1 6 2) = Int32.toInt (M373_.1 6 2) := congrArg Int32.toInt e392_
                have e395_ : (M387_.1 6 3) = (M373_.1 6 3) := (g390_ 6 3 rfl)
                have b396_ : (-1) ≤ Int32.toInt (M387_.1 6 3) ∧ Int32.toInt (M387_.1 6 3) ≤ 127 := pvok_r o389_ 6 3 rfl
                have d397_ : Int32.toInt (M387_.1 6 3) = Int32.toInt (M373_.1 6 3) := congrArg Int32.toInt e395_
                exact pw_ret hT rfl (r := some (pvI 0)) (M' := M387_) ⟨Or.inl rfl, rfl, rfl⟩ ⟨⟨_, rfl, (zr_wide (show 0 ≤ Int32.toInt 0 ∧ Int32.toInt 0 ≤ 0 from (by decide)) (by decide) (by decide))⟩, o389_, f391_, (by omega), (zOe_o hs ((zOp9_c hs (zOp9_y (zOm9_n (zOn9_b (zOn9_b (zOn9_b (zOn9_0 (d := 0) hs (by decide)) (by decide) d5_.2 c12_) (by decide) d79_.2 c86_) (by decide) d213_.2 c220_) d287_.2 c294_) (by decide) d300_.2 c307_) (by decide) d340_.2 c347_ d371_.2).1 c378_) (by decide) e384_ d385_)⟩
              · have b398_ : 1 ≤ Int32.toInt x372_ ∧ Int32.toInt x372_ ≤ 1 := (by have u0 := b374_; have u1 := (not_congr (zi_eq _ _)).mp c378_; have u2 := (show 0 ≤ Int32.toInt 0 ∧ Int32.toInt 0 ≤ 0 from (by decide)); omega)
                refine pw_blk hT 9 (S' := (74, [some (pvR 6), some (pvI 0), some (pvI (((0 + 1) + 1) + 1)), some (pvI 1)], [pvI 1, pvI (((((0 + 1) + 1) + 1) - 0) - ((((0 + 1) + 1) + 1) - 0) / 2 * 2)], M373_)) rfl ⟨trivial, trivial, trivial, trivial, trivial, trivial, trivial, (by decide), trivial, trivial⟩ ?_
                refine pw_icn hT (c := (((((0 + 1) + 1) + 1) - 0) - ((((0 + 1) + 1) + 1) - 0) / 2 * 2) = 1) rfl rfl (fun c399_ => absurd (by decide) c399_) (fun c399_ => ?_)
                have b400_ : 15 ≤ Int32.toInt (M373_.1 6 4) ∧ Int32.toInt (M373_.1 6 4) ≤ 23 := pvok_r o375_ 6 4 rfl
                refine pw_blkr hT 2 (pc := 81) (lo := [some (pvR 6), some (pvI 0), some (pvI (((0 + 1) + 1) + 1)), some (pvI 1)]) (st := []) (M := M373_) (z := (pvhp (M373_.1 6 4))) rfl ⟨trivial, rfl, trivial⟩ (fun q401_ e403_ => ?_)
                have k402_ : pvkl q401_ = 2 := pvhp_k b400_ e403_
                refine pw_blk hT 1 (S' := (82, [some (pvR 6), some (pvI 0), some (pvI (((0 + 1) + 1) + 1)), some (pvI 1)], [pvI (-1), pvR q401_], M373_)) rfl ⟨trivial, trivial⟩ ?_
                refine pw_callVd hT (as := [pvR q401_, pvI (-1)]) (lo1 := [some (pvR q401_), some (pvI (-1))]) (d1 := d) (rest := []) rfl rfl rfl rfl rfl (fun _ => k402_) (Nat.zero_le _) rfl rfl rfl (se_X2_addStep_x_x M373_ o375_ q401_ (-1) k402_ (zr_wide (show (-1) ≤ Int32.toInt (-1) ∧ Int32.toInt (-1) ≤ (-1) from (by decide)) (by decide) (by decide)) d) (fun M406_ o408_ g409_ d404_ => ?_)
                have f410_ : pvFr fp_eX5_readOne_6_0 M M406_ := pvfr_t g409_ f377_ fp_eX5_readOne_6_0_fp_eX2_addStep_x_x
                refine pw_blk hT 1 (S' := (86, [some (pvR 6), some (pvI 0), some (pvI (((0 + 1) + 1) + 1)), some (pvI 1)], [pvI 1], M406_)) rfl ⟨trivial, trivial⟩ ?_
                have e411_ : (M406_.1 6 2) = (M373_.1 6 2) := (g409_ 6 2 rfl)
                have b412_ : (-1) ≤ Int32.toInt (M406_.1 6 2) ∧ Int32.toInt (M406_.1 6 2) ≤ 100 := pvok_r o408_ 6 2 rfl
                have d413_ : Int32.toInt (M406_.1 6 2) = Int32.toInt (M373_.1 6 2) := congrArg Int32.toInt e411_
                have e414_ : (M406_.1 6 3) = (M373_.1 6 3) := (g409_ 6 3 rfl)
                have b415_ : (-1) ≤ Int32.toInt (M406_.1 6 3) ∧ Int32.toInt (M406_.1 6 3) ≤ 127 := pvok_r o408_ 6 3 rfl
                have d416_ : Int32.toInt (M406_.1 6 3) = Int32.toInt (M373_.1 6 3) := congrArg Int32.toInt e414_
                exact pw_ret hT rfl (r := some (pvI 1)) (M' := M406_) ⟨Or.inr rfl, rfl, rfl⟩ ⟨⟨_, rfl, (zr_wide (show 1 ≤ Int32.toInt 1 ∧ Int32.toInt 1 ≤ 1 from (by decide)) (by decide) (by decide))⟩, o408_, f410_, (by omega), (zOe_o hs ((zOp9_c hs (zOp9_y (zOm9_n (zOn9_b (zOn9_b (zOn9_b (zOn9_0 (d := 0) hs (by decide)) (by decide) d5_.2 c12_) (by decide) d79_.2 c86_) (by decide) d213_.2 c220_) d287_.2 c294_) (by decide) d300_.2 c307_) (by decide) d340_.2 c347_ d371_.2).2 c378_) (by decide) e403_ d404_)⟩
        · have b417_ : 1 ≤ Int32.toInt x288_ ∧ Int32.toInt x288_ ≤ 1 := (by have u0 := b290_; have u1 := (not_congr (zi_eq _ _)).mp c294_; have u2 := (show 0 ≤ Int32.toInt 0 ∧ Int32.toInt 0 ≤ 0 from (by decide)); omega)
          refine pw_blk hT 2 (S' := (2, [some (pvR 6), some (pvI 0), some (pvI ((((0 + 1) + 1) + 1) + 1)), none], [], M289_)) rfl ⟨trivial, trivial, trivial⟩ ?_
          refine pw_blk hT 2 (S' := (4, [some (pvR 6), some (pvI 0), some (pvI ((((0 + 1) + 1) + 1) + 1)), none], [pvI 4, pvI ((((0 + 1) + 1) + 1) + 1)], M289_)) rfl ⟨trivial, trivial, trivial⟩ ?_
          refine pw_ic hT (c := 4 ≤ ((((0 + 1) + 1) + 1) + 1)) rfl rfl (fun c418_ => ?_) (fun c418_ => absurd (by decide) c418_)
          refine pw_blk hT 2 (S' := (24, [some (pvR 6), some (pvI 0), some (pvI ((((0 + 1) + 1) + 1) + 1)), none], [pvI 4, pvI ((((0 + 1) + 1) + 1) + 1)], M289_)) rfl ⟨trivial, trivial, trivial⟩ ?_
          refine pw_ic hT (c := 4 ≤ ((((0 + 1) + 1) + 1) + 1)) rfl rfl (fun c419_ => ?_) (fun c419_ => absurd (by decide) c419_)
          refine pw_blk hT 1 (S' := (64, [some (pvR 6), some (pvI 0), some (pvI ((((0 + 1) + 1) + 1) + 1)), none], [pvR 6], M289_)) rfl ⟨trivial, trivial⟩ ?_
          have b420_ : (-1) ≤ Int32.toInt (M289_.1 6 2) ∧ Int32.toInt (M289_.1 6 2) ≤ 100 := pvok_r o291_ 6 2 rfl
          have b421_ : (-1) ≤ Int32.toInt (M289_.1 6 3) ∧ Int32.toInt (M289_.1 6 3) ≤ 127 := pvok_r o291_ 6 3 rfl
          refine pw_callGd hT (as := [pvR 6]) (lo1 := [some (pvR 6), none, none, none]) (d1 := d) (rest := []) rfl rfl rfl rfl rfl (fun _ => rfl) (Nat.zero_le _) rfl rfl rfl (se_X5_readTest_6 M289_ o291_ (show (Int32.toInt (M289_.1 6 3) ≤ -1 ∨ Int32.toInt (M289_.1 6 2) ≤ 99) from (by omega)) (zOm9_rs hs (zOm9_f (zOn9_b (zOn9_b (zOn9_b (zOn9_b (zOn9_0 (d := 0) hs (by decide)) (by decide) d5_.2 c12_) (by decide) d79_.2 c86_) (by decide) d213_.2 c220_) (by decide) d287_.2 c294_) (by decide))) d) (fun x423_ M424_ b425_ o426_ g427_ d422_ => ?_)
          have f428_ : pvFr fp_eX5_readOne_6_0 M M424_ := pvfr_t g427_ f293_ fp_eX5_readOne_6_0_fp_eX5_readTest_6
          refine pw_blk hT 7 (S' := (74, [some (pvR 6), some (pvI 0), some (pvI ((((0 + 1) + 1) + 1) + 1)), some (pvI x423_)], [pvI 1, pvI ((((((0 + 1) + 1) + 1) + 1) - 0) - (((((0 + 1) + 1) + 1) + 1) - 0) / 2 * 2)], M424_)) rfl ⟨trivial, trivial, trivial, trivial, trivial, (by decide), trivial, trivial⟩ ?_
          refine pw_icn hT (c := ((((((0 + 1) + 1) + 1) + 1) - 0) - (((((0 + 1) + 1) + 1) + 1) - 0) / 2 * 2) = 1) rfl rfl (fun c429_ => ?_) (fun c429_ => absurd c429_ (by decide))
          refine pw_blk hT 1 (S' := (86, [some (pvR 6), some (pvI 0), some (pvI ((((0 + 1) + 1) + 1) + 1)), some (pvI x423_)], [pvI x423_], M424_)) rfl ⟨trivial, trivial⟩ ?_
          have b430_ : (-1) ≤ Int32.toInt (M424_.1 6 2) ∧ Int32.toInt (M424_.1 6 2) ≤ 100 := pvok_r o426_ 6 2 rfl
          have b431_ : (-1) ≤ Int32.toInt (M424_.1 6 3) ∧ Int32.toInt (M424_.1 6 3) ≤ 127 := pvok_r o426_ 6 3 rfl
          exact pw_ret hT rfl (r := some (pvI x423_)) (M' := M424_) ⟨pv01 b425_, rfl, rfl⟩ ⟨⟨_, rfl, b425_⟩, o426_, f428_, (by omega), (zOe_e (zOt9 hs (zOm9_f (zOn9_b (zOn9_b (zOn9_b (zOn9_b (zOn9_0 (d := 0) hs (by decide)) (by decide) d5_.2 c12_) (by decide) d79_.2 c86_) (by decide) d213_.2 c220_) (by decide) d287_.2 c294_) (by decide)) (fun q => absurd q (by decide)) d422_.2 (pv01 b425_)) (by decide))⟩
