def fpL_eX5_readAll_6_0 : List (Nat × Nat × Nat) := [(0, 6, 3), (0, 6, 4), (1, 111, 0), (1, 2, 6)]
def fp_eX5_readAll_6_0 (q k : Nat) : Bool := pvfp fpL_eX5_readAll_6_0 q k
theorem fp_eX5_readAll_6_0_fp_eX2_addStep_x_x (a b : Nat) (h : fp_eX2_addStep_x_x a b = true) : fp_eX5_readAll_6_0 a b = true := pvfp_sub (l1 := fpL_eX2_addStep_x_x) (l2 := fpL_eX5_readAll_6_0) (by decide) a b h
theorem fp_eX5_readAll_6_0_fp_eX5_readOne_6_0 (a b : Nat) (h : fp_eX5_readOne_6_0 a b = true) : fp_eX5_readAll_6_0 a b = true := pvfp_sub (l1 := fpL_eX5_readOne_6_0) (l2 := fpL_eX5_readAll_6_0) (by decide) a b h
theorem fp_eX5_readAll_6_0_fp_eX5_readSign_6_x (a b : Nat) (h : fp_eX5_readSign_6_x a b = true) : fp_eX5_readAll_6_0 a b = true := pvfp_sub (l1 := fpL_eX5_readSign_6_x) (l2 := fpL_eX5_readAll_6_0) (by decide) a b h
set_option maxHeartbeats 4000000 in
set_option maxRecDepth 10000 in
theorem se_X5_readAll_6_0 (M : pvM) (hok : pvOk M) (hx0 : (Int32.toInt (M.1 6 3) ≤ -1 ∨ Int32.toInt (M.1 6 2) ≤ 99)) (hs : zRs M) (d : Nat) (hd : 4 ≤ d) : PW 140 d (0, [some (pvR 6), some (pvI 0), none], [], M) (fun r X => (∃ x : Int32, r = some (pvI x) ∧ 0 ≤ Int32.toInt x ∧ Int32.toInt x ≤ 1) ∧ pvOk X ∧ pvFr fp_eX5_readAll_6_0 M X ∧ ((Int32.toInt (X.1 6 3) ≤ -1 ∨ Int32.toInt (X.1 6 2) ≤ 99)) ∧ zRc (zTT 0) r M X) := by
  have hT : pvdom 140 = pvD_140 := rfl
  have b1_ : (-1) ≤ Int32.toInt (M.1 6 2) ∧ Int32.toInt (M.1 6 2) ≤ 100 := pvok_r hok 6 2 rfl
  have b2_ : (-1) ≤ Int32.toInt (M.1 6 3) ∧ Int32.toInt (M.1 6 3) ≤ 127 := pvok_r hok 6 3 rfl
  refine pw_blk hT 2 (S' := (2, [some (pvR 6), some (pvI 0), some (pvI 0)], [], M)) rfl ⟨trivial, trivial, trivial⟩ ?_
  have hlz217_ : ∀ (nz217_ : Nat) (i2z217_ : Int32) (Mz217_ : pvM), (pvOk Mz217_) → (pvFr fp_eX5_readAll_6_0 M Mz217_) → (0 ≤ Int32.toInt i2z217_ ∧ Int32.toInt i2z217_ ≤ 100) → ((Int32.toInt (Mz217_.1 6 3) ≤ -1 ∨ Int32.toInt (Mz217_.1 6 2) ≤ 99)) → (zLT9 0 (Int32.toNatClampNeg i2z217_) M Mz217_) → (zhide ((101 - Int32.toInt i2z217_).toNat < nz217_)) → PW 140 d (2, [some (pvR 6), some (pvI 0), some (pvI i2z217_)], [], Mz217_) (fun r X => (∃ x : Int32, r = some (pvI x) ∧ 0 ≤ Int32.toInt x ∧ Int32.toInt x ≤ 1) ∧ pvOk X ∧ pvFr fp_eX5_readAll_6_0 M X ∧ ((Int32.toInt (X.1 6 3) ≤ -1 ∨ Int32.toInt (X.1 6 2) ≤ 99)) ∧ zRc (zTT 0) r M X) := by
    intro nz217_
    induction nz217_ with
    | zero => intro i2z217_ Mz217_ oz217_ fz217_ h2z217_ j0z217_ j1z217_ hmz217_; exact absurd (zshow hmz217_) (Nat.not_lt_zero _)
    | succ nz217_ ihz217_ =>
      intro i2z217_ Mz217_ oz217_ fz217_ h2z217_ j0z217_ j1z217_ hmz217_
      have b218_ : (-1) ≤ Int32.toInt (Mz217_.1 6 2) ∧ Int32.toInt (Mz217_.1 6 2) ≤ 100 := pvok_r oz217_ 6 2 rfl
      have b219_ : (-1) ≤ Int32.toInt (Mz217_.1 6 3) ∧ Int32.toInt (Mz217_.1 6 3) ≤ 127 := pvok_r oz217_ 6 3 rfl
      refine pw_blk hT 2 (S' := (5, [some (pvR 6), some (pvI 0), some (pvI i2z217_)], [pvI 100, pvI i2z217_], Mz217_)) rfl ⟨trivial, trivial, trivial⟩ ?_
      refine pw_ic hT (c := 100 ≤ i2z217_) rfl rfl (fun c220_ => ?_) (fun c220_ => ?_)
      · have b221_ : 100 ≤ Int32.toInt i2z217_ ∧ Int32.toInt i2z217_ ≤ 100 := zr_le_r 100 c220_ h2z217_ (show 100 ≤ Int32.toInt 100 ∧ Int32.toInt 100 ≤ 100 from (by decide)) (by decide)
        refine pw_blk hT 1 (S' := (49, [some (pvR 6), some (pvI 0), some (pvI i2z217_)], [pvI 0], Mz217_)) rfl ⟨trivial, trivial⟩ ?_
        exact pw_ret hT rfl (r := some (pvI 0)) (M' := Mz217_) ⟨Or.inl rfl, rfl, rfl⟩ ⟨⟨_, rfl, (zr_wide (show 0 ≤ Int32.toInt 0 ∧ Int32.toInt 0 ≤ 0 from (by decide)) (by decide) (by decide))⟩, oz217_, fz217_, (by omega), ((zLT9_x j1z217_ (show 100 ≤ (Int32.toInt i2z217_).toNat from by have u := b221_; omega)).elim)⟩
      · have b222_ : 0 ≤ Int32.toInt i2z217_ ∧ Int32.toInt i2z217_ ≤ 99 := zr_nle_r 99 c220_ h2z217_ (show 100 ≤ Int32.toInt 100 ∧ Int32.toInt 100 ≤ 100 from (by decide)) (by decide)
        refine pw_blk hT 2 (S' := (10, [some (pvR 6), some (pvI 0), some (pvI i2z217_)], [pvI 0, pvR 6], Mz217_)) rfl ⟨trivial, trivial, trivial⟩ ?_
        have u223_ : Int32.toInt 0 = 0 := by decide
        refine pw_callGd hT (as := [pvR 6, pvI 0]) (lo1 := [some (pvR 6), some (pvI 0), none, none]) (d1 := d) (rest := []) rfl rfl rfl rfl rfl (fun _ => rfl) (Nat.zero_le _) rfl rfl rfl (se_X5_readOne_6_0 Mz217_ oz217_ (show (Int32.toInt (Mz217_.1 6 3) ≤ -1 ∨ Int32.toInt (Mz217_.1 6 2) ≤ 99) from (by omega)) (zLT9_rs hs j1z217_) d (Nat.le_trans (by decide) hd)) (fun x225_ M226_ b227_ o228_ g229_ d224_ => ?_)
        have f230_ : pvFr fp_eX5_readAll_6_0 M M226_ := pvfr_t g229_ fz217_ fp_eX5_readAll_6_0_fp_eX5_readOne_6_0
        refine pw_ifn hT (c := x225_ = 0) rfl rfl (fun c231_ => ?_) (fun c231_ => ?_)
        · have b232_ : 1 ≤ Int32.toInt x225_ ∧ Int32.toInt x225_ ≤ 1 := (by have u0 := b227_; have u1 := (not_congr (zi_eq _ _)).mp c231_; have u2 := (show 0 ≤ Int32.toInt 0 ∧ Int32.toInt 0 ≤ 0 from (by decide)); omega)
          refine pw_blk hT 1 (S' := (19, [some (pvR 6), some (pvI 0), some (pvI i2z217_)], [pvI i2z217_], M226_)) rfl ⟨trivial, trivial⟩ ?_
          refine pw_if hT (c := i2z217_ ≤ 0) rfl rfl (fun c233_ => ?_) (fun c233_ => ?_)
          · have b234_ : 0 ≤ Int32.toInt i2z217_ ∧ Int32.toInt i2z217_ ≤ 0 := zr_le_l 0 c233_ b222_ (show 0 ≤ Int32.toInt 0 ∧ Int32.toInt 0 ≤ 0 from (by decide)) (by decide)
            refine pw_blk hT 2 (S' := (34, [some (pvR 6), some (pvI 0), some (pvI i2z217_)], [pvI 38, pvR 6], M226_)) rfl ⟨trivial, trivial, trivial⟩ ?_
            have u235_ : Int32.toInt 38 = 38 := by decide
            have b236_ : (-1) ≤ Int32.toInt (M226_.1 6 2) ∧ Int32.toInt (M226_.1 6 2) ≤ 100 := pvok_r o228_ 6 2 rfl
            have b237_ : (-1) ≤ Int32.toInt (M226_.1 6 3) ∧ Int32.toInt (M226_.1 6 3) ≤ 127 := pvok_r o228_ 6 3 rfl
            refine pw_callGd hT (as := [pvR 6, pvI 38]) (lo1 := [some (pvR 6), some (pvI 38)]) (d1 := d) (rest := []) rfl rfl rfl rfl rfl (fun _ => rfl) (Nat.zero_le _) rfl rfl rfl (se_X5_readSign_6_x M226_ o228_ 38 (zr_wide (show 38 ≤ Int32.toInt 38 ∧ Int32.toInt 38 ≤ 38 from (by decide)) (by decide) (by decide)) (show (Int32.toInt (M226_.1 6 3) ≤ -1 ∨ Int32.toInt (M226_.1 6 2) ≤ 99) from (by omega)) d224_.2.1 d) (fun x239_ M240_ b241_ o242_ g243_ d238_ => ?_)
            have f244_ : pvFr fp_eX5_readAll_6_0 M M240_ := pvfr_t g243_ f230_ fp_eX5_readAll_6_0_fp_eX5_readSign_6_x
            refine pw_ifn hT (c := x239_ = 0) rfl rfl (fun c245_ => ?_) (fun c245_ => ?_)
            · have b246_ : 1 ≤ Int32.toInt x239_ ∧ Int32.toInt x239_ ≤ 1 := (by have u0 := b241_; have u1 := (not_congr (zi_eq _ _)).mp c245_; have u2 := (show 0 ≤ Int32.toInt 0 ∧ Int32.toInt 0 ≤ 0 from (by decide)); omega)
              obtain ⟨q248_, b247_⟩ : (Int32.toInt (i2z217_ + 1) = Int32.toInt i2z217_ + 1) ∧ (1 ≤ Int32.toInt (i2z217_ + 1) ∧ Int32.toInt (i2z217_ + 1) ≤ 1) := zadd_k i2z217_ 1 1 1 1 b234_ (by decide) (by decide) (by decide) (by decide) (by decide)
              refine pw_blk hT 2 (S' := (2, [some (pvR 6), some (pvI 0), some (pvI (i2z217_ + 1))], [], M240_)) rfl ⟨trivial, trivial, trivial⟩ ?_
              have b249_ : (-1) ≤ Int32.toInt (M240_.1 6 2) ∧ Int32.toInt (M240_.1 6 2) ≤ 100 := pvok_r o242_ 6 2 rfl
              have b250_ : (-1) ≤ Int32.toInt (M240_.1 6 3) ∧ Int32.toInt (M240_.1 6 3) ≤ 127 := pvok_r o242_ 6 3 rfl
              have j251_ : (Int32.toInt (M240_.1 6 3) ≤ -1 ∨ Int32.toInt (M240_.1 6 2) ≤ 99) := by omega
              have j252_ : zLT9 0 (Int32.toNatClampNeg (i2z217_ + 1)) M M240_ := (zLT9_n (znp1 b234_ (by decide) (by decide)) (zT9_s hs (zT9_o hs j1z217_ d224_.2 c231_ (show (Int32.toInt i2z217_).toNat = 0 from by have u := b234_; omega)) d238_.2 c245_))
              exact ihz217_ (i2z217_ + 1) M240_ o242_ f244_ (zr_wide b247_ (by decide) (by decide)) j251_ j252_ (zhid (pvms_up (zshow hmz217_) h2z217_ q248_ (by decide) (by decide)))
            · have b253_ : 0 ≤ Int32.toInt x239_ ∧ Int32.toInt x239_ ≤ 0 := (by have u0 := b241_; have u1 := (zi_eq _ _).mp c245_; have u2 := (show 0 ≤ Int32.toInt 0 ∧ Int32.toInt 0 ≤ 0 from (by decide)); omega)
              refine pw_blk hT 1 (S' := (41, [some (pvR 6), some (pvI 0), some (pvI i2z217_)], [pvI 1], M240_)) rfl ⟨trivial, trivial⟩ ?_
              have b254_ : (-1) ≤ Int32.toInt (M240_.1 6 2) ∧ Int32.toInt (M240_.1 6 2) ≤ 100 := pvok_r o242_ 6 2 rfl
              have b255_ : (-1) ≤ Int32.toInt (M240_.1 6 3) ∧ Int32.toInt (M240_.1 6 3) ≤ 127 := pvok_r o242_ 6 3 rfl
              exact pw_ret hT rfl (r := some (pvI 1)) (M' := M240_) ⟨Or.inr rfl, rfl, rfl⟩ ⟨⟨_, rfl, (zr_wide (show 1 ≤ Int32.toInt 1 ∧ Int32.toInt 1 ≤ 1 from (by decide)) (by decide) (by decide))⟩, o242_, f244_, (by omega), (zT9_e hs (zT9_o hs j1z217_ d224_.2 c231_ (show (Int32.toInt i2z217_).toNat = 0 from by have u := b234_; omega)) d238_.2 c245_)⟩
          · have b256_ : 1 ≤ Int32.toInt i2z217_ ∧ Int32.toInt i2z217_ ≤ 99 := zr_nle_l 1 c233_ b222_ (show 0 ≤ Int32.toInt 0 ∧ Int32.toInt 0 ≤ 0 from (by decide)) (by decide)
            have b257_ : 15 ≤ Int32.toInt (M226_.1 6 4) ∧ Int32.toInt (M226_.1 6 4) ≤ 23 := pvok_r o228_ 6 4 rfl
            refine pw_blkr hT 2 (pc := 26) (lo := [some (pvR 6), some (pvI 0), some (pvI i2z217_)]) (st := []) (M := M226_) (z := (pvhp (M226_.1 6 4))) rfl ⟨trivial, rfl, trivial⟩ (fun q258_ e260_ => ?_)
            have k259_ : pvkl q258_ = 2 := pvhp_k b257_ e260_
            refine pw_blk hT 1 (S' := (28, [some (pvR 6), some (pvI 0), some (pvI i2z217_)], [pvI (-2), pvR q258_], M226_)) rfl ⟨trivial, trivial⟩ ?_
            refine pw_callVd hT (as := [pvR q258_, pvI (-2)]) (lo1 := [some (pvR q258_), some (pvI (-2))]) (d1 := d) (rest := []) rfl rfl rfl rfl rfl (fun _ => k259_) (Nat.zero_le _) rfl rfl rfl (se_X2_addStep_x_x M226_ o228_ q258_ (-2) k259_ (zr_wide (show (-2) ≤ Int32.toInt (-2) ∧ Int32.toInt (-2) ≤ (-2) from (by decide)) (by decide) (by decide)) d) (fun M263_ o265_ g266_ d261_ => ?_)
            have f267_ : pvFr fp_eX5_readAll_6_0 M M263_ := pvfr_t g266_ f230_ fp_eX5_readAll_6_0_fp_eX2_addStep_x_x
            refine pw_blk hT 2 (S' := (34, [some (pvR 6), some (pvI 0), some (pvI i2z217_)], [pvI 38, pvR 6], M263_)) rfl ⟨trivial, trivial, trivial⟩ ?_
            have u268_ : Int32.toInt 38 = 38 := by decide
            have e269_ : (M263_.1 6 2) = (M226_.1 6 2) := (g266_ 6 2 rfl)
            have b270_ : (-1) ≤ Int32.toInt (M263_.1 6 2) ∧ Int32.toInt (M263_.1 6 2) ≤ 100 := pvok_r o265_ 6 2 rfl
            have d271_ : Int32.toInt (M263_.1 6 2) = Int32.toInt (M226_.1 6 2) := congrArg Int32.toInt e269_
            have e272_ : (M263_.1 6 3) = (M226_.1 6 3) := (g266_ 6 3 rfl)
            have b273_ : (-1) ≤ Int32.toInt (M263_.1 6 3) ∧ Int32.toInt (M263_.1 6 3) ≤ 127 := pvok_r o265_ 6 3 rfl
            have d274_ : Int32.toInt (M263_.1 6 3) = Int32.toInt (M226_.1 6 3) := congrArg Int32.toInt e272_
            refine pw_callGd hT (as := [pvR 6, pvI 38]) (lo1 := [some (pvR 6), some (pvI 38)]) (d1 := d) (rest := []) rfl rfl rfl rfl rfl (fun _ => rfl) (Nat.zero_le _) rfl rfl rfl (se_X5_readSign_6_x M263_ o265_ 38 (zr_wide (show 38 ≤ Int32.toInt 38 ∧ Int32.toInt 38 ≤ 38 from (by decide)) (by decide) (by decide)) (show (Int32.toInt (M263_.1 6 3) ≤ -1 ∨ Int32.toInt (M263_.1 6 2) ≤ 99) from (by omega)) (zLO9_q (zT9_p hs j1z217_ d224_.2 c231_ (show 0 < (Int32.toInt i2z217_).toNat from by have u := b256_; omega) e260_ d261_)) d) (fun x276_ M277_ b278_ o279_ g280_ d275_ => ?_)
            have f281_ : pvFr fp_eX5_readAll_6_0 M M277_ := pvfr_t g280_ f267_ fp_eX5_readAll_6_0_fp_eX5_readSign_6_x
            refine pw_ifn hT (c := x276_ = 0) rfl rfl (fun c282_ => ?_) (fun c282_ => ?_)
            · have b283_ : 1 ≤ Int32.toInt x276_ ∧ Int32.toInt x276_ ≤ 1 := (by have u0 := b278_; have u1 := (not_congr (zi_eq _ _)).mp c282_; have u2 := (show 0 ≤ Int32.toInt 0 ∧ Int32.toInt 0 ≤ 0 from (by decide)); omega)
              obtain ⟨q285_, b284_⟩ : (Int32.toInt (i2z217_ + 1) = Int32.toInt i2z217_ + 1) ∧ (2 ≤ Int32.toInt (i2z217_ + 1) ∧ Int32.toInt (i2z217_ + 1) ≤ 100) := zadd_k i2z217_ 1 1 2 100 b256_ (by decide) (by decide) (by decide) (by decide) (by decide)
              refine pw_blk hT 2 (S' := (2, [some (pvR 6), some (pvI 0), some (pvI (i2z217_ + 1))], [], M277_)) rfl ⟨trivial, trivial, trivial⟩ ?_
              have b286_ : (-1) ≤ Int32.toInt (M277_.1 6 2) ∧ Int32.toInt (M277_.1 6 2) ≤ 100 := pvok_r o279_ 6 2 rfl
              have b287_ : (-1) ≤ Int32.toInt (M277_.1 6 3) ∧ Int32.toInt (M277_.1 6 3) ≤ 127 := pvok_r o279_ 6 3 rfl
              have j288_ : (Int32.toInt (M277_.1 6 3) ≤ -1 ∨ Int32.toInt (M277_.1 6 2) ≤ 99) := by omega
              have j289_ : zLT9 0 (Int32.toNatClampNeg (i2z217_ + 1)) M M277_ := (zLT9_n (znp1 b256_ (by decide) (by decide)) (zT9_s hs (zT9_p hs j1z217_ d224_.2 c231_ (show 0 < (Int32.toInt i2z217_).toNat from by have u := b256_; omega) e260_ d261_) d275_.2 c282_))
              exact ihz217_ (i2z217_ + 1) M277_ o279_ f281_ (zr_wide b284_ (by decide) (by decide)) j288_ j289_ (zhid (pvms_up (zshow hmz217_) h2z217_ q285_ (by decide) (by decide)))
            · have b290_ : 0 ≤ Int32.toInt x276_ ∧ Int32.toInt x276_ ≤ 0 := (by have u0 := b278_; have u1 := (zi_eq _ _).mp c282_; have u2 := (show 0 ≤ Int32.toInt 0 ∧ Int32.toInt 0 ≤ 0 from (by decide)); omega)
              refine pw_blk hT 1 (S' := (41, [some (pvR 6), some (pvI 0), some (pvI i2z217_)], [pvI 1], M277_)) rfl ⟨trivial, trivial⟩ ?_
              have b291_ : (-1) ≤ Int32.toInt (M277_.1 6 2) ∧ Int32.toInt (M277_.1 6 2) ≤ 100 := pvok_r o279_ 6 2 rfl
              have b292_ : (-1) ≤ Int32.toInt (M277_.1 6 3) ∧ Int32.toInt (M277_.1 6 3) ≤ 127 := pvok_r o279_ 6 3 rfl
              exact pw_ret hT rfl (r := some (pvI 1)) (M' := M277_) ⟨Or.inr rfl, rfl, rfl⟩ ⟨⟨_, rfl, (zr_wide (show 1 ≤ Int32.toInt 1 ∧ Int32.toInt 1 ≤ 1 from (by decide)) (by decide) (by decide))⟩, o279_, f281_, (by omega), (zT9_e hs (zT9_p hs j1z217_ d224_.2 c231_ (show 0 < (Int32.toInt i2z217_).toNat from by have u := b256_; omega) e260_ d261_) d275_.2 c282_)⟩
        · have b293_ : 0 ≤ Int32.toInt x225_ ∧ Int32.toInt x225_ ≤ 0 := (by have u0 := b227_; have u1 := (zi_eq _ _).mp c231_; have u2 := (show 0 ≤ Int32.toInt 0 ∧ Int32.toInt 0 ≤ 0 from (by decide)); omega)
          refine pw_blk hT 1 (S' := (17, [some (pvR 6), some (pvI 0), some (pvI i2z217_)], [pvI 0], M226_)) rfl ⟨trivial, trivial⟩ ?_
          have b294_ : (-1) ≤ Int32.toInt (M226_.1 6 2) ∧ Int32.toInt (M226_.1 6 2) ≤ 100 := pvok_r o228_ 6 2 rfl
          have b295_ : (-1) ≤ Int32.toInt (M226_.1 6 3) ∧ Int32.toInt (M226_.1 6 3) ≤ 127 := pvok_r o228_ 6 3 rfl
          exact pw_ret hT rfl (r := some (pvI 0)) (M' := M226_) ⟨Or.inl rfl, rfl, rfl⟩ ⟨⟨_, rfl, (zr_wide (show 0 ≤ Int32.toInt 0 ∧ Int32.toInt 0 ≤ 0 from (by decide)) (by decide) (by decide))⟩, o228_, f230_, (by omega), (zT9_f j1z217_ d224_.2 c231_)⟩
  have u296_ : Int32.toInt 0 = 0 := by decide
  have j297_ : (Int32.toInt (M.1 6 3) ≤ -1 ∨ Int32.toInt (M.1 6 2) ≤ 99) := by omega
  have j298_ : zLT9 0 (Int32.toNatClampNeg 0) M M := (zLT9_0 hs)
  exact hlz217_ _ 0 M hok pvfr_0 (zr_wide (show 0 ≤ Int32.toInt 0 ∧ Int32.toInt 0 ≤ 0 from (by decide)) (by decide) (by decide)) j297_ j298_ (zhid (Nat.lt_succ_self _))
def fpL_eX5_readAny_6_0 : List (Nat × Nat × Nat) := [(0, 6, 3), (0, 6, 4), (1, 111, 0), (1, 2, 6)]
def fp_eX5_readAny_6_0 (q k : Nat) : Bool := pvfp fpL_eX5_readAny_6_0 q k
theorem fp_eX5_readAny_6_0_fp_eX2_addStep_x_x (a b : Nat) (h : fp_eX2_addStep_x_x a b = true) : fp_eX5_readAny_6_0 a b = true := pvfp_sub (l1 := fpL_eX2_addStep_x_x) (l2 := fpL_eX5_readAny_6_0) (by decide) a b h
theorem fp_eX5_readAny_6_0_fp_eX5_readAll_6_0 (a b : Nat) (h : fp_eX5_readAll_6_0 a b = true) : fp_eX5_readAny_6_0 a b = true := pvfp_sub (l1 := fpL_eX5_readAll_6_0) (l2 := fpL_eX5_readAny_6_0) (by decide) a b h
theorem fp_eX5_readAny_6_0_fp_eX5_readSign_6_x (a b : Nat) (h : fp_eX5_readSign_6_x a b = true) : fp_eX5_readAny_6_0 a b = true := pvfp_sub (l1 := fpL_eX5_readSign_6_x) (l2 := fpL_eX5_readAny_6_0) (by decide) a b h
set_option maxHeartbeats 4000000 in
set_option maxRecDepth 10000 in
theorem se_X5_readAny_6_0 (M : pvM) (hok : pvOk M) (hx0 : (Int32.toInt (M.1 6 3) ≤ -1 ∨ Int32.toInt (M.1 6 2) ≤ 99)) (hs : zRs M) (d : Nat) (hd : 4 ≤ d) : PW 141 d (0, [some (pvR 6), some (pvI 0), none], [], M) (fun r X => (∃ x : Int32, r = some (pvI x) ∧ 0 ≤ Int32.toInt x ∧ Int32.toInt x ≤ 1) ∧ pvOk X ∧ pvFr fp_eX5_readAny_6_0 M X ∧ ((Int32.toInt (X.1 6 3) ≤ -1 ∨ Int32.toInt (X.1 6 2) ≤ 99)) ∧ zRc (zTA 0) r M X) := by
  have hT : pvdom 141 = pvD_141 := rfl
  have b1_ : (-1) ≤ Int32.toInt (M.1 6 2) ∧ Int32.toInt (M.1 6 2) ≤ 100 := pvok_r hok 6 2 rfl
  have b2_ : (-1) ≤ Int32.toInt (M.1 6 3) ∧ Int32.toInt (M.1 6 3) ≤ 127 := pvok_r hok 6 3 rfl
  refine pw_blk hT 2 (S' := (2, [some (pvR 6), some (pvI 0), some (pvI 0)], [], M)) rfl ⟨trivial, trivial, trivial⟩ ?_
  have hlz217_ : ∀ (nz217_ : Nat) (i2z217_ : Int32) (Mz217_ : pvM), (pvOk Mz217_) → (pvFr fp_eX5_readAny_6_0 M Mz217_) → (0 ≤ Int32.toInt i2z217_ ∧ Int32.toInt i2z217_ ≤ 100) → ((Int32.toInt (Mz217_.1 6 3) ≤ -1 ∨ Int32.toInt (Mz217_.1 6 2) ≤ 99)) → (zLA9 0 (Int32.toNatClampNeg i2z217_) M Mz217_) → (zhide ((101 - Int32.toInt i2z217_).toNat < nz217_)) → PW 141 d (2, [some (pvR 6), some (pvI 0), some (pvI i2z217_)], [], Mz217_) (fun r X => (∃ x : Int32, r = some (pvI x) ∧ 0 ≤ Int32.toInt x ∧ Int32.toInt x ≤ 1) ∧ pvOk X ∧ pvFr fp_eX5_readAny_6_0 M X ∧ ((Int32.toInt (X.1 6 3) ≤ -1 ∨ Int32.toInt (X.1 6 2) ≤ 99)) ∧ zRc (zTA 0) r M X) := by
    intro nz217_
    induction nz217_ with
    | zero => intro i2z217_ Mz217_ oz217_ fz217_ h2z217_ j0z217_ j1z217_ hmz217_; exact absurd (zshow hmz217_) (Nat.not_lt_zero _)
    | succ nz217_ ihz217_ =>
      intro i2z217_ Mz217_ oz217_ fz217_ h2z217_ j0z217_ j1z217_ hmz217_
      have b218_ : (-1) ≤ Int32.toInt (Mz217_.1 6 2) ∧ Int32.toInt (Mz217_.1 6 2) ≤ 100 := pvok_r oz217_ 6 2 rfl
      have b219_ : (-1) ≤ Int32.toInt (Mz217_.1 6 3) ∧ Int32.toInt (Mz217_.1 6 3) ≤ 127 := pvok_r oz217_ 6 3 rfl
      refine pw_blk hT 2 (S' := (5, [some (pvR 6), some (pvI 0), some (pvI i2z217_)], [pvI 100, pvI i2z217_], Mz217_)) rfl ⟨trivial, trivial, trivial⟩ ?_
      refine pw_ic hT (c := 100 ≤ i2z217_) rfl rfl (fun c220_ => ?_) (fun c220_ => ?_)
      · have b221_ : 100 ≤ Int32.toInt i2z217_ ∧ Int32.toInt i2z217_ ≤ 100 := zr_le_r 100 c220_ h2z217_ (show 100 ≤ Int32.toInt 100 ∧ Int32.toInt 100 ≤ 100 from (by decide)) (by decide)
        refine pw_blk hT 1 (S' := (49, [some (pvR 6), some (pvI 0), some (pvI i2z217_)], [pvI 0], Mz217_)) rfl ⟨trivial, trivial⟩ ?_
        exact pw_ret hT rfl (r := some (pvI 0)) (M' := Mz217_) ⟨Or.inl rfl, rfl, rfl⟩ ⟨⟨_, rfl, (zr_wide (show 0 ≤ Int32.toInt 0 ∧ Int32.toInt 0 ≤ 0 from (by decide)) (by decide) (by decide))⟩, oz217_, fz217_, (by omega), ((zLA9_x j1z217_ (show 100 ≤ (Int32.toInt i2z217_).toNat from by have u := b221_; omega)).elim)⟩
      · have b222_ : 0 ≤ Int32.toInt i2z217_ ∧ Int32.toInt i2z217_ ≤ 99 := zr_nle_r 99 c220_ h2z217_ (show 100 ≤ Int32.toInt 100 ∧ Int32.toInt 100 ≤ 100 from (by decide)) (by decide)
        refine pw_blk hT 2 (S' := (10, [some (pvR 6), some (pvI 0), some (pvI i2z217_)], [pvI 0, pvR 6], Mz217_)) rfl ⟨trivial, trivial, trivial⟩ ?_
        have u223_ : Int32.toInt 0 = 0 := by decide
        refine pw_callGd hT (as := [pvR 6, pvI 0]) (lo1 := [some (pvR 6), some (pvI 0), none]) (d1 := d) (rest := []) rfl rfl rfl rfl rfl (fun _ => rfl) (Nat.zero_le _) rfl rfl rfl (se_X5_readAll_6_0 Mz217_ oz217_ (show (Int32.toInt (Mz217_.1 6 3) ≤ -1 ∨ Int32.toInt (Mz217_.1 6 2) ≤ 99) from (by omega)) (zLA9_rs hs j1z217_) d (Nat.le_trans (by decide) hd)) (fun x225_ M226_ b227_ o228_ g229_ d224_ => ?_)
        have f230_ : pvFr fp_eX5_readAny_6_0 M M226_ := pvfr_t g229_ fz217_ fp_eX5_readAny_6_0_fp_eX5_readAll_6_0
        refine pw_ifn hT (c := x225_ = 0) rfl rfl (fun c231_ => ?_) (fun c231_ => ?_)
        · have b232_ : 1 ≤ Int32.toInt x225_ ∧ Int32.toInt x225_ ≤ 1 := (by have u0 := b227_; have u1 := (not_congr (zi_eq _ _)).mp c231_; have u2 := (show 0 ≤ Int32.toInt 0 ∧ Int32.toInt 0 ≤ 0 from (by decide)); omega)
          refine pw_blk hT 1 (S' := (19, [some (pvR 6), some (pvI 0), some (pvI i2z217_)], [pvI i2z217_], M226_)) rfl ⟨trivial, trivial⟩ ?_
          refine pw_if hT (c := i2z217_ ≤ 0) rfl rfl (fun c233_ => ?_) (fun c233_ => ?_)
          · have b234_ : 0 ≤ Int32.toInt i2z217_ ∧ Int32.toInt i2z217_ ≤ 0 := zr_le_l 0 c233_ b222_ (show 0 ≤ Int32.toInt 0 ∧ Int32.toInt 0 ≤ 0 from (by decide)) (by decide)
            refine pw_blk hT 2 (S' := (34, [some (pvR 6), some (pvI 0), some (pvI i2z217_)], [pvI 124, pvR 6], M226_)) rfl ⟨trivial, trivial, trivial⟩ ?_
            have u235_ : Int32.toInt 124 = 124 := by decide
            have b236_ : (-1) ≤ Int32.toInt (M226_.1 6 2) ∧ Int32.toInt (M226_.1 6 2) ≤ 100 := pvok_r o228_ 6 2 rfl
            have b237_ : (-1) ≤ Int32.toInt (M226_.1 6 3) ∧ Int32.toInt (M226_.1 6 3) ≤ 127 := pvok_r o228_ 6 3 rfl
            refine pw_callGd hT (as := [pvR 6, pvI 124]) (lo1 := [some (pvR 6), some (pvI 124)]) (d1 := d) (rest := []) rfl rfl rfl rfl rfl (fun _ => rfl) (Nat.zero_le _) rfl rfl rfl (se_X5_readSign_6_x M226_ o228_ 124 (zr_wide (show 124 ≤ Int32.toInt 124 ∧ Int32.toInt 124 ≤ 124 from (by decide)) (by decide) (by decide)) (show (Int32.toInt (M226_.1 6 3) ≤ -1 ∨ Int32.toInt (M226_.1 6 2) ≤ 99) from (by omega)) d224_.2.1 d) (fun x239_ M240_ b241_ o242_ g243_ d238_ => ?_)
            have f244_ : pvFr fp_eX5_readAny_6_0 M M240_ := pvfr_t g243_ f230_ fp_eX5_readAny_6_0_fp_eX5_readSign_6_x
            refine pw_ifn hT (c := x239_ = 0) rfl rfl (fun c245_ => ?_) (fun c245_ => ?_)
            · have b246_ : 1 ≤ Int32.toInt x239_ ∧ Int32.toInt x239_ ≤ 1 := (by have u0 := b241_; have u1 := (not_congr (zi_eq _ _)).mp c245_; have u2 := (show 0 ≤ Int32.toInt 0 ∧ Int32.toInt 0 ≤ 0 from (by decide)); omega)
              obtain ⟨q248_, b247_⟩ : (Int32.toInt (i2z217_ + 1) = Int32.toInt i2z217_ + 1) ∧ (1 ≤ Int32.toInt (i2z217_ + 1) ∧ Int32.toInt (i2z217_ + 1) ≤ 1) := zadd_k i2z217_ 1 1 1 1 b234_ (by decide) (by decide) (by decide) (by decide) (by decide)
              refine pw_blk hT 2 (S' := (2, [some (pvR 6), some (pvI 0), some (pvI (i2z217_ + 1))], [], M240_)) rfl ⟨trivial, trivial, trivial⟩ ?_
              have b249_ : (-1) ≤ Int32.toInt (M240_.1 6 2) ∧ Int32.toInt (M240_.1 6 2) ≤ 100 := pvok_r o242_ 6 2 rfl
              have b250_ : (-1) ≤ Int32.toInt (M240_.1 6 3) ∧ Int32.toInt (M240_.1 6 3) ≤ 127 := pvok_r o242_ 6 3 rfl
              have j251_ : (Int32.toInt (M240_.1 6 3) ≤ -1 ∨ Int32.toInt (M240_.1 6 2) ≤ 99) := by omega
              have j252_ : zLA9 0 (Int32.toNatClampNeg (i2z217_ + 1)) M M240_ := (zLA9_n (znp1 b234_ (by decide) (by decide)) (zA9_s hs (zA9_o hs j1z217_ d224_.2 c231_ (show (Int32.toInt i2z217_).toNat = 0 from by have u := b234_; omega)) d238_.2 c245_))
              exact ihz217_ (i2z217_ + 1) M240_ o242_ f244_ (zr_wide b247_ (by decide) (by decide)) j251_ j252_ (zhid (pvms_up (zshow hmz217_) h2z217_ q248_ (by decide) (by decide)))
            · have b253_ : 0 ≤ Int32.toInt x239_ ∧ Int32.toInt x239_ ≤ 0 := (by have u0 := b241_; have u1 := (zi_eq _ _).mp c245_; have u2 := (show 0 ≤ Int32.toInt 0 ∧ Int32.toInt 0 ≤ 0 from (by decide)); omega)
              refine pw_blk hT 1 (S' := (41, [some (pvR 6), some (pvI 0), some (pvI i2z217_)], [pvI 1], M240_)) rfl ⟨trivial, trivial⟩ ?_
              have b254_ : (-1) ≤ Int32.toInt (M240_.1 6 2) ∧ Int32.toInt (M240_.1 6 2) ≤ 100 := pvok_r o242_ 6 2 rfl
              have b255_ : (-1) ≤ Int32.toInt (M240_.1 6 3) ∧ Int32.toInt (M240_.1 6 3) ≤ 127 := pvok_r o242_ 6 3 rfl
              exact pw_ret hT rfl (r := some (pvI 1)) (M' := M240_) ⟨Or.inr rfl, rfl, rfl⟩ ⟨⟨_, rfl, (zr_wide (show 1 ≤ Int32.toInt 1 ∧ Int32.toInt 1 ≤ 1 from (by decide)) (by decide) (by decide))⟩, o242_, f244_, (by omega), (zA9_e hs (zA9_o hs j1z217_ d224_.2 c231_ (show (Int32.toInt i2z217_).toNat = 0 from by have u := b234_; omega)) d238_.2 c245_)⟩
          · have b256_ : 1 ≤ Int32.toInt i2z217_ ∧ Int32.toInt i2z217_ ≤ 99 := zr_nle_l 1 c233_ b222_ (show 0 ≤ Int32.toInt 0 ∧ Int32.toInt 0 ≤ 0 from (by decide)) (by decide)
            have b257_ : 15 ≤ Int32.toInt (M226_.1 6 4) ∧ Int32.toInt (M226_.1 6 4) ≤ 23 := pvok_r o228_ 6 4 rfl
            refine pw_blkr hT 2 (pc := 26) (lo := [some (pvR 6), some (pvI 0), some (pvI i2z217_)]) (st := []) (M := M226_) (z := (pvhp (M226_.1 6 4))) rfl ⟨trivial, rfl, trivial⟩ (fun q258_ e260_ => ?_)
            have k259_ : pvkl q258_ = 2 := pvhp_k b257_ e260_
            refine pw_blk hT 1 (S' := (28, [some (pvR 6), some (pvI 0), some (pvI i2z217_)], [pvI (-3), pvR q258_], M226_)) rfl ⟨trivial, trivial⟩ ?_
            refine pw_callVd hT (as := [pvR q258_, pvI (-3)]) (lo1 := [some (pvR q258_), some (pvI (-3))]) (d1 := d) (rest := []) rfl rfl rfl rfl rfl (fun _ => k259_) (Nat.zero_le _) rfl rfl rfl (se_X2_addStep_x_x M226_ o228_ q258_ (-3) k259_ (zr_wide (show (-3) ≤ Int32.toInt (-3) ∧ Int32.toInt (-3) ≤ (-3) from (by decide)) (by decide) (by decide)) d) (fun M263_ o265_ g266_ d261_ => ?_)
            have f267_ : pvFr fp_eX5_readAny_6_0 M M263_ := pvfr_t g266_ f230_ fp_eX5_readAny_6_0_fp_eX2_addStep_x_x
            refine pw_blk hT 2 (S' := (34, [some (pvR 6), some (pvI 0), some (pvI i2z217_)], [pvI 124, pvR 6], M263_)) rfl ⟨trivial, trivial, trivial⟩ ?_
            have u268_ : Int32.toInt 124 = 124 := by decide
            have e269_ : (M263_.1 6 2) = (M226_.1 6 2) := (g266_ 6 2 rfl)
            have b270_ : (-1) ≤ Int32.toInt (M263_.1 6 2) ∧ Int32.toInt (M263_.1 6 2) ≤ 100 := pvok_r o265_ 6 2 rfl
            have d271_ : Int32.toInt (M263_.1 6 2) = Int32.toInt (M226_.1 6 2) := congrArg Int32.toInt e269_
            have e272_ : (M263_.1 6 3) = (M226_.1 6 3) := (g266_ 6 3 rfl)
            have b273_ : (-1) ≤ Int32.toInt (M263_.1 6 3) ∧ Int32.toInt (M263_.1 6 3) ≤ 127 := pvok_r o265_ 6 3 rfl
            have d274_ : Int32.toInt (M263_.1 6 3) = Int32.toInt (M226_.1 6 3) := congrArg Int32.toInt e272_
            refine pw_callGd hT (as := [pvR 6, pvI 124]) (lo1 := [some (pvR 6), some (pvI 124)]) (d1 := d) (rest := []) rfl rfl rfl rfl rfl (fun _ => rfl) (Nat.zero_le _) rfl rfl rfl (se_X5_readSign_6_x M263_ o265_ 124 (zr_wide (show 124 ≤ Int32.toInt 124 ∧ Int32.toInt 124 ≤ 124 from (by decide)) (by decide) (by decide)) (show (Int32.toInt (M263_.1 6 3) ≤ -1 ∨ Int32.toInt (M263_.1 6 2) ≤ 99) from (by omega)) (zLB9_q (zA9_p hs j1z217_ d224_.2 c231_ (show 0 < (Int32.toInt i2z217_).toNat from by have u := b256_; omega) e260_ d261_)) d) (fun x276_ M277_ b278_ o279_ g280_ d275_ => ?_)
            have f281_ : pvFr fp_eX5_readAny_6_0 M M277_ := pvfr_t g280_ f267_ fp_eX5_readAny_6_0_fp_eX5_readSign_6_x
            refine pw_ifn hT (c := x276_ = 0) rfl rfl (fun c282_ => ?_) (fun c282_ => ?_)
            · have b283_ : 1 ≤ Int32.toInt x276_ ∧ Int32.toInt x276_ ≤ 1 := (by have u0 := b278_; have u1 := (not_congr (zi_eq _ _)).mp c282_; have u2 := (show 0 ≤ Int32.toInt 0 ∧ Int32.toInt 0 ≤ 0 from (by decide)); omega)
              obtain ⟨q285_, b284_⟩ : (Int32.toInt (i2z217_ + 1) = Int32.toInt i2z217_ + 1) ∧ (2 ≤ Int32.toInt (i2z217_ + 1) ∧ Int32.toInt (i2z217_ + 1) ≤ 100) := zadd_k i2z217_ 1 1 2 100 b256_ (by decide) (by decide) (by decide) (by decide) (by decide)
              refine pw_blk hT 2 (S' := (2, [some (pvR 6), some (pvI 0), some (pvI (i2z217_ + 1))], [], M277_)) rfl ⟨trivial, trivial, trivial⟩ ?_
              have b286_ : (-1) ≤ Int32.toInt (M277_.1 6 2) ∧ Int32.toInt (M277_.1 6 2) ≤ 100 := pvok_r o279_ 6 2 rfl
              have b287_ : (-1) ≤ Int32.toInt (M277_.1 6 3) ∧ Int32.toInt (M277_.1 6 3) ≤ 127 := pvok_r o279_ 6 3 rfl
              have j288_ : (Int32.toInt (M277_.1 6 3) ≤ -1 ∨ Int32.toInt (M277_.1 6 2) ≤ 99) := by omega
              have j289_ : zLA9 0 (Int32.toNatClampNeg (i2z217_ + 1)) M M277_ := (zLA9_n (znp1 b256_ (by decide) (by decide)) (zA9_s hs (zA9_p hs j1z217_ d224_.2 c231_ (show 0 < (Int32.toInt i2z217_).toNat from by have u := b256_; omega) e260_ d261_) d275_.2 c282_))
              exact ihz217_ (i2z217_ + 1) M277_ o279_ f281_ (zr_wide b284_ (by decide) (by decide)) j288_ j289_ (zhid (pvms_up (zshow hmz217_) h2z217_ q285_ (by decide) (by decide)))
            · have b290_ : 0 ≤ Int32.toInt x276_ ∧ Int32.toInt x276_ ≤ 0 := (by have u0 := b278_; have u1 := (zi_eq _ _).mp c282_; have u2 := (show 0 ≤ Int32.toInt 0 ∧ Int32.toInt 0 ≤ 0 from (by decide)); omega)
              refine pw_blk hT 1 (S' := (41, [some (pvR 6), some (pvI 0), some (pvI i2z217_)], [pvI 1], M277_)) rfl ⟨trivial, trivial⟩ ?_
              have b291_ : (-1) ≤ Int32.toInt (M277_.1 6 2) ∧ Int32.toInt (M277_.1 6 2) ≤ 100 := pvok_r o279_ 6 2 rfl
              have b292_ : (-1) ≤ Int32.toInt (M277_.1 6 3) ∧ Int32.toInt (M277_.1 6 3) ≤ 127 := pvok_r o279_ 6 3 rfl
              exact pw_ret hT rfl (r := some (pvI 1)) (M' := M277_) ⟨Or.inr rfl, rfl, rfl⟩ ⟨⟨_, rfl, (zr_wide (show 1 ≤ Int32.toInt 1 ∧ Int32.toInt 1 ≤ 1 from (by decide)) (by decide) (by decide))⟩, o279_, f281_, (by omega), (zA9_e hs (zA9_p hs j1z217_ d224_.2 c231_ (show 0 < (Int32.toInt i2z217_).toNat from by have u := b256_; omega) e260_ d261_) d275_.2 c282_)⟩
        · have b293_ : 0 ≤ Int32.toInt x225_ ∧ Int32.toInt x225_ ≤ 0 := (by have u0 := b227_; have u1 := (zi_eq _ _).mp c231_; have u2 := (show 0 ≤ Int32.toInt 0 ∧ Int32.toInt 0 ≤ 0 from (by decide)); omega)
          refine pw_blk hT 1 (S' := (17, [some (pvR 6), some (pvI 0), some (pvI i2z217_)], [pvI 0], M226_)) rfl ⟨trivial, trivial⟩ ?_
          have b294_ : (-1) ≤ Int32.toInt (M226_.1 6 2) ∧ Int32.toInt (M226_.1 6 2) ≤ 100 := pvok_r o228_ 6 2 rfl
          have b295_ : (-1) ≤ Int32.toInt (M226_.1 6 3) ∧ Int32.toInt (M226_.1 6 3) ≤ 127 := pvok_r o228_ 6 3 rfl
          exact pw_ret hT rfl (r := some (pvI 0)) (M' := M226_) ⟨Or.inl rfl, rfl, rfl⟩ ⟨⟨_, rfl, (zr_wide (show 0 ≤ Int32.toInt 0 ∧ Int32.toInt 0 ≤ 0 from (by decide)) (by decide) (by decide))⟩, o228_, f230_, (by omega), (zA9_f j1z217_ d224_.2 c231_)⟩
  have u296_ : Int32.toInt 0 = 0 := by decide
  have j297_ : (Int32.toInt (M.1 6 3) ≤ -1 ∨ Int32.toInt (M.1 6 2) ≤ 99) := by omega
  have j298_ : zLA9 0 (Int32.toNatClampNeg 0) M M := (zLA9_0 hs)
  exact hlz217_ _ 0 M hok pvfr_0 (zr_wide (show 0 ≤ Int32.toInt 0 ∧ Int32.toInt 0 ≤ 0 from (by decide)) (by decide) (by decide)) j297_ j298_ (zhid (Nat.lt_succ_self _))
def fpL_eX2_endClause_x_x : List (Nat × Nat × Nat) := [(1, 109, 0), (1, 110, 0), (1, 2, 3)]
def fp_eX2_endClause_x_x (q k : Nat) : Bool := pvfp fpL_eX2_endClause_x_x q k
set_option maxHeartbeats 4000000 in
set_option maxRecDepth 10000 in
theorem se_X2_endClause_x_x (M : pvM) (hok : pvOk M) (q0 : Nat) (n1 : Int32) (hq0 : pvkl q0 = 2) (hn1 : (-99) ≤ Int32.toInt n1 ∧ Int32.toInt n1 ≤ 99) (d : Nat) : PW 126 d (0, [some (pvR q0), some (pvI n1)], [], M) (fun r X => r = none ∧ pvOk X ∧ pvFr fp_eX2_endClause_x_x M X ∧ zEs q0 n1 M X) := by
  have hT : pvdom 126 = pvD_126 := rfl
  have b1_ : 0 ≤ Int32.toInt (M.1 q0 2) ∧ Int32.toInt (M.1 q0 2) ≤ 10 := pvok_r hok q0 2 ((pvrg_o 2 hq0 (by decide) (by decide)).trans rfl)
  refine pw_blk hT 3 (S' := (6, [some (pvR q0), some (pvI n1)], [pvI 10, pvI (M.1 q0 2)], M)) rfl ⟨trivial, hq0, trivial, trivial⟩ ?_
  refine pw_ic hT (c := (M.1 q0 2) < 10) rfl rfl (fun c2_ => ?_) (fun c2_ => ?_)
  · have b3_ : 0 ≤ Int32.toInt (M.1 q0 2) ∧ Int32.toInt (M.1 q0 2) ≤ 9 := zr_lt_l 9 c2_ b1_ (show 10 ≤ Int32.toInt 10 ∧ Int32.toInt 10 ≤ 10 from (by decide)) (by decide)
    refine pw_blkw hT 6 (pc := 20) (lo := [some (pvR q0), some (pvI n1)]) (st := []) (M := pvu M (q0 + 9) (Int32.toNatClampNeg (M.1 q0 2)) n1) rfl ⟨trivial, hq0, trivial, hq0, trivial, ⟨(pvow_2_9 hq0).1, (by rw [(pvow_2_9 hq0).2.1]; exact (zr_in (n := 10) b3_ (by decide) (by decide)))⟩, trivial⟩ (fun M4_ e5_ => ?_)
    have o6_ : pvOk M4_ := pvok_u2 e5_ hok ((pvrg_a _ (by rw [(pvow_2_9 hq0).1]; decide)).trans (pvow_2_9 hq0).2.2.2) hn1
    have f7_ : pvFr fp_eX2_endClause_x_x M M4_ := pvfr_u e5_ pvfr_0 (pvfp_r (l := fpL_eX2_endClause_x_x) (pvow_2_9 hq0).2.2.1 (kk := 0) (by decide) (Or.inl rfl))
    have e8_ : (M4_.1 q0 2) = (M.1 q0 2) := (pvu_n e5_ q0 2 (Or.inl (by omega)))
    have b9_ : 0 ≤ Int32.toInt (M4_.1 q0 2) ∧ Int32.toInt (M4_.1 q0 2) ≤ 9 := (by rw [e8_]; exact b3_)
    have b10_ : 0 ≤ Int32.toInt (M4_.1 q0 5) ∧ Int32.toInt (M4_.1 q0 5) ≤ 100 := pvok_r o6_ q0 5 ((pvrg_o 5 hq0 (by decide) (by decide)).trans rfl)
    refine pw_blkw hT 7 (pc := 33) (lo := [some (pvR q0), some (pvI n1)]) (st := []) (M := pvu M4_ (q0 + 18) (Int32.toNatClampNeg (M4_.1 q0 2)) (M4_.1 q0 5)) rfl ⟨trivial, hq0, trivial, hq0, trivial, hq0, ⟨(pvow_2_18 hq0).1, (by rw [(pvow_2_18 hq0).2.1]; exact (zr_in (n := 10) b9_ (by decide) (by decide)))⟩, trivial⟩ (fun M11_ e12_ => ?_)
    have o13_ : pvOk M11_ := pvok_u2 e12_ o6_ ((pvrg_a _ (by rw [(pvow_2_18 hq0).1]; decide)).trans (pvow_2_18 hq0).2.2.2) b10_
    have f14_ : pvFr fp_eX2_endClause_x_x M M11_ := pvfr_u e12_ f7_ (pvfp_r (l := fpL_eX2_endClause_x_x) (pvow_2_18 hq0).2.2.1 (kk := 0) (by decide) (Or.inl rfl))
    have e15_ : (M11_.1 q0 2) = (M4_.1 q0 2) := (pvu_n e12_ q0 2 (Or.inl (by omega)))
    have b16_ : 0 ≤ Int32.toInt (M11_.1 q0 2) ∧ Int32.toInt (M11_.1 q0 2) ≤ 9 := (by rw [e15_]; exact b9_)
    obtain ⟨q18_, b17_⟩ : (Int32.toInt ((M11_.1 q0 2) + 1) = Int32.toInt (M11_.1 q0 2) + 1) ∧ (1 ≤ Int32.toInt ((M11_.1 q0 2) + 1) ∧ Int32.toInt ((M11_.1 q0 2) + 1) ≤ 10) := zadd_k (M11_.1 q0 2) 1 1 1 10 b16_ (by decide) (by decide) (by decide) (by decide) (by decide)
    refine pw_blkw hT 6 (pc := 43) (lo := [some (pvR q0), some (pvI n1)]) (st := []) (M := pvu M11_ q0 2 ((M11_.1 q0 2) + 1)) rfl ⟨trivial, trivial, hq0, trivial, trivial, hq0, trivial⟩ (fun M19_ e20_ => ?_)
    have o21_ : pvOk M19_ := pvok_u2 e20_ o13_ ((pvrg_o 2 hq0 (by decide) (by decide)).trans rfl) (zr_wide b17_ (by decide) (by decide))
    have f22_ : pvFr fp_eX2_endClause_x_x M M19_ := pvfr_u e20_ f14_ (pvfp_r (l := fpL_eX2_endClause_x_x) (pvowr_2 hq0) (kk := 3) (by decide) (Or.inr rfl))
    exact pw_ret hT rfl (r := none) (M' := M19_) ⟨rfl, rfl⟩ ⟨rfl, o21_, f22_, (Or.inl ⟨by have u := b3_; omega, by have y2 : M4_.1 q0 2 = M.1 q0 2 := pvu_n e5_ q0 2 (Or.inl (by omega)); have y5 : M4_.1 q0 5 = M.1 q0 5 := pvu_n e5_ q0 5 (Or.inl (by omega)); have z2 : M11_.1 q0 2 = M4_.1 q0 2 := pvu_n e12_ q0 2 (Or.inl (by omega)); rw [e20_, z2, e12_, y2, y5, e5_, zpE]⟩)⟩
  · have b23_ : 10 ≤ Int32.toInt (M.1 q0 2) ∧ Int32.toInt (M.1 q0 2) ≤ 10 := zr_nlt_l 10 c2_ b1_ (show 10 ≤ Int32.toInt 10 ∧ Int32.toInt 10 ≤ 10 from (by decide)) (by decide)
    exact pw_ret hT rfl (r := none) (M' := M) ⟨rfl, rfl⟩ ⟨rfl, hok, pvfr_0, (Or.inr ⟨by have u := b23_; omega, rfl⟩)⟩
def fpL_eX5_readClause_6 : List (Nat × Nat × Nat) := [(0, 6, 3), (0, 6, 4), (1, 109, 0), (1, 110, 0), (1, 111, 0), (1, 2, 1), (1, 2, 2), (1, 2, 3), (1, 2, 6)]
def fp_eX5_readClause_6 (q k : Nat) : Bool := pvfp fpL_eX5_readClause_6 q k
theorem fp_eX5_readClause_6_fp_eX2_endClause_x_x (a b : Nat) (h : fp_eX2_endClause_x_x a b = true) : fp_eX5_readClause_6 a b = true := pvfp_sub (l1 := fpL_eX2_endClause_x_x) (l2 := fpL_eX5_readClause_6) (by decide) a b h
theorem fp_eX5_readClause_6_fp_eX5_readAny_6_0 (a b : Nat) (h : fp_eX5_readAny_6_0 a b = true) : fp_eX5_readClause_6 a b = true := pvfp_sub (l1 := fpL_eX5_readAny_6_0) (l2 := fpL_eX5_readClause_6) (by decide) a b h
theorem fp_eX5_readClause_6_fp_eX5_readNumber_6 (a b : Nat) (h : fp_eX5_readNumber_6 a b = true) : fp_eX5_readClause_6 a b = true := pvfp_sub (l1 := fpL_eX5_readNumber_6) (l2 := fpL_eX5_readClause_6) (by decide) a b h
theorem fp_eX5_readClause_6_fp_eX5_readSign_6_x (a b : Nat) (h : fp_eX5_readSign_6_x a b = true) : fp_eX5_readClause_6 a b = true := pvfp_sub (l1 := fpL_eX5_readSign_6_x) (l2 := fpL_eX5_readClause_6) (by decide) a b h
theorem fp_eX5_readClause_6_fp_eX5_readWord_6_x (a b : Nat) (h : fp_eX5_readWord_6_x a b = true) : fp_eX5_readClause_6 a b = true := pvfp_sub (l1 := fpL_eX5_readWord_6_x) (l2 := fpL_eX5_readClause_6) (by decide) a b h
set_option maxHeartbeats 4000000 in
set_option maxRecDepth 10000 in
theorem se_X5_readClause_6 (M : pvM) (hok : pvOk M) (hx0 : (Int32.toInt (M.1 6 3) ≤ -1 ∨ Int32.toInt (M.1 6 2) ≤ 99)) (hs : zRs M) (d : Nat) (hd : 4 ≤ d) : PW 142 d (0, [some (pvR 6), none, none, none], [], M) (fun r X => (∃ x : Int32, r = some (pvI x) ∧ 0 ≤ Int32.toInt x ∧ Int32.toInt x ≤ 1) ∧ pvOk X ∧ pvFr fp_eX5_readClause_6 M X ∧ ((Int32.toInt (X.1 6 3) ≤ -1 ∨ Int32.toInt (X.1 6 2) ≤ 99)) ∧ zCd r M X) := by
  have hT : pvdom 142 = pvD_142 := rfl
  have b1_ : (-1) ≤ Int32.toInt (M.1 6 2) ∧ Int32.toInt (M.1 6 2) ≤ 100 := pvok_r hok 6 2 rfl
  have b2_ : (-1) ≤ Int32.toInt (M.1 6 3) ∧ Int32.toInt (M.1 6 3) ≤ 127 := pvok_r hok 6 3 rfl
  refine pw_blk hT 4 (S' := (6, [some (pvR 6), some (pvI (M.1 6 3)), none, none], [pvI (M.1 6 3)], M)) rfl ⟨trivial, rfl, trivial, trivial, trivial⟩ ?_
  refine pw_callRe hT (as := [pvI (M.1 6 3)]) (lo1 := [some (pvI (M.1 6 3))]) (d1 := d) (rest := []) rfl rfl rfl rfl rfl (fun h => absurd h (by decide)) (Nat.zero_le _) rfl rfl rfl (se_X5_wordFrom_x M hok (M.1 6 3) d) ?_
  refine pw_blk hT 2 (S' := (11, [some (pvR 6), some (pvI (M.1 6 3)), some (pvR (zwf (M.1 6 3))), none], [pvR (zwf (M.1 6 3))], M)) rfl ⟨trivial, trivial, trivial⟩ ?_
  refine pw_sx hT rfl (S' := (14, [some (pvR 6), some (pvI (M.1 6 3)), some (pvR (zwf (M.1 6 3))), none], [pvI (if zsl.getD ((zwf (M.1 6 3)) - 1010) 0 = 0 then 1 else 0)], M)) (fun F hF => ⟨(zwf_r (M.1 6 3)).1, (zwf_r (M.1 6 3)).2, Nat.le_of_ble_eq_true rfl, hF⟩) ?_
  have b8_ : 0 ≤ Int32.toInt (if zsl.getD ((zwf (M.1 6 3)) - 1010) 0 = 0 then 1 else 0) ∧ Int32.toInt (if zsl.getD ((zwf (M.1 6 3)) - 1010) 0 = 0 then 1 else 0) ≤ 1 := (by split <;> decide)
  refine pw_ifn hT (c := (if zsl.getD ((zwf (M.1 6 3)) - 1010) 0 = 0 then 1 else 0) = 0) rfl rfl (fun c9_ => ?_) (fun c9_ => ?_)
  · have b10_ : 1 ≤ Int32.toInt (if zsl.getD ((zwf (M.1 6 3)) - 1010) 0 = 0 then 1 else 0) ∧ Int32.toInt (if zsl.getD ((zwf (M.1 6 3)) - 1010) 0 = 0 then 1 else 0) ≤ 1 := (by have u0 := b8_; have u1 := (not_congr (zi_eq _ _)).mp c9_; have u2 := (show 0 ≤ Int32.toInt 0 ∧ Int32.toInt 0 ≤ 0 from (by decide)); omega)
    refine pw_blk hT 1 (S' := (26, [some (pvR 6), some (pvI (M.1 6 3)), some (pvR (zwf (M.1 6 3))), none], [pvI 0], M)) rfl ⟨trivial, trivial⟩ ?_
    exact pw_ret hT rfl (r := some (pvI 0)) (M' := M) ⟨Or.inl rfl, rfl, rfl⟩ ⟨⟨_, rfl, (zr_wide (show 0 ≤ Int32.toInt 0 ∧ Int32.toInt 0 ≤ 0 from (by decide)) (by decide) (by decide))⟩, hok, pvfr_0, (by omega), (zTC_1 hs.1 c9_)⟩
  · have b11_ : 0 ≤ Int32.toInt (if zsl.getD ((zwf (M.1 6 3)) - 1010) 0 = 0 then 1 else 0) ∧ Int32.toInt (if zsl.getD ((zwf (M.1 6 3)) - 1010) 0 = 0 then 1 else 0) ≤ 0 := (by have u0 := b8_; have u1 := (zi_eq _ _).mp c9_; have u2 := (show 0 ≤ Int32.toInt 0 ∧ Int32.toInt 0 ≤ 0 from (by decide)); omega)
    refine pw_blk hT 2 (S' := (19, [some (pvR 6), some (pvI (M.1 6 3)), some (pvR (zwf (M.1 6 3))), none], [pvR (zwf (M.1 6 3)), pvR 6], M)) rfl ⟨trivial, trivial, trivial⟩ ?_
    refine pw_callGd hT (as := [pvR 6, pvR (zwf (M.1 6 3))]) (lo1 := [some (pvR 6), some (pvR (zwf (M.1 6 3))), none]) (d1 := d) (rest := []) rfl rfl rfl rfl rfl (fun _ => rfl) (Nat.zero_le _) rfl rfl rfl (se_X5_readWord_6_x M hok (zwf (M.1 6 3)) (zwf_r (M.1 6 3)) (show (Int32.toInt (M.1 6 3) ≤ -1 ∨ Int32.toInt (M.1 6 2) ≤ 99) from (by omega)) hs.1 d) (fun x13_ M14_ b15_ o16_ g17_ d12_ => ?_)
    have f18_ : pvFr fp_eX5_readClause_6 M M14_ := pvfr_t g17_ pvfr_0 fp_eX5_readClause_6_fp_eX5_readWord_6_x
    refine pw_ifn hT (c := x13_ = 0) rfl rfl (fun c19_ => ?_) (fun c19_ => ?_)
    · have b20_ : 1 ≤ Int32.toInt x13_ ∧ Int32.toInt x13_ ≤ 1 := (by have u0 := b15_; have u1 := (not_congr (zi_eq _ _)).mp c19_; have u2 := (show 0 ≤ Int32.toInt 0 ∧ Int32.toInt 0 ≤ 0 from (by decide)); omega)
      refine pw_blk hT 1 (S' := (28, [some (pvR 6), some (pvI (M.1 6 3)), some (pvR (zwf (M.1 6 3))), none], [pvR 6], M14_)) rfl ⟨trivial, trivial⟩ ?_
      have b21_ : (-1) ≤ Int32.toInt (M14_.1 6 2) ∧ Int32.toInt (M14_.1 6 2) ≤ 100 := pvok_r o16_ 6 2 rfl
      have b22_ : (-1) ≤ Int32.toInt (M14_.1 6 3) ∧ Int32.toInt (M14_.1 6 3) ≤ 127 := pvok_r o16_ 6 3 rfl
      refine pw_callGd hT (as := [pvR 6]) (lo1 := [some (pvR 6), none]) (d1 := d) (rest := []) rfl rfl rfl rfl rfl (fun _ => rfl) (Nat.zero_le _) rfl rfl rfl (se_X5_readNumber_6 M14_ o16_ (show (Int32.toInt (M14_.1 6 3) ≤ -1 ∨ Int32.toInt (M14_.1 6 2) ≤ 99) from (by omega)) d12_.2.1 d) (fun x24_ M25_ b26_ o27_ g28_ d23_ => ?_)
      have f29_ : pvFr fp_eX5_readClause_6 M M25_ := pvfr_t g28_ f18_ fp_eX5_readClause_6_fp_eX5_readNumber_6
      refine pw_blk hT 2 (S' := (33, [some (pvR 6), some (pvI (M.1 6 3)), some (pvR (zwf (M.1 6 3))), some (pvI x24_)], [pvI x24_], M25_)) rfl ⟨trivial, trivial, trivial⟩ ?_
      refine pw_if hT (c := 0 ≤ x24_) rfl rfl (fun c30_ => ?_) (fun c30_ => ?_)
      · have b31_ : 0 ≤ Int32.toInt x24_ ∧ Int32.toInt x24_ ≤ 99 := zr_le_r 0 c30_ b26_ (show 0 ≤ Int32.toInt 0 ∧ Int32.toInt 0 ≤ 0 from (by decide)) (by decide)
        refine pw_blk hT 2 (S' := (41, [some (pvR 6), some (pvI (M.1 6 3)), some (pvR (zwf (M.1 6 3))), some (pvI x24_)], [pvI 115, pvI (M.1 6 3)], M25_)) rfl ⟨trivial, trivial, trivial⟩ ?_
        refine pw_icn hT (c := (M.1 6 3) = 115) rfl rfl (fun c32_ => ?_) (fun c32_ => ?_)
        · refine pw_blk hT 2 (S' := (55, [some (pvR 6), some (pvI (M.1 6 3)), some (pvR (zwf (M.1 6 3))), some (pvI x24_)], [pvI 108, pvI (M.1 6 3)], M25_)) rfl ⟨trivial, trivial, trivial⟩ ?_
          refine pw_icn hT (c := (M.1 6 3) = 108) rfl rfl (fun c33_ => ?_) (fun c33_ => ?_)
          · refine pw_blk hT 2 (S' := (69, [some (pvR 6), some (pvI (M.1 6 3)), some (pvR (zwf (M.1 6 3))), some (pvI x24_)], [pvI 115, pvI (M.1 6 3)], M25_)) rfl ⟨trivial, trivial, trivial⟩ ?_
            refine pw_ic hT (c := (M.1 6 3) = 115) rfl rfl (fun c34_ => absurd c34_ c32_) (fun c34_ => ?_)
            refine pw_blk hT 2 (S' := (75, [some (pvR 6), some (pvI (M.1 6 3)), some (pvR (zwf (M.1 6 3))), some (pvI x24_)], [pvI 108, pvI (M.1 6 3)], M25_)) rfl ⟨trivial, trivial, trivial⟩ ?_
            refine pw_icn hT (c := (M.1 6 3) = 108) rfl rfl (fun c35_ => ?_) (fun c35_ => absurd c35_ c33_)
            refine pw_blk hT 2 (S' := (83, [some (pvR 6), some (pvI (M.1 6 3)), some (pvR (zwf (M.1 6 3))), some (pvI x24_)], [pvI 32, pvR 6], M25_)) rfl ⟨trivial, trivial, trivial⟩ ?_
            have u36_ : Int32.toInt 32 = 32 := by decide
            have b37_ : (-1) ≤ Int32.toInt (M25_.1 6 2) ∧ Int32.toInt (M25_.1 6 2) ≤ 100 := pvok_r o27_ 6 2 rfl
            have b38_ : (-1) ≤ Int32.toInt (M25_.1 6 3) ∧ Int32.toInt (M25_.1 6 3) ≤ 127 := pvok_r o27_ 6 3 rfl
            refine pw_callGd hT (as := [pvR 6, pvI 32]) (lo1 := [some (pvR 6), some (pvI 32)]) (d1 := d) (rest := []) rfl rfl rfl rfl rfl (fun _ => rfl) (Nat.zero_le _) rfl rfl rfl (se_X5_readSign_6_x M25_ o27_ 32 (zr_wide (show 32 ≤ Int32.toInt 32 ∧ Int32.toInt 32 ≤ 32 from (by decide)) (by decide) (by decide)) (show (Int32.toInt (M25_.1 6 3) ≤ -1 ∨ Int32.toInt (M25_.1 6 2) ≤ 99) from (by omega)) d23_.2.1 d) (fun x40_ M41_ b42_ o43_ g44_ d39_ => ?_)
            have f45_ : pvFr fp_eX5_readClause_6 M M41_ := pvfr_t g44_ f29_ fp_eX5_readClause_6_fp_eX5_readSign_6_x
            refine pw_if hT (c := x40_ = 0) rfl rfl (fun c46_ => ?_) (fun c46_ => ?_)
            · have b47_ : 0 ≤ Int32.toInt x40_ ∧ Int32.toInt x40_ ≤ 0 := (by have u0 := b42_; have u1 := (zi_eq _ _).mp c46_; have u2 := (show 0 ≤ Int32.toInt 0 ∧ Int32.toInt 0 ≤ 0 from (by decide)); omega)
              refine pw_blk hT 1 (S' := (98, [some (pvR 6), some (pvI (M.1 6 3)), some (pvR (zwf (M.1 6 3))), some (pvI x24_)], [pvI 0], M41_)) rfl ⟨trivial, trivial⟩ ?_
              have b48_ : (-1) ≤ Int32.toInt (M41_.1 6 2) ∧ Int32.toInt (M41_.1 6 2) ≤ 100 := pvok_r o43_ 6 2 rfl
              have b49_ : (-1) ≤ Int32.toInt (M41_.1 6 3) ∧ Int32.toInt (M41_.1 6 3) ≤ 127 := pvok_r o43_ 6 3 rfl
              exact pw_ret hT rfl (r := some (pvI 0)) (M' := M41_) ⟨Or.inl rfl, rfl, rfl⟩ ⟨⟨_, rfl, (zr_wide (show 0 ≤ Int32.toInt 0 ∧ Int32.toInt 0 ≤ 0 from (by decide)) (by decide) (by decide))⟩, o43_, f45_, (by omega), (zTC_5 (zCn_i hs c9_ d12_.2 c19_ d23_.2 (by have u := b31_; omega)) c32_ c33_ d39_.2 c46_)⟩
            · have b50_ : 1 ≤ Int32.toInt x40_ ∧ Int32.toInt x40_ ≤ 1 := (by have u0 := b42_; have u1 := (not_congr (zi_eq _ _)).mp c46_; have u2 := (show 0 ≤ Int32.toInt 0 ∧ Int32.toInt 0 ≤ 0 from (by decide)); omega)
              refine pw_blk hT 2 (S' := (91, [some (pvR 6), some (pvI (M.1 6 3)), some (pvR (zwf (M.1 6 3))), some (pvI x24_)], [pvI 0, pvR 6], M41_)) rfl ⟨trivial, trivial, trivial⟩ ?_
              have u51_ : Int32.toInt 0 = 0 := by decide
              have b52_ : (-1) ≤ Int32.toInt (M41_.1 6 2) ∧ Int32.toInt (M41_.1 6 2) ≤ 100 := pvok_r o43_ 6 2 rfl
              have b53_ : (-1) ≤ Int32.toInt (M41_.1 6 3) ∧ Int32.toInt (M41_.1 6 3) ≤ 127 := pvok_r o43_ 6 3 rfl
              refine pw_callGd hT (as := [pvR 6, pvI 0]) (lo1 := [some (pvR 6), some (pvI 0), none]) (d1 := d) (rest := []) rfl rfl rfl rfl rfl (fun _ => rfl) (Nat.zero_le _) rfl rfl rfl (se_X5_readAny_6_0 M41_ o43_ (show (Int32.toInt (M41_.1 6 3) ≤ -1 ∨ Int32.toInt (M41_.1 6 2) ≤ 99) from (by omega)) (zCn_c (zCn_i hs c9_ d12_.2 c19_ d23_.2 (by have u := b31_; omega)) d39_.2 c46_) d (Nat.le_trans (by decide) hd)) (fun x55_ M56_ b57_ o58_ g59_ d54_ => ?_)
              have f60_ : pvFr fp_eX5_readClause_6 M M56_ := pvfr_t g59_ f45_ fp_eX5_readClause_6_fp_eX5_readAny_6_0
              refine pw_ifn hT (c := x55_ = 0) rfl rfl (fun c61_ => ?_) (fun c61_ => ?_)
              · have b62_ : 1 ≤ Int32.toInt x55_ ∧ Int32.toInt x55_ ≤ 1 := (by have u0 := b57_; have u1 := (not_congr (zi_eq _ _)).mp c61_; have u2 := (show 0 ≤ Int32.toInt 0 ∧ Int32.toInt 0 ≤ 0 from (by decide)); omega)
                have b63_ : 15 ≤ Int32.toInt (M56_.1 6 4) ∧ Int32.toInt (M56_.1 6 4) ≤ 23 := pvok_r o58_ 6 4 rfl
                refine pw_blkr hT 2 (pc := 103) (lo := [some (pvR 6), some (pvI (M.1 6 3)), some (pvR (zwf (M.1 6 3))), some (pvI x24_)]) (st := []) (M := M56_) (z := (pvhp (M56_.1 6 4))) rfl ⟨trivial, rfl, trivial⟩ (fun q64_ e66_ => ?_)
                have k65_ : pvkl q64_ = 2 := pvhp_k b63_ e66_
                refine pw_blk hT 2 (S' := (106, [some (pvR 6), some (pvI (M.1 6 3)), some (pvR (zwf (M.1 6 3))), some (pvI x24_)], [pvI 119, pvI (M.1 6 3), pvR q64_], M56_)) rfl ⟨trivial, trivial, trivial⟩ ?_
                refine pw_icn hT (c := (M.1 6 3) = 119) rfl rfl (fun c67_ => ?_) (fun c67_ => ?_)
                · have b68_ : (-99) ≤ Int32.toInt (-x24_) ∧ Int32.toInt (-x24_) ≤ 0 := (by have u0 := b31_; have u := pvneg x24_ (by omega); omega)
                  refine pw_blk hT 2 (S' := (115, [some (pvR 6), some (pvI (M.1 6 3)), some (pvR (zwf (M.1 6 3))), some (pvI x24_)], [pvI (-x24_), pvR q64_], M56_)) rfl ⟨trivial, trivial, trivial⟩ ?_
                  refine pw_callVd hT (as := [pvR q64_, pvI (-x24_)]) (lo1 := [some (pvR q64_), some (pvI (-x24_))]) (d1 := d) (rest := []) rfl rfl rfl rfl rfl (fun _ => k65_) (Nat.zero_le _) rfl rfl rfl (se_X2_endClause_x_x M56_ o58_ q64_ (-x24_) k65_ (zr_wide b68_ (by decide) (by decide)) d) (fun M71_ o73_ g74_ d69_ => ?_)
                  have f75_ : pvFr fp_eX5_readClause_6 M M71_ := pvfr_t g74_ f60_ fp_eX5_readClause_6_fp_eX2_endClause_x_x
                  refine pw_blk hT 1 (S' := (119, [some (pvR 6), some (pvI (M.1 6 3)), some (pvR (zwf (M.1 6 3))), some (pvI x24_)], [pvI 1], M71_)) rfl ⟨trivial, trivial⟩ ?_
                  have e76_ : (M71_.1 6 2) = (M56_.1 6 2) := (g74_ 6 2 rfl)
                  have b77_ : (-1) ≤ Int32.toInt (M71_.1 6 2) ∧ Int32.toInt (M71_.1 6 2) ≤ 100 := pvok_r o73_ 6 2 rfl
                  have d78_ : Int32.toInt (M71_.1 6 2) = Int32.toInt (M56_.1 6 2) := congrArg Int32.toInt e76_
                  have e79_ : (M71_.1 6 3) = (M56_.1 6 3) := (g74_ 6 3 rfl)
                  have b80_ : (-1) ≤ Int32.toInt (M71_.1 6 3) ∧ Int32.toInt (M71_.1 6 3) ≤ 127 := pvok_r o73_ 6 3 rfl
                  have d81_ : Int32.toInt (M71_.1 6 3) = Int32.toInt (M56_.1 6 3) := congrArg Int32.toInt e79_
                  exact pw_ret hT rfl (r := some (pvI 1)) (M' := M71_) ⟨Or.inr rfl, rfl, rfl⟩ ⟨⟨_, rfl, (zr_wide (show 1 ≤ Int32.toInt 1 ∧ Int32.toInt 1 ≤ 1 from (by decide)) (by decide) (by decide))⟩, o73_, f75_, (by omega), (zTC_7 (zCn_i hs c9_ d12_.2 c19_ d23_.2 (by have u := b31_; omega)) c32_ c33_ d39_.2 c46_ d54_.2 c61_ e66_ d69_ (Or.inr ⟨c67_, rfl⟩))⟩
                · have b82_ : 119 ≤ Int32.toInt (M.1 6 3) ∧ Int32.toInt (M.1 6 3) ≤ 119 := (by have u0 := b2_; have u1 := (zi_eq _ _).mp c67_; have u2 := (show 119 ≤ Int32.toInt 119 ∧ Int32.toInt 119 ≤ 119 from (by decide)); omega)
                  refine pw_blk hT 2 (S' := (115, [some (pvR 6), some (pvI (M.1 6 3)), some (pvR (zwf (M.1 6 3))), some (pvI x24_)], [pvI x24_, pvR q64_], M56_)) rfl ⟨trivial, trivial, trivial⟩ ?_
                  refine pw_callVd hT (as := [pvR q64_, pvI x24_]) (lo1 := [some (pvR q64_), some (pvI x24_)]) (d1 := d) (rest := []) rfl rfl rfl rfl rfl (fun _ => k65_) (Nat.zero_le _) rfl rfl rfl (se_X2_endClause_x_x M56_ o58_ q64_ x24_ k65_ (zr_wide b31_ (by decide) (by decide)) d) (fun M85_ o87_ g88_ d83_ => ?_)
                  have f89_ : pvFr fp_eX5_readClause_6 M M85_ := pvfr_t g88_ f60_ fp_eX5_readClause_6_fp_eX2_endClause_x_x
                  refine pw_blk hT 1 (S' := (119, [some (pvR 6), some (pvI (M.1 6 3)), some (pvR (zwf (M.1 6 3))), some (pvI x24_)], [pvI 1], M85_)) rfl ⟨trivial, trivial⟩ ?_
                  have e90_ : (M85_.1 6 2) = (M56_.1 6 2) := (g88_ 6 2 rfl)
                  have b91_ : (-1) ≤ Int32.toInt (M85_.1 6 2) ∧ Int32.toInt (M85_.1 6 2) ≤ 100 := pvok_r o87_ 6 2 rfl
                  have d92_ : Int32.toInt (M85_.1 6 2) = Int32.toInt (M56_.1 6 2) := congrArg Int32.toInt e90_
                  have e93_ : (M85_.1 6 3) = (M56_.1 6 3) := (g88_ 6 3 rfl)
                  have b94_ : (-1) ≤ Int32.toInt (M85_.1 6 3) ∧ Int32.toInt (M85_.1 6 3) ≤ 127 := pvok_r o87_ 6 3 rfl
                  have d95_ : Int32.toInt (M85_.1 6 3) = Int32.toInt (M56_.1 6 3) := congrArg Int32.toInt e93_
                  exact pw_ret hT rfl (r := some (pvI 1)) (M' := M85_) ⟨Or.inr rfl, rfl, rfl⟩ ⟨⟨_, rfl, (zr_wide (show 1 ≤ Int32.toInt 1 ∧ Int32.toInt 1 ≤ 1 from (by decide)) (by decide) (by decide))⟩, o87_, f89_, (by omega), (zTC_7 (zCn_i hs c9_ d12_.2 c19_ d23_.2 (by have u := b31_; omega)) c32_ c33_ d39_.2 c46_ d54_.2 c61_ e66_ d83_ (Or.inl ⟨c67_, rfl⟩))⟩
              · have b96_ : 0 ≤ Int32.toInt x55_ ∧ Int32.toInt x55_ ≤ 0 := (by have u0 := b57_; have u1 := (zi_eq _ _).mp c61_; have u2 := (show 0 ≤ Int32.toInt 0 ∧ Int32.toInt 0 ≤ 0 from (by decide)); omega)
                refine pw_blk hT 1 (S' := (98, [some (pvR 6), some (pvI (M.1 6 3)), some (pvR (zwf (M.1 6 3))), some (pvI x24_)], [pvI 0], M56_)) rfl ⟨trivial, trivial⟩ ?_
                have b97_ : (-1) ≤ Int32.toInt (M56_.1 6 2) ∧ Int32.toInt (M56_.1 6 2) ≤ 100 := pvok_r o58_ 6 2 rfl
                have b98_ : (-1) ≤ Int32.toInt (M56_.1 6 3) ∧ Int32.toInt (M56_.1 6 3) ≤ 127 := pvok_r o58_ 6 3 rfl
                exact pw_ret hT rfl (r := some (pvI 0)) (M' := M56_) ⟨Or.inl rfl, rfl, rfl⟩ ⟨⟨_, rfl, (zr_wide (show 0 ≤ Int32.toInt 0 ∧ Int32.toInt 0 ≤ 0 from (by decide)) (by decide) (by decide))⟩, o58_, f60_, (by omega), (zTC_6 (zCn_i hs c9_ d12_.2 c19_ d23_.2 (by have u := b31_; omega)) c32_ c33_ d39_.2 c46_ d54_.2 c61_)⟩
          · have b99_ : 108 ≤ Int32.toInt (M.1 6 3) ∧ Int32.toInt (M.1 6 3) ≤ 108 := (by have u0 := b2_; have u1 := (zi_eq _ _).mp c33_; have u2 := (show 108 ≤ Int32.toInt 108 ∧ Int32.toInt 108 ≤ 108 from (by decide)); omega)
            have b100_ : 15 ≤ Int32.toInt (M25_.1 6 4) ∧ Int32.toInt (M25_.1 6 4) ≤ 23 := pvok_r o27_ 6 4 rfl
            refine pw_blkr hT 2 (pc := 62) (lo := [some (pvR 6), some (pvI (M.1 6 3)), some (pvR (zwf (M.1 6 3))), some (pvI x24_)]) (st := []) (M := M25_) (z := (pvhp (M25_.1 6 4))) rfl ⟨trivial, rfl, trivial⟩ (fun q101_ e103_ => ?_)
            have k102_ : pvkl q101_ = 2 := pvhp_k b100_ e103_
            refine pw_blkw hT 2 (pc := 66) (lo := [some (pvR 6), some (pvI (M.1 6 3)), some (pvR (zwf (M.1 6 3))), some (pvI x24_)]) (st := []) (M := pvu M25_ q101_ 1 x24_) rfl ⟨trivial, k102_, trivial⟩ (fun M104_ e105_ => ?_)
            have o106_ : pvOk M104_ := pvok_u2 e105_ o27_ ((pvrg_o 1 k102_ (by decide) (by decide)).trans rfl) b31_
            have f107_ : pvFr fp_eX5_readClause_6 M M104_ := pvfr_u e105_ f29_ (pvfp_r (l := fpL_eX5_readClause_6) (pvowr_2 k102_) (kk := 2) (by decide) (Or.inr rfl))
            refine pw_blk hT 2 (S' := (69, [some (pvR 6), some (pvI (M.1 6 3)), some (pvR (zwf (M.1 6 3))), some (pvI x24_)], [pvI 115, pvI (M.1 6 3)], M104_)) rfl ⟨trivial, trivial, trivial⟩ ?_
            refine pw_ic hT (c := (M.1 6 3) = 115) rfl rfl (fun c108_ => absurd c108_ c32_) (fun c108_ => ?_)
            refine pw_blk hT 2 (S' := (75, [some (pvR 6), some (pvI (M.1 6 3)), some (pvR (zwf (M.1 6 3))), some (pvI x24_)], [pvI 108, pvI (M.1 6 3)], M104_)) rfl ⟨trivial, trivial, trivial⟩ ?_
            refine pw_icn hT (c := (M.1 6 3) = 108) rfl rfl (fun c109_ => absurd c33_ c109_) (fun c109_ => ?_)
            refine pw_blk hT 1 (S' := (79, [some (pvR 6), some (pvI (M.1 6 3)), some (pvR (zwf (M.1 6 3))), some (pvI x24_)], [pvI 1], M104_)) rfl ⟨trivial, trivial⟩ ?_
            have e110_ : (M104_.1 6 2) = (M25_.1 6 2) := (pvu_n e105_ 6 2 (Or.inl (fun z => absurd (z ▸ k102_) (by decide))))
            have b111_ : (-1) ≤ Int32.toInt (M104_.1 6 2) ∧ Int32.toInt (M104_.1 6 2) ≤ 100 := pvok_r o106_ 6 2 rfl
            have d112_ : Int32.toInt (M104_.1 6 2) = Int32.toInt (M25_.1 6 2) := congrArg Int32.toInt e110_
            have e113_ : (M104_.1 6 3) = (M25_.1 6 3) := (pvu_n e105_ 6 3 (Or.inl (fun z => absurd (z ▸ k102_) (by decide))))
            have b114_ : (-1) ≤ Int32.toInt (M104_.1 6 3) ∧ Int32.toInt (M104_.1 6 3) ≤ 127 := pvok_r o106_ 6 3 rfl
            have d115_ : Int32.toInt (M104_.1 6 3) = Int32.toInt (M25_.1 6 3) := congrArg Int32.toInt e113_
            exact pw_ret hT rfl (r := some (pvI 1)) (M' := M104_) ⟨Or.inr rfl, rfl, rfl⟩ ⟨⟨_, rfl, (zr_wide (show 1 ≤ Int32.toInt 1 ∧ Int32.toInt 1 ≤ 1 from (by decide)) (by decide) (by decide))⟩, o106_, f107_, (by omega), (zTC_4 (zCn_i hs c9_ d12_.2 c19_ d23_.2 (by have u := b31_; omega)) (Or.inr ⟨rfl, c33_⟩) e103_ e105_)⟩
        · have b116_ : 115 ≤ Int32.toInt (M.1 6 3) ∧ Int32.toInt (M.1 6 3) ≤ 115 := (by have u0 := b2_; have u1 := (zi_eq _ _).mp c32_; have u2 := (show 115 ≤ Int32.toInt 115 ∧ Int32.toInt 115 ≤ 115 from (by decide)); omega)
          have b117_ : 15 ≤ Int32.toInt (M25_.1 6 4) ∧ Int32.toInt (M25_.1 6 4) ≤ 23 := pvok_r o27_ 6 4 rfl
          refine pw_blkr hT 2 (pc := 48) (lo := [some (pvR 6), some (pvI (M.1 6 3)), some (pvR (zwf (M.1 6 3))), some (pvI x24_)]) (st := []) (M := M25_) (z := (pvhp (M25_.1 6 4))) rfl ⟨trivial, rfl, trivial⟩ (fun q118_ e120_ => ?_)
          have k119_ : pvkl q118_ = 2 := pvhp_k b117_ e120_
          refine pw_blkw hT 2 (pc := 52) (lo := [some (pvR 6), some (pvI (M.1 6 3)), some (pvR (zwf (M.1 6 3))), some (pvI x24_)]) (st := []) (M := pvu M25_ q118_ 0 x24_) rfl ⟨trivial, k119_, trivial⟩ (fun M121_ e122_ => ?_)
          have o123_ : pvOk M121_ := pvok_u2 e122_ o27_ ((pvrg_o 0 k119_ (by decide) (by decide)).trans rfl) b31_
          have f124_ : pvFr fp_eX5_readClause_6 M M121_ := pvfr_u e122_ f29_ (pvfp_r (l := fpL_eX5_readClause_6) (pvowr_2 k119_) (kk := 1) (by decide) (Or.inr rfl))
          refine pw_blk hT 2 (S' := (55, [some (pvR 6), some (pvI (M.1 6 3)), some (pvR (zwf (M.1 6 3))), some (pvI x24_)], [pvI 108, pvI (M.1 6 3)], M121_)) rfl ⟨trivial, trivial, trivial⟩ ?_
          refine pw_icn hT (c := (M.1 6 3) = 108) rfl rfl (fun c125_ => ?_) (fun c125_ => absurd c125_ (by have z0 := b116_; have z1 := (show 108 ≤ Int32.toInt 108 ∧ Int32.toInt 108 ≤ 108 from (by decide)); rw [zi_eq]; omega))
          refine pw_blk hT 2 (S' := (69, [some (pvR 6), some (pvI (M.1 6 3)), some (pvR (zwf (M.1 6 3))), some (pvI x24_)], [pvI 115, pvI (M.1 6 3)], M121_)) rfl ⟨trivial, trivial, trivial⟩ ?_
          refine pw_ic hT (c := (M.1 6 3) = 115) rfl rfl (fun c126_ => ?_) (fun c126_ => absurd c32_ c126_)
          refine pw_blk hT 1 (S' := (79, [some (pvR 6), some (pvI (M.1 6 3)), some (pvR (zwf (M.1 6 3))), some (pvI x24_)], [pvI 1], M121_)) rfl ⟨trivial, trivial⟩ ?_
          have e127_ : (M121_.1 6 2) = (M25_.1 6 2) := (pvu_n e122_ 6 2 (Or.inl (fun z => absurd (z ▸ k119_) (by decide))))
          have b128_ : (-1) ≤ Int32.toInt (M121_.1 6 2) ∧ Int32.toInt (M121_.1 6 2) ≤ 100 := pvok_r o123_ 6 2 rfl
          have d129_ : Int32.toInt (M121_.1 6 2) = Int32.toInt (M25_.1 6 2) := congrArg Int32.toInt e127_
          have e130_ : (M121_.1 6 3) = (M25_.1 6 3) := (pvu_n e122_ 6 3 (Or.inl (fun z => absurd (z ▸ k119_) (by decide))))
          have b131_ : (-1) ≤ Int32.toInt (M121_.1 6 3) ∧ Int32.toInt (M121_.1 6 3) ≤ 127 := pvok_r o123_ 6 3 rfl
          have d132_ : Int32.toInt (M121_.1 6 3) = Int32.toInt (M25_.1 6 3) := congrArg Int32.toInt e130_
          exact pw_ret hT rfl (r := some (pvI 1)) (M' := M121_) ⟨Or.inr rfl, rfl, rfl⟩ ⟨⟨_, rfl, (zr_wide (show 1 ≤ Int32.toInt 1 ∧ Int32.toInt 1 ≤ 1 from (by decide)) (by decide) (by decide))⟩, o123_, f124_, (by omega), (zTC_4 (zCn_i hs c9_ d12_.2 c19_ d23_.2 (by have u := b31_; omega)) (Or.inl ⟨rfl, c32_⟩) e120_ e122_)⟩
      · have b133_ : (-1) ≤ Int32.toInt x24_ ∧ Int32.toInt x24_ ≤ (-1) := zr_nle_r (-1) c30_ b26_ (show 0 ≤ Int32.toInt 0 ∧ Int32.toInt 0 ≤ 0 from (by decide)) (by decide)
        refine pw_blk hT 1 (S' := (37, [some (pvR 6), some (pvI (M.1 6 3)), some (pvR (zwf (M.1 6 3))), some (pvI x24_)], [pvI 0], M25_)) rfl ⟨trivial, trivial⟩ ?_
        have b134_ : (-1) ≤ Int32.toInt (M25_.1 6 2) ∧ Int32.toInt (M25_.1 6 2) ≤ 100 := pvok_r o27_ 6 2 rfl
        have b135_ : (-1) ≤ Int32.toInt (M25_.1 6 3) ∧ Int32.toInt (M25_.1 6 3) ≤ 127 := pvok_r o27_ 6 3 rfl
        exact pw_ret hT rfl (r := some (pvI 0)) (M' := M25_) ⟨Or.inl rfl, rfl, rfl⟩ ⟨⟨_, rfl, (zr_wide (show 0 ≤ Int32.toInt 0 ∧ Int32.toInt 0 ≤ 0 from (by decide)) (by decide) (by decide))⟩, o27_, f29_, (by omega), (zTC_3 hs.1 c9_ d12_.2 c19_ d23_.2 (by have u := b133_; omega))⟩
    · have b136_ : 0 ≤ Int32.toInt x13_ ∧ Int32.toInt x13_ ≤ 0 := (by have u0 := b15_; have u1 := (zi_eq _ _).mp c19_; have u2 := (show 0 ≤ Int32.toInt 0 ∧ Int32.toInt 0 ≤ 0 from (by decide)); omega)
      refine pw_blk hT 1 (S' := (26, [some (pvR 6), some (pvI (M.1 6 3)), some (pvR (zwf (M.1 6 3))), none], [pvI 0], M14_)) rfl ⟨trivial, trivial⟩ ?_
      have b137_ : (-1) ≤ Int32.toInt (M14_.1 6 2) ∧ Int32.toInt (M14_.1 6 2) ≤ 100 := pvok_r o16_ 6 2 rfl
      have b138_ : (-1) ≤ Int32.toInt (M14_.1 6 3) ∧ Int32.toInt (M14_.1 6 3) ≤ 127 := pvok_r o16_ 6 3 rfl
      exact pw_ret hT rfl (r := some (pvI 0)) (M' := M14_) ⟨Or.inl rfl, rfl, rfl⟩ ⟨⟨_, rfl, (zr_wide (show 0 ≤ Int32.toInt 0 ∧ Int32.toInt 0 ≤ 0 from (by decide)) (by decide) (by decide))⟩, o16_, f18_, (by omega), (zTC_2 hs.1 c9_ d12_.2 c19_)⟩
def fpL_eX5_readInto_6_x : List (Nat × Nat × Nat) := [(0, 6, 3), (0, 6, 4), (0, 6, 5), (1, 109, 0), (1, 110, 0), (1, 111, 0), (1, 2, 1), (1, 2, 2), (1, 2, 3), (1, 2, 6)]
def fp_eX5_readInto_6_x (q k : Nat) : Bool := pvfp fpL_eX5_readInto_6_x q k
theorem fp_eX5_readInto_6_x_fp_eX2_becomeBare_x (a b : Nat) (h : fp_eX2_becomeBare_x a b = true) : fp_eX5_readInto_6_x a b = true := pvfp_sub (l1 := fpL_eX2_becomeBare_x) (l2 := fpL_eX5_readInto_6_x) (by decide) a b h
theorem fp_eX5_readInto_6_x_fp_eX5_goOn_6 (a b : Nat) (h : fp_eX5_goOn_6 a b = true) : fp_eX5_readInto_6_x a b = true := pvfp_sub (l1 := fpL_eX5_goOn_6) (l2 := fpL_eX5_readInto_6_x) (by decide) a b h
theorem fp_eX5_readInto_6_x_fp_eX5_readClause_6 (a b : Nat) (h : fp_eX5_readClause_6 a b = true) : fp_eX5_readInto_6_x a b = true := pvfp_sub (l1 := fpL_eX5_readClause_6) (l2 := fpL_eX5_readInto_6_x) (by decide) a b h
theorem fp_eX5_readInto_6_x_fp_eX5_readSign_6_x (a b : Nat) (h : fp_eX5_readSign_6_x a b = true) : fp_eX5_readInto_6_x a b = true := pvfp_sub (l1 := fpL_eX5_readSign_6_x) (l2 := fpL_eX5_readInto_6_x) (by decide) a b h
set_option maxHeartbeats 4000000 in
set_option maxRecDepth 10000 in
theorem se_X5_readInto_6_x (M : pvM) (hok : pvOk M) (q1 : Nat) (hq1 : pvkl q1 = 2) (d : Nat) (hd : 4 ≤ d) : PW 143 d (0, [some (pvR 6), some (pvR q1), none], [], M) (fun r X => (∃ x : Int32, r = some (pvI x) ∧ 0 ≤ Int32.toInt x ∧ Int32.toInt x ≤ 1) ∧ pvOk X ∧ pvFr fp_eX5_readInto_6_x M X ∧ zTI q1 r M X) := by
  have hT : pvdom 143 = pvD_143 := rfl
  have b1_ : (-1) ≤ Int32.toInt (M.1 6 2) ∧ Int32.toInt (M.1 6 2) ≤ 100 := pvok_r hok 6 2 rfl
  have b2_ : (-1) ≤ Int32.toInt (M.1 6 3) ∧ Int32.toInt (M.1 6 3) ≤ 127 := pvok_r hok 6 3 rfl
  refine pw_blkw hT 3 (pc := 5) (lo := [some (pvR 6), some (pvR q1), none]) (st := []) (M := pvu M 6 4 (nI q1)) rfl ⟨trivial, trivial, ⟨rfl, hq1⟩, trivial⟩ (fun M3_ e4_ => ?_)
  have o5_ : pvOk M3_ := pvok_u2 e4_ hok rfl (pvhp_r hq1)
  have f6_ : pvFr fp_eX5_readInto_6_x M M3_ := pvfr_u e4_ pvfr_0 rfl
  refine pw_blk hT 1 (S' := (6, [some (pvR 6), some (pvR q1), none], [pvR q1], M3_)) rfl ⟨trivial, trivial⟩ ?_
  refine pw_callVd hT (as := [pvR q1]) (lo1 := [some (pvR q1)]) (d1 := d) (rest := []) rfl rfl rfl rfl rfl (fun _ => hq1) (Nat.zero_le _) rfl rfl rfl (se_X2_becomeBare_x M3_ o5_ q1 hq1 d) (fun M9_ o11_ g12_ d7_ => ?_)
  have f13_ : pvFr fp_eX5_readInto_6_x M M9_ := pvfr_t g12_ f6_ fp_eX5_readInto_6_x_fp_eX2_becomeBare_x
  refine pw_blkw hT 3 (pc := 14) (lo := [some (pvR 6), some (pvR q1), none]) (st := []) (M := pvu M9_ 6 2 (-1)) rfl ⟨trivial, trivial, rfl, trivial⟩ (fun M14_ e15_ => ?_)
  have o16_ : pvOk M14_ := pvok_u2 e15_ o11_ rfl (zr_wide (show (-1) ≤ Int32.toInt (-1) ∧ Int32.toInt (-1) ≤ (-1) from (by decide)) (by decide) (by decide))
  have f17_ : pvFr fp_eX5_readInto_6_x M M14_ := pvfr_u e15_ f13_ rfl
  refine pw_blk hT 1 (S' := (15, [some (pvR 6), some (pvR q1), none], [pvR 6], M14_)) rfl ⟨trivial, trivial⟩ ?_
  have e18_ : (M14_.1 6 2) = (-1) := (pvu_s e15_)
  have b19_ : (-1) ≤ Int32.toInt (M14_.1 6 2) ∧ Int32.toInt (M14_.1 6 2) ≤ (-1) := (by rw [e18_]; exact (show (-1) ≤ Int32.toInt (-1) ∧ Int32.toInt (-1) ≤ (-1) from (by decide)))
  have u20_ : Int32.toInt (-1) = (-1) := by decide
  have d21_ : Int32.toInt (M14_.1 6 2) = Int32.toInt (-1) := congrArg Int32.toInt e18_
  refine pw_callVd hT (as := [pvR 6]) (lo1 := [some (pvR 6)]) (d1 := d) (rest := []) rfl rfl rfl rfl rfl (fun _ => rfl) (Nat.zero_le _) rfl rfl rfl (se_X5_goOn_6 M14_ o16_ (zr_wide b19_ (by decide) (by decide)) d) (fun M24_ o26_ g27_ d22_ => ?_)
  have f28_ : pvFr fp_eX5_readInto_6_x M M24_ := pvfr_t g27_ f17_ fp_eX5_readInto_6_x_fp_eX5_goOn_6
  refine pw_blk hT 2 (S' := (20, [some (pvR 6), some (pvR q1), some (pvI 1)], [], M24_)) rfl ⟨trivial, trivial, trivial⟩ ?_
  have b29_ : (-1) ≤ Int32.toInt (M24_.1 6 2) ∧ Int32.toInt (M24_.1 6 2) ≤ 100 := pvok_r o26_ 6 2 rfl
  have hlz191_ : ∀ (nz191_ : Nat) (i2z191_ : Int32) (Mz191_ : pvM), (pvOk Mz191_) → (pvFr fp_eX5_readInto_6_x M Mz191_) → (1 ≤ Int32.toInt i2z191_ ∧ Int32.toInt i2z191_ ≤ 10) → ((Int32.toInt (Mz191_.1 6 3) ≤ -1 ∨ Int32.toInt (Mz191_.1 6 2) ≤ 99)) → (zLI q1 (Int32.toNatClampNeg i2z191_ - 1) M Mz191_) → (zhide ((11 - Int32.toInt i2z191_).toNat < nz191_)) → PW 143 d (20, [some (pvR 6), some (pvR q1), some (pvI i2z191_)], [], Mz191_) (fun r X => (∃ x : Int32, r = some (pvI x) ∧ 0 ≤ Int32.toInt x ∧ Int32.toInt x ≤ 1) ∧ pvOk X ∧ pvFr fp_eX5_readInto_6_x M X ∧ zTI q1 r M X) := by
    intro nz191_
    induction nz191_ with
    | zero => intro i2z191_ Mz191_ oz191_ fz191_ h2z191_ j0z191_ j1z191_ hmz191_; exact absurd (zshow hmz191_) (Nat.not_lt_zero _)
    | succ nz191_ ihz191_ =>
      intro i2z191_ Mz191_ oz191_ fz191_ h2z191_ j0z191_ j1z191_ hmz191_
      have b192_ : (-1) ≤ Int32.toInt (Mz191_.1 6 2) ∧ Int32.toInt (Mz191_.1 6 2) ≤ 100 := pvok_r oz191_ 6 2 rfl
      have b193_ : (-1) ≤ Int32.toInt (Mz191_.1 6 3) ∧ Int32.toInt (Mz191_.1 6 3) ≤ 127 := pvok_r oz191_ 6 3 rfl
      refine pw_blk hT 2 (S' := (23, [some (pvR 6), some (pvR q1), some (pvI i2z191_)], [pvI 10, pvI i2z191_], Mz191_)) rfl ⟨trivial, trivial, trivial⟩ ?_
      refine pw_ic hT (c := 10 < i2z191_) rfl rfl (fun c194_ => absurd c194_ (by have z0 := (show 10 ≤ Int32.toInt 10 ∧ Int32.toInt 10 ≤ 10 from (by decide)); have z1 := h2z191_; rw [zi_lt]; omega)) (fun c194_ => ?_)
      refine pw_blk hT 1 (S' := (27, [some (pvR 6), some (pvR q1), some (pvI i2z191_)], [pvR 6], Mz191_)) rfl ⟨trivial, trivial⟩ ?_
      refine pw_callGd hT (as := [pvR 6]) (lo1 := [some (pvR 6), none, none, none]) (d1 := d) (rest := []) rfl rfl rfl rfl rfl (fun _ => rfl) (Nat.zero_le _) rfl rfl rfl (se_X5_readClause_6 Mz191_ oz191_ (show (Int32.toInt (Mz191_.1 6 3) ≤ -1 ∨ Int32.toInt (Mz191_.1 6 2) ≤ 99) from (by omega)) j1z191_.1 d (Nat.le_trans (by decide) hd)) (fun x196_ M197_ b198_ o199_ g200_ d195_ => ?_)
      have f201_ : pvFr fp_eX5_readInto_6_x M M197_ := pvfr_t g200_ fz191_ fp_eX5_readInto_6_x_fp_eX5_readClause_6
      refine pw_ifn hT (c := x196_ = 0) rfl rfl (fun c202_ => ?_) (fun c202_ => ?_)
      · have b203_ : 1 ≤ Int32.toInt x196_ ∧ Int32.toInt x196_ ≤ 1 := (by have u0 := b198_; have u1 := (not_congr (zi_eq _ _)).mp c202_; have u2 := (show 0 ≤ Int32.toInt 0 ∧ Int32.toInt 0 ≤ 0 from (by decide)); omega)
        have b204_ : (-1) ≤ Int32.toInt (M197_.1 6 3) ∧ Int32.toInt (M197_.1 6 3) ≤ 127 := pvok_r o199_ 6 3 rfl
        refine pw_blk hT 3 (S' := (40, [some (pvR 6), some (pvR q1), some (pvI i2z191_)], [pvI (-1), pvI (M197_.1 6 3)], M197_)) rfl ⟨trivial, rfl, trivial, trivial⟩ ?_
        refine pw_icn hT (c := (M197_.1 6 3) = (-1)) rfl rfl (fun c205_ => ?_) (fun c205_ => ?_)
        · have b206_ : 0 ≤ Int32.toInt (M197_.1 6 3) ∧ Int32.toInt (M197_.1 6 3) ≤ 127 := (by have u0 := b204_; have u1 := (not_congr (zi_eq _ _)).mp c205_; have u2 := (show (-1) ≤ Int32.toInt (-1) ∧ Int32.toInt (-1) ≤ (-1) from (by decide)); omega)
          refine pw_blk hT 2 (S' := (48, [some (pvR 6), some (pvR q1), some (pvI i2z191_)], [pvI 10, pvI i2z191_], M197_)) rfl ⟨trivial, trivial, trivial⟩ ?_
          refine pw_ic hT (c := i2z191_ = 10) rfl rfl (fun c207_ => ?_) (fun c207_ => ?_)
          · have b208_ : 10 ≤ Int32.toInt i2z191_ ∧ Int32.toInt i2z191_ ≤ 10 := (by have u0 := h2z191_; have u1 := (zi_eq _ _).mp c207_; have u2 := (show 10 ≤ Int32.toInt 10 ∧ Int32.toInt 10 ≤ 10 from (by decide)); omega)
            refine pw_blk hT 1 (S' := (61, [some (pvR 6), some (pvR q1), some (pvI i2z191_)], [pvI 0], M197_)) rfl ⟨trivial, trivial⟩ ?_
            have b209_ : (-1) ≤ Int32.toInt (M197_.1 6 2) ∧ Int32.toInt (M197_.1 6 2) ≤ 100 := pvok_r o199_ 6 2 rfl
            exact pw_ret hT rfl (r := some (pvI 0)) (M' := M197_) ⟨Or.inl rfl, rfl, rfl⟩ ⟨⟨_, rfl, (zr_wide (show 0 ≤ Int32.toInt 0 ∧ Int32.toInt 0 ≤ 0 from (by decide)) (by decide) (by decide))⟩, o199_, f201_, (zTI_3 j1z191_ d195_.2 c202_ (by rw [c207_]; decide) c205_)⟩
          · have b210_ : 1 ≤ Int32.toInt i2z191_ ∧ Int32.toInt i2z191_ ≤ 9 := (by have u0 := h2z191_; have u1 := (not_congr (zi_eq _ _)).mp c207_; have u2 := (show 10 ≤ Int32.toInt 10 ∧ Int32.toInt 10 ≤ 10 from (by decide)); omega)
            refine pw_blk hT 2 (S' := (54, [some (pvR 6), some (pvR q1), some (pvI i2z191_)], [pvI 59, pvR 6], M197_)) rfl ⟨trivial, trivial, trivial⟩ ?_
            have u211_ : Int32.toInt 59 = 59 := by decide
            have b212_ : (-1) ≤ Int32.toInt (M197_.1 6 2) ∧ Int32.toInt (M197_.1 6 2) ≤ 100 := pvok_r o199_ 6 2 rfl
            refine pw_callGd hT (as := [pvR 6, pvI 59]) (lo1 := [some (pvR 6), some (pvI 59)]) (d1 := d) (rest := []) rfl rfl rfl rfl rfl (fun _ => rfl) (Nat.zero_le _) rfl rfl rfl (se_X5_readSign_6_x M197_ o199_ 59 (zr_wide (show 59 ≤ Int32.toInt 59 ∧ Int32.toInt 59 ≤ 59 from (by decide)) (by decide) (by decide)) (show (Int32.toInt (M197_.1 6 3) ≤ -1 ∨ Int32.toInt (M197_.1 6 2) ≤ 99) from (by omega)) d195_.2.1 d) (fun x214_ M215_ b216_ o217_ g218_ d213_ => ?_)
            have f219_ : pvFr fp_eX5_readInto_6_x M M215_ := pvfr_t g218_ f201_ fp_eX5_readInto_6_x_fp_eX5_readSign_6_x
            refine pw_ifn hT (c := x214_ = 0) rfl rfl (fun c220_ => ?_) (fun c220_ => ?_)
            · have b221_ : 1 ≤ Int32.toInt x214_ ∧ Int32.toInt x214_ ≤ 1 := (by have u0 := b216_; have u1 := (not_congr (zi_eq _ _)).mp c220_; have u2 := (show 0 ≤ Int32.toInt 0 ∧ Int32.toInt 0 ≤ 0 from (by decide)); omega)
              obtain ⟨q223_, b222_⟩ : (Int32.toInt (i2z191_ + 1) = Int32.toInt i2z191_ + 1) ∧ (2 ≤ Int32.toInt (i2z191_ + 1) ∧ Int32.toInt (i2z191_ + 1) ≤ 10) := zadd_k i2z191_ 1 1 2 10 b210_ (by decide) (by decide) (by decide) (by decide) (by decide)
              refine pw_blk hT 2 (S' := (20, [some (pvR 6), some (pvR q1), some (pvI (i2z191_ + 1))], [], M215_)) rfl ⟨trivial, trivial, trivial⟩ ?_
              have b224_ : (-1) ≤ Int32.toInt (M215_.1 6 2) ∧ Int32.toInt (M215_.1 6 2) ≤ 100 := pvok_r o217_ 6 2 rfl
              have b225_ : (-1) ≤ Int32.toInt (M215_.1 6 3) ∧ Int32.toInt (M215_.1 6 3) ≤ 127 := pvok_r o217_ 6 3 rfl
              have j226_ : (Int32.toInt (M215_.1 6 3) ≤ -1 ∨ Int32.toInt (M215_.1 6 2) ≤ 99) := by omega
              have j227_ : zLI q1 (Int32.toNatClampNeg (i2z191_ + 1) - 1) M M215_ := (zLI_n (show Int32.toNatClampNeg (i2z191_ + 1) - 1 = Int32.toNatClampNeg i2z191_ - 1 + 1 from by rw [znp1 b210_ (by decide) (by decide)]; have v := b210_; have w : Int32.toNatClampNeg i2z191_ = (Int32.toInt i2z191_).toNat := rfl; omega) ((zTI_4 j1z191_ d195_.2 c202_ (show (Int32.toInt i2z191_).toNat - 1 < 9 from by have u := b210_; have v : Int32.toInt 10 = 10 := (by decide); have w := (not_congr (zi_eq _ _)).mp c207_; omega) c205_ d213_.2).2 c220_))
              exact ihz191_ (i2z191_ + 1) M215_ o217_ f219_ (zr_wide b222_ (by decide) (by decide)) j226_ j227_ (zhid (pvms_up (zshow hmz191_) h2z191_ q223_ (by decide) (by decide)))
            · have b228_ : 0 ≤ Int32.toInt x214_ ∧ Int32.toInt x214_ ≤ 0 := (by have u0 := b216_; have u1 := (zi_eq _ _).mp c220_; have u2 := (show 0 ≤ Int32.toInt 0 ∧ Int32.toInt 0 ≤ 0 from (by decide)); omega)
              refine pw_blk hT 1 (S' := (61, [some (pvR 6), some (pvR q1), some (pvI i2z191_)], [pvI 0], M215_)) rfl ⟨trivial, trivial⟩ ?_
              have b229_ : (-1) ≤ Int32.toInt (M215_.1 6 2) ∧ Int32.toInt (M215_.1 6 2) ≤ 100 := pvok_r o217_ 6 2 rfl
              have b230_ : (-1) ≤ Int32.toInt (M215_.1 6 3) ∧ Int32.toInt (M215_.1 6 3) ≤ 127 := pvok_r o217_ 6 3 rfl
              exact pw_ret hT rfl (r := some (pvI 0)) (M' := M215_) ⟨Or.inl rfl, rfl, rfl⟩ ⟨⟨_, rfl, (zr_wide (show 0 ≤ Int32.toInt 0 ∧ Int32.toInt 0 ≤ 0 from (by decide)) (by decide) (by decide))⟩, o217_, f219_, ((zTI_4 j1z191_ d195_.2 c202_ (show (Int32.toInt i2z191_).toNat - 1 < 9 from by have u := b210_; have v : Int32.toInt 10 = 10 := (by decide); have w := (not_congr (zi_eq _ _)).mp c207_; omega) c205_ d213_.2).1 c220_)⟩
        · have b231_ : (-1) ≤ Int32.toInt (M197_.1 6 3) ∧ Int32.toInt (M197_.1 6 3) ≤ (-1) := (by have u0 := b204_; have u1 := (zi_eq _ _).mp c205_; have u2 := (show (-1) ≤ Int32.toInt (-1) ∧ Int32.toInt (-1) ≤ (-1) from (by decide)); omega)
          refine pw_blk hT 1 (S' := (44, [some (pvR 6), some (pvR q1), some (pvI i2z191_)], [pvI 1], M197_)) rfl ⟨trivial, trivial⟩ ?_
          have b232_ : (-1) ≤ Int32.toInt (M197_.1 6 2) ∧ Int32.toInt (M197_.1 6 2) ≤ 100 := pvok_r o199_ 6 2 rfl
          exact pw_ret hT rfl (r := some (pvI 1)) (M' := M197_) ⟨Or.inr rfl, rfl, rfl⟩ ⟨⟨_, rfl, (zr_wide (show 1 ≤ Int32.toInt 1 ∧ Int32.toInt 1 ≤ 1 from (by decide)) (by decide) (by decide))⟩, o199_, f201_, (zTI_2 j1z191_ d195_.2 c202_ (show (Int32.toInt i2z191_).toNat - 1 ≤ 9 from by have u := h2z191_; omega) c205_)⟩
      · have b233_ : 0 ≤ Int32.toInt x196_ ∧ Int32.toInt x196_ ≤ 0 := (by have u0 := b198_; have u1 := (zi_eq _ _).mp c202_; have u2 := (show 0 ≤ Int32.toInt 0 ∧ Int32.toInt 0 ≤ 0 from (by decide)); omega)
        refine pw_blk hT 1 (S' := (34, [some (pvR 6), some (pvR q1), some (pvI i2z191_)], [pvI 0], M197_)) rfl ⟨trivial, trivial⟩ ?_
        have b234_ : (-1) ≤ Int32.toInt (M197_.1 6 2) ∧ Int32.toInt (M197_.1 6 2) ≤ 100 := pvok_r o199_ 6 2 rfl
        have b235_ : (-1) ≤ Int32.toInt (M197_.1 6 3) ∧ Int32.toInt (M197_.1 6 3) ≤ 127 := pvok_r o199_ 6 3 rfl
        exact pw_ret hT rfl (r := some (pvI 0)) (M' := M197_) ⟨Or.inl rfl, rfl, rfl⟩ ⟨⟨_, rfl, (zr_wide (show 0 ≤ Int32.toInt 0 ∧ Int32.toInt 0 ≤ 0 from (by decide)) (by decide) (by decide))⟩, o199_, f201_, (zTI_1 j1z191_ d195_.2 c202_)⟩
  have u236_ : Int32.toInt 1 = 1 := by decide
  have b237_ : (-1) ≤ Int32.toInt (M24_.1 6 3) ∧ Int32.toInt (M24_.1 6 3) ≤ 127 := pvok_r o26_ 6 3 rfl
  have j238_ : (Int32.toInt (M24_.1 6 3) ≤ -1 ∨ Int32.toInt (M24_.1 6 2) ≤ 99) := by omega
  have j239_ : zLI q1 (Int32.toNatClampNeg 1 - 1) M M24_ := (zLI_0 hq1 e4_ d7_ e15_ d22_.2)
  exact hlz191_ _ 1 M24_ o26_ f28_ (zr_wide (show 1 ≤ Int32.toInt 1 ∧ Int32.toInt 1 ≤ 1 from (by decide)) (by decide) (by decide)) j238_ j239_ (zhid (Nat.lt_succ_self _))
def fpL_eX1_forget_5 : List (Nat × Nat × Nat) := [(0, 14, 0)]
def fp_eX1_forget_5 (q k : Nat) : Bool := pvfp fpL_eX1_forget_5 q k
set_option maxHeartbeats 4000000 in
set_option maxRecDepth 10000 in
theorem se_X1_forget_5 (M : pvM) (hok : pvOk M) (d : Nat) : PW 108 d (0, [some (pvR 5), none], [], M) (fun r X => r = none ∧ pvOk X ∧ pvFr fp_eX1_forget_5 M X ∧ yFo X) := by
  have hT : pvdom 108 = pvD_108 := rfl
  refine pw_blk hT 2 (S' := (2, [some (pvR 5), some (pvI 0)], [], M)) rfl ⟨trivial, trivial, trivial⟩ ?_
  have hlz39_ : ∀ (nz39_ : Nat) (i1z39_ : Int32) (Mz39_ : pvM), (pvOk Mz39_) → (pvFr fp_eX1_forget_5 M Mz39_) → (0 ≤ Int32.toInt i1z39_ ∧ Int32.toInt i1z39_ ≤ 4) → (yFG Mz39_ i1z39_) → (zhide ((5 - Int32.toInt i1z39_).toNat < nz39_)) → PW 108 d (2, [some (pvR 5), some (pvI i1z39_)], [], Mz39_) (fun r X => r = none ∧ pvOk X ∧ pvFr fp_eX1_forget_5 M X ∧ yFo X) := by
    intro nz39_
    induction nz39_ with
    | zero => intro i1z39_ Mz39_ oz39_ fz39_ h1z39_ j0z39_ hmz39_; exact absurd (zshow hmz39_) (Nat.not_lt_zero _)
    | succ nz39_ ihz39_ =>
      intro i1z39_ Mz39_ oz39_ fz39_ h1z39_ j0z39_ hmz39_
      refine pw_blk hT 2 (S' := (4, [some (pvR 5), some (pvI i1z39_)], [pvI 4, pvI i1z39_], Mz39_)) rfl ⟨trivial, trivial, trivial⟩ ?_
      refine pw_ic hT (c := 4 ≤ i1z39_) rfl rfl (fun c40_ => ?_) (fun c40_ => ?_)
      · have b41_ : 4 ≤ Int32.toInt i1z39_ ∧ Int32.toInt i1z39_ ≤ 4 := zr_le_r 4 c40_ h1z39_ (show 4 ≤ Int32.toInt 4 ∧ Int32.toInt 4 ≤ 4 from (by decide)) (by decide)
        exact pw_ret hT rfl (r := none) (M' := Mz39_) ⟨rfl, rfl⟩ ⟨rfl, oz39_, fz39_, (yFG_e j0z39_ (by omega))⟩
      · have b42_ : 0 ≤ Int32.toInt i1z39_ ∧ Int32.toInt i1z39_ ≤ 3 := zr_nle_r 3 c40_ h1z39_ (show 4 ≤ Int32.toInt 4 ∧ Int32.toInt 4 ≤ 4 from (by decide)) (by decide)
        refine pw_blkw hT 5 (pc := 14) (lo := [some (pvR 5), some (pvI i1z39_)]) (st := []) (M := pvu Mz39_ 14 (Int32.toNatClampNeg i1z39_) (vp_nar .boolean 0)) rfl ⟨trivial, rfl, trivial, trivial, ⟨rfl, (zr_in (n := 4) b42_ (by decide) (by decide))⟩, trivial⟩ (fun M43_ e44_ => ?_)
        have o45_ : pvOk M43_ := pvok_u2 e44_ oz39_ rfl (zboolr 0)
        have f46_ : pvFr fp_eX1_forget_5 M M43_ := pvfr_u e44_ fz39_ rfl
        obtain ⟨q48_, b47_⟩ : (Int32.toInt (i1z39_ + 1) = Int32.toInt i1z39_ + 1) ∧ (1 ≤ Int32.toInt (i1z39_ + 1) ∧ Int32.toInt (i1z39_ + 1) ≤ 4) := zadd_k i1z39_ 1 1 1 4 b42_ (by decide) (by decide) (by decide) (by decide) (by decide)
        refine pw_blk hT 2 (S' := (2, [some (pvR 5), some (pvI (i1z39_ + 1))], [], M43_)) rfl ⟨trivial, trivial, trivial⟩ ?_
        have j49_ : yFG M43_ (i1z39_ + 1) := (yFG_s j0z39_ (by have u := b42_; omega) (by omega) e44_ (by decide))
        exact ihz39_ (i1z39_ + 1) M43_ o45_ f46_ (zr_wide b47_ (by decide) (by decide)) j49_ (zhid (pvms_up (zshow hmz39_) h1z39_ q48_ (by decide) (by decide)))
  have u50_ : Int32.toInt 0 = 0 := by decide
  have j51_ : yFG M 0 := (yFG_0 M)
  exact hlz39_ _ 0 M hok pvfr_0 (zr_wide (show 0 ≤ Int32.toInt 0 ∧ Int32.toInt 0 ≤ 0 from (by decide)) (by decide) (by decide)) j51_ (zhid (Nat.lt_succ_self _))
def fpL_eX9_house_0 : List (Nat × Nat × Nat) := [(0, 0, 2), (0, 14, 0), (0, 6, 2), (0, 6, 3), (0, 6, 4), (0, 6, 5), (0, 8, 9), (1, 109, 0), (1, 110, 0), (1, 111, 0), (1, 2, 1), (1, 2, 2), (1, 2, 3), (1, 2, 6)]
def fp_eX9_house_0 (q k : Nat) : Bool := pvfp fpL_eX9_house_0 q k
theorem fp_eX9_house_0_fp_eX1_forget_5 (a b : Nat) (h : fp_eX1_forget_5 a b = true) : fp_eX9_house_0 a b = true := pvfp_sub (l1 := fpL_eX1_forget_5) (l2 := fpL_eX9_house_0) (by decide) a b h
theorem fp_eX9_house_0_fp_eX5_readInto_6_x (a b : Nat) (h : fp_eX5_readInto_6_x a b = true) : fp_eX9_house_0 a b = true := pvfp_sub (l1 := fpL_eX5_readInto_6_x) (l2 := fpL_eX9_house_0) (by decide) a b h
set_option maxHeartbeats 4000000 in
set_option maxRecDepth 10000 in
theorem se_X9_house_0 (M : pvM) (hok : pvOk M) (d : Nat) (hd : 4 ≤ d) : PW 177 d (0, [some (pvR 0), none, none], [], M) (fun r X => (∃ x : Int32, r = some (pvI x) ∧ (-110) ≤ Int32.toInt x ∧ Int32.toInt x ≤ 5) ∧ pvOk X ∧ pvFr fp_eX9_house_0 M X ∧ zH9 r M X ∧ zJ9 r M X ∧ yWh M X) := by
  have hT : pvdom 177 = pvD_177 := rfl
  have b1_ : 0 ≤ Int32.toInt (M.1 0 1) ∧ Int32.toInt (M.1 0 1) ≤ 6 := pvok_r hok 0 1 rfl
  refine pw_blk hT 3 (S' := (6, [some (pvR 0), none, none], [pvI 6, pvI (M.1 0 1)], M)) rfl ⟨trivial, rfl, trivial, trivial⟩ ?_
  refine pw_ic hT (c := (M.1 0 1) < 6) rfl rfl (fun c2_ => ?_) (fun c2_ => ?_)
  · have b3_ : 0 ≤ Int32.toInt (M.1 0 1) ∧ Int32.toInt (M.1 0 1) ≤ 5 := zr_lt_l 5 c2_ b1_ (show 6 ≤ Int32.toInt 6 ∧ Int32.toInt 6 ≤ 6 from (by decide)) (by decide)
    refine pw_blkr hT 7 (pc := 25) (lo := [some (pvR 0), none, none]) (st := [pvR 6]) (M := M) (z := (pvbs 1 + Int32.toNatClampNeg (M.1 0 1))) rfl ⟨trivial, rfl, trivial, rfl, trivial, rfl, ⟨rfl, (zr_in (n := 6) b3_ (by decide) (by decide))⟩, trivial⟩ (fun q4_ e6_ => ?_)
    have k5_ : pvkl q4_ = 2 := pvel_1 (zr_in (n := 6) b3_ (by decide) (by decide)) e6_
    refine pw_callGd hT (as := [pvR 6, pvR q4_]) (lo1 := [some (pvR 6), some (pvR q4_), none]) (d1 := d) (rest := []) rfl rfl rfl rfl rfl (fun _ => rfl) (Nat.zero_le _) rfl rfl rfl (se_X5_readInto_6_x M hok q4_ k5_ d (Nat.le_trans (by decide) hd)) (fun x8_ M9_ b10_ o11_ g12_ d7_ => ?_)
    have f13_ : pvFr fp_eX9_house_0 M M9_ := pvfr_t g12_ pvfr_0 fp_eX9_house_0_fp_eX5_readInto_6_x
    refine pw_blkw hT 5 (pc := 37) (lo := [some (pvR 0), some (pvI x8_), none]) (st := []) (M := pvu M9_ 6 1 0) rfl ⟨trivial, trivial, rfl, trivial, rfl, trivial⟩ (fun M14_ e15_ => ?_)
    have o16_ : pvOk M14_ := pvok_u2 e15_ o11_ rfl (zr_wide (show 0 ≤ Int32.toInt 0 ∧ Int32.toInt 0 ≤ 0 from (by decide)) (by decide) (by decide))
    have f17_ : pvFr fp_eX9_house_0 M M14_ := pvfr_u e15_ f13_ rfl
    refine pw_blk hT 1 (S' := (38, [some (pvR 0), some (pvI x8_), none], [pvI x8_], M14_)) rfl ⟨trivial, trivial⟩ ?_
    refine pw_ifn hT (c := x8_ = 0) rfl rfl (fun c18_ => ?_) (fun c18_ => ?_)
    · have b19_ : 1 ≤ Int32.toInt x8_ ∧ Int32.toInt x8_ ≤ 1 := (by have u0 := b10_; have u1 := (not_congr (zi_eq _ _)).mp c18_; have u2 := (show 0 ≤ Int32.toInt 0 ∧ Int32.toInt 0 ≤ 0 from (by decide)); omega)
      have e20_ : (M14_.1 0 1) = (M.1 0 1) := ((pvu_n e15_ 0 1 (Or.inl (by decide))).trans (g12_ 0 1 rfl))
      have b21_ : 0 ≤ Int32.toInt (M14_.1 0 1) ∧ Int32.toInt (M14_.1 0 1) ≤ 5 := (by rw [e20_]; exact b3_)
      obtain ⟨q23_, b22_⟩ : (Int32.toInt ((M14_.1 0 1) + 1) = Int32.toInt (M14_.1 0 1) + 1) ∧ (1 ≤ Int32.toInt ((M14_.1 0 1) + 1) ∧ Int32.toInt ((M14_.1 0 1) + 1) ≤ 6) := zadd_k (M14_.1 0 1) 1 1 1 6 b21_ (by decide) (by decide) (by decide) (by decide) (by decide)
      refine pw_blkw hT 7 (pc := 63) (lo := [some (pvR 0), some (pvI x8_), none]) (st := [pvI (M14_.1 0 1)]) (M := pvu M14_ 0 1 ((M14_.1 0 1) + 1)) rfl ⟨trivial, trivial, rfl, trivial, trivial, trivial, rfl, trivial⟩ (fun M24_ e25_ => ?_)
      have o26_ : pvOk M24_ := pvok_u2 e25_ o16_ rfl (zr_wide b22_ (by decide) (by decide))
      have f27_ : pvFr fp_eX9_house_0 M M24_ := pvfr_u e25_ f17_ rfl
      refine pw_blkr hT 7 (pc := 74) (lo := [some (pvR 0), some (pvI x8_), some (pvI (M14_.1 0 1))]) (st := [pvR 8]) (M := M24_) (z := (pvbs 1 + Int32.toNatClampNeg (M14_.1 0 1))) rfl ⟨trivial, trivial, rfl, trivial, rfl, trivial, ⟨rfl, (zr_in (n := 6) b21_ (by decide) (by decide))⟩, trivial⟩ (fun q28_ e30_ => ?_)
      have k29_ : pvkl q28_ = 2 := pvel_1 (zr_in (n := 6) b21_ (by decide) (by decide)) e30_
      refine pw_blkw hT 1 (pc := 77) (lo := [some (pvR 0), some (pvI x8_), some (pvI (M14_.1 0 1))]) (st := []) (M := pvu M24_ 8 8 (nI q28_)) rfl ⟨⟨rfl, k29_⟩, trivial⟩ (fun M31_ e32_ => ?_)
      have o33_ : pvOk M31_ := pvok_u2 e32_ o26_ rfl (pvhp_r k29_)
      have f34_ : pvFr fp_eX9_house_0 M M31_ := pvfr_u e32_ f27_ rfl
      refine pw_blk hT 2 (S' := (81, [some (pvR 0), some (pvI x8_), some (pvI (M14_.1 0 1))], [pvR 5], M31_)) rfl ⟨trivial, rfl, trivial⟩ ?_
      refine pw_callVd hT (as := [pvR 5]) (lo1 := [some (pvR 5), none]) (d1 := d) (rest := []) rfl rfl rfl rfl rfl (fun _ => rfl) (Nat.zero_le _) rfl rfl rfl (se_X1_forget_5 M31_ o33_ d) (fun M37_ o39_ g40_ d35_ => ?_)
      have f41_ : pvFr fp_eX9_house_0 M M37_ := pvfr_t g40_ f34_ fp_eX9_house_0_fp_eX1_forget_5
      refine pw_blk hT 1 (S' := (85, [some (pvR 0), some (pvI x8_), some (pvI (M14_.1 0 1))], [pvI (M14_.1 0 1)], M37_)) rfl ⟨trivial, trivial⟩ ?_
      exact pw_ret hT rfl (r := some (pvI (M14_.1 0 1))) (M' := M37_) ⟨rfl, rfl⟩ ⟨⟨_, rfl, (zr_wide b21_ (by decide) (by decide))⟩, o39_, f41_, (zH9_y (L := fpL_eX1_forget_5) hok (by have u := b3_; omega) e6_ d7_ (g12_ 0 1 rfl) e15_ c18_ rfl e25_ e30_ e32_ g40_ rfl rfl rfl (by decide)), ⟨(zH9_y (L := fpL_eX1_forget_5) hok (by have u := b3_; omega) e6_ d7_ (g12_ 0 1 rfl) e15_ c18_ rfl e25_ e30_ e32_ g40_ rfl rfl rfl (by decide)), (((((g40_ 9 8 rfl).trans (pvu_n e32_ 9 8 (Or.inl (by decide)))).trans (pvu_n e25_ 9 8 (Or.inl (by decide)))).trans (pvu_n e15_ 9 8 (Or.inl (by decide)))).trans (g12_ 9 8 rfl))⟩, (Or.inl d35_)⟩
    · have b42_ : 0 ≤ Int32.toInt x8_ ∧ Int32.toInt x8_ ≤ 0 := (by have u0 := b10_; have u1 := (zi_eq _ _).mp c18_; have u2 := (show 0 ≤ Int32.toInt 0 ∧ Int32.toInt 0 ≤ 0 from (by decide)); omega)
      have b43_ : (-1) ≤ Int32.toInt (M14_.1 6 2) ∧ Int32.toInt (M14_.1 6 2) ≤ 100 := pvok_r o16_ 6 2 rfl
      obtain ⟨q45_, b44_⟩ : (Int32.toInt ((-10) - (M14_.1 6 2)) = (-10) - Int32.toInt (M14_.1 6 2)) ∧ ((-110) ≤ Int32.toInt ((-10) - (M14_.1 6 2)) ∧ Int32.toInt ((-10) - (M14_.1 6 2)) ≤ (-9)) := zsub_q (-10) (M14_.1 6 2) (-10) (-110) (-9) b43_ (by decide) (by decide) (by decide) (by decide) (by decide)
      refine pw_blk hT 5 (S' := (51, [some (pvR 0), some (pvI x8_), none], [pvI ((-10) - (M14_.1 6 2))], M14_)) rfl ⟨trivial, trivial, rfl, rfl, trivial, trivial⟩ ?_
      exact pw_ret hT rfl (r := some (pvI ((-10) - (M14_.1 6 2)))) (M' := M14_) ⟨rfl, rfl⟩ ⟨⟨_, rfl, (zr_wide b44_ (by decide) (by decide))⟩, o16_, f17_, (zH9_n hok (by have u := b3_; omega) e6_ d7_ (g12_ 0 1 rfl) (g12_ 8 8 rfl) e15_ c18_ rfl), ⟨(zH9_n hok (by have u := b3_; omega) e6_ d7_ (g12_ 0 1 rfl) (g12_ 8 8 rfl) e15_ c18_ rfl), ((pvu_n e15_ 9 8 (Or.inl (by decide))).trans (g12_ 9 8 rfl))⟩, (yWh_n (L := fpL_eX5_readInto_6_x) g12_ e15_ (zH9_n hok (by have u := b3_; omega) e6_ d7_ (g12_ 0 1 rfl) (g12_ 8 8 rfl) e15_ c18_ rfl) (by have u := b3_; omega) (g12_ 8 8 rfl) (by decide +kernel))⟩
  · have b46_ : 6 ≤ Int32.toInt (M.1 0 1) ∧ Int32.toInt (M.1 0 1) ≤ 6 := zr_nlt_l 6 c2_ b1_ (show 6 ≤ Int32.toInt 6 ∧ Int32.toInt 6 ≤ 6 from (by decide)) (by decide)
    refine pw_blk hT 1 (S' := (11, [some (pvR 0), none, none], [pvI (-4)], M)) rfl ⟨trivial, trivial⟩ ?_
    exact pw_ret hT rfl (r := some (pvI (-4))) (M' := M) ⟨rfl, rfl⟩ ⟨⟨_, rfl, (zr_wide (show (-4) ≤ Int32.toInt (-4) ∧ Int32.toInt (-4) ≤ (-4) from (by decide)) (by decide) (by decide))⟩, hok, pvfr_0, (Or.inl ⟨(by have u := b46_; omega), rfl, rfl⟩), ⟨(Or.inl ⟨(by have u := b46_; omega), rfl, rfl⟩), rfl⟩, (yWh_r M)⟩
def fpL_eX6_clear_101 : List (Nat × Nat × Nat) := [(0, 101, 1)]
def fp_eX6_clear_101 (q k : Nat) : Bool := pvfp fpL_eX6_clear_101 q k
set_option maxHeartbeats 4000000 in
set_option maxRecDepth 10000 in
theorem se_X6_clear_101 (M : pvM) (hok : pvOk M) (d : Nat) : PW 153 d (0, [some (pvR 101)], [], M) (fun r X => (∃ x : Int32, r = some (pvI x) ∧ (0 ≤ Int32.toInt x ∧ Int32.toInt x ≤ 0) ∧ x = 0) ∧ pvOk X ∧ pvFr fp_eX6_clear_101 M X ∧ X.1 101 0 = 0) := by
  have hT : pvdom 153 = pvD_153 := rfl
  refine pw_blkw hT 3 (pc := 5) (lo := [some (pvR 101)]) (st := []) (M := pvu M 101 0 0) rfl ⟨trivial, trivial, rfl, trivial⟩ (fun M1_ e2_ => ?_)
  have o3_ : pvOk M1_ := pvok_u2 e2_ hok rfl (zr_wide (show 0 ≤ Int32.toInt 0 ∧ Int32.toInt 0 ≤ 0 from (by decide)) (by decide) (by decide))
  have f4_ : pvFr fp_eX6_clear_101 M M1_ := pvfr_u e2_ pvfr_0 rfl
  refine pw_blk hT 1 (S' := (6, [some (pvR 101)], [pvI 0], M1_)) rfl ⟨trivial, trivial⟩ ?_
  exact pw_ret hT rfl (r := some (pvI 0)) (M' := M1_) ⟨rfl, rfl⟩ ⟨⟨_, rfl, (show 0 ≤ Int32.toInt 0 ∧ Int32.toInt 0 ≤ 0 from (by decide)), rfl⟩, o3_, f4_, (pvu_s e2_)⟩
def fpL_eX6_append_101_x_x : List (Nat × Nat × Nat) := [(0, 101, 1), (0, 109, 0), (0, 117, 0)]
def fp_eX6_append_101_x_x (q k : Nat) : Bool := pvfp fpL_eX6_append_101_x_x q k
set_option maxHeartbeats 4000000 in
set_option maxRecDepth 10000 in
theorem se_X6_append_101_x_x (M : pvM) (hok : pvOk M) (n1 : Int32) (n2 : Int32) (hn1 : 0 ≤ Int32.toInt n1 ∧ Int32.toInt n1 ≤ 6) (hn2 : 0 ≤ Int32.toInt n2 ∧ Int32.toInt n2 ≤ 9999) (d : Nat) : PW 151 d (0, [some (pvR 101), some (pvI n1), some (pvI n2)], [], M) (fun r X => (∃ x : Int32, r = some (pvI x) ∧ (1 ≤ Int32.toInt x ∧ Int32.toInt x ≤ 7) ∧ x = (if (M.1 101 0) < (Int32.ofNat 7) then ((M.1 101 0) + 1) else (M.1 101 0))) ∧ pvOk X ∧ pvFr fp_eX6_append_101_x_x M X ∧ zAp 101 109 117 7 n1 n2 M X ∧ X.1 101 0 = (if (M.1 101 0) < (Int32.ofNat 7) then ((M.1 101 0) + 1) else (M.1 101 0))) := by
  have hT : pvdom 151 = pvD_151 := rfl
  refine pw_blk hT 1 (S' := (1, [some (pvR 101), some (pvI n1), some (pvI n2)], [pvR 101], M)) rfl ⟨trivial, trivial⟩ ?_
  refine pw_callT hT (as := [pvR 101]) (lo1 := [some (pvR 101)]) (d1 := d) (rest := []) rfl rfl rfl rfl rfl (fun _ => rfl) (Nat.zero_le _) rfl rfl rfl (sf_X6_isFull_101 M hok d) ?_
  have b6_ : 0 ≤ Int32.toInt (M.1 101 0) ∧ Int32.toInt (M.1 101 0) ≤ 7 := pvok_r hok 101 0 rfl
  by_cases c7_ : (M.1 101 0) < (Int32.ofNat 7)
  · refine pw_eqI (if_pos c7_) ?_
    have b8_ : 0 ≤ Int32.toInt (M.1 101 0) ∧ Int32.toInt (M.1 101 0) ≤ 6 := zr_lt_l 6 c7_ b6_ (show 7 ≤ Int32.toInt (Int32.ofNat 7) ∧ Int32.toInt (Int32.ofNat 7) ≤ 7 from (by decide)) (by decide)
    show PW 151 d (4, [some (pvR 101), some (pvI n1), some (pvI n2)], [pvI 0], M) _
    refine pw_if hT (c := 0 = 0) rfl rfl (fun c9_ => ?_) (fun c9_ => absurd (by decide) c9_)
    refine pw_blkw hT 6 (pc := 22) (lo := [some (pvR 101), some (pvI n1), some (pvI n2)]) (st := []) (M := pvu M 109 (Int32.toNatClampNeg (M.1 101 0)) n1) rfl ⟨trivial, rfl, trivial, rfl, trivial, ⟨rfl, (zr_in (n := 7) b8_ (by decide) (by decide))⟩, trivial⟩ (fun M10_ e11_ => ?_)
    have o12_ : pvOk M10_ := pvok_u2 e11_ hok rfl hn1
    have f13_ : pvFr fp_eX6_append_101_x_x M M10_ := pvfr_u e11_ pvfr_0 rfl
    have e14_ : (M10_.1 101 0) = (M.1 101 0) := (pvu_n e11_ 101 0 (Or.inl (by decide)))
    have b15_ : 0 ≤ Int32.toInt (M10_.1 101 0) ∧ Int32.toInt (M10_.1 101 0) ≤ 6 := (by rw [e14_]; exact b8_)
    refine pw_blkw hT 6 (pc := 32) (lo := [some (pvR 101), some (pvI n1), some (pvI n2)]) (st := []) (M := pvu M10_ 117 (Int32.toNatClampNeg (M10_.1 101 0)) n2) rfl ⟨trivial, rfl, trivial, rfl, trivial, ⟨rfl, (zr_in (n := 7) b15_ (by decide) (by decide))⟩, trivial⟩ (fun M16_ e17_ => ?_)
    have o18_ : pvOk M16_ := pvok_u2 e17_ o12_ rfl hn2
    have f19_ : pvFr fp_eX6_append_101_x_x M M16_ := pvfr_u e17_ f13_ rfl
    have e20_ : (M16_.1 101 0) = (M10_.1 101 0) := (pvu_n e17_ 101 0 (Or.inl (by decide)))
    have b21_ : 0 ≤ Int32.toInt (M16_.1 101 0) ∧ Int32.toInt (M16_.1 101 0) ≤ 6 := (by rw [e20_]; exact b15_)
    obtain ⟨q23_, b22_⟩ : (Int32.toInt ((M16_.1 101 0) + 1) = Int32.toInt (M16_.1 101 0) + 1) ∧ (1 ≤ Int32.toInt ((M16_.1 101 0) + 1) ∧ Int32.toInt ((M16_.1 101 0) + 1) ≤ 7) := zadd_k (M16_.1 101 0) 1 1 1 7 b21_ (by decide) (by decide) (by decide) (by decide) (by decide)
    refine pw_blkw hT 6 (pc := 42) (lo := [some (pvR 101), some (pvI n1), some (pvI n2)]) (st := []) (M := pvu M16_ 101 0 ((M16_.1 101 0) + 1)) rfl ⟨trivial, trivial, rfl, trivial, trivial, rfl, trivial⟩ (fun M24_ e25_ => ?_)
    have o26_ : pvOk M24_ := pvok_u2 e25_ o18_ rfl (zr_wide b22_ (by decide) (by decide))
    have f27_ : pvFr fp_eX6_append_101_x_x M M24_ := pvfr_u e25_ f19_ rfl
    have e28_ : (M24_.1 101 0) = ((M16_.1 101 0) + 1) := (pvu_s e25_)
    have b29_ : 1 ≤ Int32.toInt (M24_.1 101 0) ∧ Int32.toInt (M24_.1 101 0) ≤ 7 := (by rw [e28_]; exact b22_)
    refine pw_blk hT 2 (S' := (46, [some (pvR 101), some (pvI n1), some (pvI n2)], [pvI (M24_.1 101 0)], M24_)) rfl ⟨trivial, rfl, trivial⟩ ?_
    exact pw_ret hT rfl (r := some (pvI (M24_.1 101 0))) (M' := M24_) ⟨rfl, rfl⟩ ⟨⟨_, rfl, b29_, (by rw [if_pos c7_]; first | done | exact (show (M24_.1 101 0) = ((M.1 101 0) + 1) from by rw [((pvu_s e25_).trans (show ((M16_.1 101 0) + 1) = ((M.1 101 0) + 1) from by rw [((pvu_n e17_ 101 0 (Or.inl (by decide))).trans (pvu_n e11_ 101 0 (Or.inl (by decide))))]))]) | (rw [if_pos c7_]; exact (show (M24_.1 101 0) = ((M.1 101 0) + 1) from by rw [((pvu_s e25_).trans (show ((M16_.1 101 0) + 1) = ((M.1 101 0) + 1) from by rw [((pvu_n e17_ 101 0 (Or.inl (by decide))).trans (pvu_n e11_ 101 0 (Or.inl (by decide))))]))])))⟩, o26_, f27_, (zAp_y (by decide) (by decide) (by decide) (by have u := b8_; omega) e11_ e17_ e25_), (by rw [if_pos c7_]; first | done | exact ((pvu_s e25_).trans (show ((M16_.1 101 0) + 1) = ((M.1 101 0) + 1) from by rw [((pvu_n e17_ 101 0 (Or.inl (by decide))).trans (pvu_n e11_ 101 0 (Or.inl (by decide))))])) | (rw [if_pos c7_]; done) | (rw [if_pos c7_]; exact ((pvu_s e25_).trans (show ((M16_.1 101 0) + 1) = ((M.1 101 0) + 1) from by rw [((pvu_n e17_ 101 0 (Or.inl (by decide))).trans (pvu_n e11_ 101 0 (Or.inl (by decide))))]))))⟩
  · refine pw_eqI (if_neg c7_) ?_
    have b30_ : 7 ≤ Int32.toInt (M.1 101 0) ∧ Int32.toInt (M.1 101 0) ≤ 7 := zr_nlt_l 7 c7_ b6_ (show 7 ≤ Int32.toInt (Int32.ofNat 7) ∧ Int32.toInt (Int32.ofNat 7) ≤ 7 from (by decide)) (by decide)
    show PW 151 d (4, [some (pvR 101), some (pvI n1), some (pvI n2)], [pvI 1], M) _
    refine pw_if hT (c := 1 = 0) rfl rfl (fun c31_ => absurd c31_ (by decide)) (fun c31_ => ?_)
    refine pw_blk hT 2 (S' := (11, [some (pvR 101), some (pvI n1), some (pvI n2)], [pvI (M.1 101 0)], M)) rfl ⟨trivial, rfl, trivial⟩ ?_
    exact pw_ret hT rfl (r := some (pvI (M.1 101 0))) (M' := M) ⟨rfl, rfl⟩ ⟨⟨_, rfl, (zr_wide b30_ (by decide) (by decide)), (by rw [if_neg c7_]; first | done | (rw [if_neg c7_]; done))⟩, hok, pvfr_0, (zAp_n (by have u := b30_; omega)), (by rw [if_neg c7_]; first | done | exact rfl | (rw [if_neg c7_]; done) | (rw [if_neg c7_]; exact rfl))⟩
