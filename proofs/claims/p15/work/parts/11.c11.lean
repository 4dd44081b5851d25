def fpL_X5_readAll_6_2 : List (Nat × Nat × Nat) := [(0, 6, 3), (0, 6, 4), (1, 111, 0), (1, 2, 6)]
def fp_X5_readAll_6_2 (q k : Nat) : Bool := pvfp fpL_X5_readAll_6_2 q k
theorem fp_X5_readAll_6_2_fp_X2_addStep_x_x (a b : Nat) (h : fp_X2_addStep_x_x a b = true) : fp_X5_readAll_6_2 a b = true := pvfp_sub (l1 := fpL_X2_addStep_x_x) (l2 := fpL_X5_readAll_6_2) (by decide) a b h
theorem fp_X5_readAll_6_2_fp_X5_readOne_6_2 (a b : Nat) (h : fp_X5_readOne_6_2 a b = true) : fp_X5_readAll_6_2 a b = true := pvfp_sub (l1 := fpL_X5_readOne_6_2) (l2 := fpL_X5_readAll_6_2) (by decide) a b h
theorem fp_X5_readAll_6_2_fp_X5_readSign_6_x (a b : Nat) (h : fp_X5_readSign_6_x a b = true) : fp_X5_readAll_6_2 a b = true := pvfp_sub (l1 := fpL_X5_readSign_6_x) (l2 := fpL_X5_readAll_6_2) (by decide) a b h
set_option maxHeartbeats 4000000 in
set_option maxRecDepth 10000 in
theorem sf_X5_readAll_6_2 (M : pvM) (hok : pvOk M) (hx0 : (Int32.toInt (M.1 6 3) ≤ -1 ∨ Int32.toInt (M.1 6 2) ≤ 99)) (d : Nat) (hd : 2 ≤ d) : PW 140 d (0, [some (pvR 6), some (pvI 2), none], [], M) (fun r X => (∃ x : Int32, r = some (pvI x) ∧ 0 ≤ Int32.toInt x ∧ Int32.toInt x ≤ 1) ∧ pvOk X ∧ pvFr fp_X5_readAll_6_2 M X ∧ (Int32.toInt (X.1 6 3) ≤ -1 ∨ Int32.toInt (X.1 6 2) ≤ 99)) := by
  have hT : pvdom 140 = pvD_140 := rfl
  have b1_ : (-1) ≤ Int32.toInt (M.1 6 2) ∧ Int32.toInt (M.1 6 2) ≤ 100 := pvok_r hok 6 2 rfl
  have b2_ : (-1) ≤ Int32.toInt (M.1 6 3) ∧ Int32.toInt (M.1 6 3) ≤ 127 := pvok_r hok 6 3 rfl
  refine pw_blk hT 2 (S' := (2, [some (pvR 6), some (pvI 2), some (pvI 0)], [], M)) rfl ⟨trivial, trivial, trivial⟩ ?_
  have hlz215_ : ∀ (nz215_ : Nat) (i2z215_ : Int32) (Mz215_ : pvM), (pvOk Mz215_) → (pvFr fp_X5_readAll_6_2 M Mz215_) → (0 ≤ Int32.toInt i2z215_ ∧ Int32.toInt i2z215_ ≤ 100) → ((Int32.toInt (Mz215_.1 6 3) ≤ -1 ∨ Int32.toInt (Mz215_.1 6 2) ≤ 99)) → (zhide ((101 - Int32.toInt i2z215_).toNat < nz215_)) → PW 140 d (2, [some (pvR 6), some (pvI 2), some (pvI i2z215_)], [], Mz215_) (fun r X => (∃ x : Int32, r = some (pvI x) ∧ 0 ≤ Int32.toInt x ∧ Int32.toInt x ≤ 1) ∧ pvOk X ∧ pvFr fp_X5_readAll_6_2 M X ∧ (Int32.toInt (X.1 6 3) ≤ -1 ∨ Int32.toInt (X.1 6 2) ≤ 99)) := by
    intro nz215_
    induction nz215_ with
    | zero => intro i2z215_ Mz215_ oz215_ fz215_ h2z215_ j0z215_ hmz215_; exact absurd (zshow hmz215_) (Nat.not_lt_zero _)
    | succ nz215_ ihz215_ =>
      intro i2z215_ Mz215_ oz215_ fz215_ h2z215_ j0z215_ hmz215_
      have b216_ : (-1) ≤ Int32.toInt (Mz215_.1 6 2) ∧ Int32.toInt (Mz215_.1 6 2) ≤ 100 := pvok_r oz215_ 6 2 rfl
      have b217_ : (-1) ≤ Int32.toInt (Mz215_.1 6 3) ∧ Int32.toInt (Mz215_.1 6 3) ≤ 127 := pvok_r oz215_ 6 3 rfl
      refine pw_blk hT 2 (S' := (5, [some (pvR 6), some (pvI 2), some (pvI i2z215_)], [pvI 100, pvI i2z215_], Mz215_)) rfl ⟨trivial, trivial, trivial⟩ ?_
      refine pw_ic hT (c := 100 ≤ i2z215_) rfl rfl (fun c218_ => ?_) (fun c218_ => ?_)
      · have b219_ : 100 ≤ Int32.toInt i2z215_ ∧ Int32.toInt i2z215_ ≤ 100 := zr_le_r 100 c218_ h2z215_ (show 100 ≤ Int32.toInt 100 ∧ Int32.toInt 100 ≤ 100 from (by decide)) (by decide)
        refine pw_blk hT 1 (S' := (49, [some (pvR 6), some (pvI 2), some (pvI i2z215_)], [pvI 0], Mz215_)) rfl ⟨trivial, trivial⟩ ?_
        exact pw_ret hT rfl (r := some (pvI 0)) (M' := Mz215_) ⟨Or.inl rfl, rfl, rfl⟩ ⟨⟨_, rfl, (zr_wide (show 0 ≤ Int32.toInt 0 ∧ Int32.toInt 0 ≤ 0 from (by decide)) (by decide) (by decide))⟩, oz215_, fz215_, (by omega)⟩
      · have b220_ : 0 ≤ Int32.toInt i2z215_ ∧ Int32.toInt i2z215_ ≤ 99 := zr_nle_r 99 c218_ h2z215_ (show 100 ≤ Int32.toInt 100 ∧ Int32.toInt 100 ≤ 100 from (by decide)) (by decide)
        refine pw_blk hT 2 (S' := (10, [some (pvR 6), some (pvI 2), some (pvI i2z215_)], [pvI 2, pvR 6], Mz215_)) rfl ⟨trivial, trivial, trivial⟩ ?_
        have u221_ : Int32.toInt 2 = 2 := by decide
        refine pw_callGd hT (as := [pvR 6, pvI 2]) (lo1 := [some (pvR 6), some (pvI 2), none, none]) (d1 := d) (rest := []) rfl rfl rfl rfl rfl (fun _ => rfl) (Nat.zero_le _) rfl rfl rfl (sf_X5_readOne_6_2 Mz215_ oz215_ (show (Int32.toInt (Mz215_.1 6 3) ≤ -1 ∨ Int32.toInt (Mz215_.1 6 2) ≤ 99) from (by omega)) d (Nat.le_trans (by decide) hd)) (fun x223_ M224_ b225_ o226_ g227_ d222_ => ?_)
        have f228_ : pvFr fp_X5_readAll_6_2 M M224_ := pvfr_t g227_ fz215_ fp_X5_readAll_6_2_fp_X5_readOne_6_2
        refine pw_ifn hT (c := x223_ = 0) rfl rfl (fun c229_ => ?_) (fun c229_ => ?_)
        · have b230_ : 1 ≤ Int32.toInt x223_ ∧ Int32.toInt x223_ ≤ 1 := (by have u0 := b225_; have u1 := (not_congr (zi_eq _ _)).mp c229_; have u2 := (show 0 ≤ Int32.toInt 0 ∧ Int32.toInt 0 ≤ 0 from (by decide)); omega)
          refine pw_blk hT 1 (S' := (19, [some (pvR 6), some (pvI 2), some (pvI i2z215_)], [pvI i2z215_], M224_)) rfl ⟨trivial, trivial⟩ ?_
          refine pw_if hT (c := i2z215_ ≤ 0) rfl rfl (fun c231_ => ?_) (fun c231_ => ?_)
          · have b232_ : 0 ≤ Int32.toInt i2z215_ ∧ Int32.toInt i2z215_ ≤ 0 := zr_le_l 0 c231_ b220_ (show 0 ≤ Int32.toInt 0 ∧ Int32.toInt 0 ≤ 0 from (by decide)) (by decide)
            refine pw_blk hT 2 (S' := (34, [some (pvR 6), some (pvI 2), some (pvI i2z215_)], [pvI 38, pvR 6], M224_)) rfl ⟨trivial, trivial, trivial⟩ ?_
            have u233_ : Int32.toInt 38 = 38 := by decide
            have b234_ : (-1) ≤ Int32.toInt (M224_.1 6 2) ∧ Int32.toInt (M224_.1 6 2) ≤ 100 := pvok_r o226_ 6 2 rfl
            have b235_ : (-1) ≤ Int32.toInt (M224_.1 6 3) ∧ Int32.toInt (M224_.1 6 3) ≤ 127 := pvok_r o226_ 6 3 rfl
            refine pw_callGd hT (as := [pvR 6, pvI 38]) (lo1 := [some (pvR 6), some (pvI 38)]) (d1 := d) (rest := []) rfl rfl rfl rfl rfl (fun _ => rfl) (Nat.zero_le _) rfl rfl rfl (sf_X5_readSign_6_x M224_ o226_ 38 (zr_wide (show 38 ≤ Int32.toInt 38 ∧ Int32.toInt 38 ≤ 38 from (by decide)) (by decide) (by decide)) (show (Int32.toInt (M224_.1 6 3) ≤ -1 ∨ Int32.toInt (M224_.1 6 2) ≤ 99) from (by omega)) d) (fun x237_ M238_ b239_ o240_ g241_ d236_ => ?_)
            have f242_ : pvFr fp_X5_readAll_6_2 M M238_ := pvfr_t g241_ f228_ fp_X5_readAll_6_2_fp_X5_readSign_6_x
            refine pw_ifn hT (c := x237_ = 0) rfl rfl (fun c243_ => ?_) (fun c243_ => ?_)
            · have b244_ : 1 ≤ Int32.toInt x237_ ∧ Int32.toInt x237_ ≤ 1 := (by have u0 := b239_; have u1 := (not_congr (zi_eq _ _)).mp c243_; have u2 := (show 0 ≤ Int32.toInt 0 ∧ Int32.toInt 0 ≤ 0 from (by decide)); omega)
              obtain ⟨q246_, b245_⟩ : (Int32.toInt (i2z215_ + 1) = Int32.toInt i2z215_ + 1) ∧ (1 ≤ Int32.toInt (i2z215_ + 1) ∧ Int32.toInt (i2z215_ + 1) ≤ 1) := zadd_k i2z215_ 1 1 1 1 b232_ (by decide) (by decide) (by decide) (by decide) (by decide)
              refine pw_blk hT 2 (S' := (2, [some (pvR 6), some (pvI 2), some (pvI (i2z215_ + 1))], [], M238_)) rfl ⟨trivial, trivial, trivial⟩ ?_
              have b247_ : (-1) ≤ Int32.toInt (M238_.1 6 2) ∧ Int32.toInt (M238_.1 6 2) ≤ 100 := pvok_r o240_ 6 2 rfl
              have b248_ : (-1) ≤ Int32.toInt (M238_.1 6 3) ∧ Int32.toInt (M238_.1 6 3) ≤ 127 := pvok_r o240_ 6 3 rfl
              have j249_ : (Int32.toInt (M238_.1 6 3) ≤ -1 ∨ Int32.toInt (M238_.1 6 2) ≤ 99) := by omega
              exact ihz215_ (i2z215_ + 1) M238_ o240_ f242_ (zr_wide b245_ (by decide) (by decide)) j249_ (zhid (pvms_up (zshow hmz215_) h2z215_ q246_ (by decide) (by decide)))
            · have b250_ : 0 ≤ Int32.toInt x237_ ∧ Int32.toInt x237_ ≤ 0 := (by have u0 := b239_; have u1 := (zi_eq _ _).mp c243_; have u2 := (show 0 ≤ Int32.toInt 0 ∧ Int32.toInt 0 ≤ 0 from (by decide)); omega)
              refine pw_blk hT 1 (S' := (41, [some (pvR 6), some (pvI 2), some (pvI i2z215_)], [pvI 1], M238_)) rfl ⟨trivial, trivial⟩ ?_
              have b251_ : (-1) ≤ Int32.toInt (M238_.1 6 2) ∧ Int32.toInt (M238_.1 6 2) ≤ 100 := pvok_r o240_ 6 2 rfl
              have b252_ : (-1) ≤ Int32.toInt (M238_.1 6 3) ∧ Int32.toInt (M238_.1 6 3) ≤ 127 := pvok_r o240_ 6 3 rfl
              exact pw_ret hT rfl (r := some (pvI 1)) (M' := M238_) ⟨Or.inr rfl, rfl, rfl⟩ ⟨⟨_, rfl, (zr_wide (show 1 ≤ Int32.toInt 1 ∧ Int32.toInt 1 ≤ 1 from (by decide)) (by decide) (by decide))⟩, o240_, f242_, (by omega)⟩
          · have b253_ : 1 ≤ Int32.toInt i2z215_ ∧ Int32.toInt i2z215_ ≤ 99 := zr_nle_l 1 c231_ b220_ (show 0 ≤ Int32.toInt 0 ∧ Int32.toInt 0 ≤ 0 from (by decide)) (by decide)
            have b254_ : 15 ≤ Int32.toInt (M224_.1 6 4) ∧ Int32.toInt (M224_.1 6 4) ≤ 23 := pvok_r o226_ 6 4 rfl
            refine pw_blkr hT 2 (pc := 26) (lo := [some (pvR 6), some (pvI 2), some (pvI i2z215_)]) (st := []) (M := M224_) (z := (pvhp (M224_.1 6 4))) rfl ⟨trivial, rfl, trivial⟩ (fun q255_ e257_ => ?_)
            have k256_ : pvkl q255_ = 2 := pvhp_k b254_ e257_
            refine pw_blk hT 1 (S' := (28, [some (pvR 6), some (pvI 2), some (pvI i2z215_)], [pvI (-2), pvR q255_], M224_)) rfl ⟨trivial, trivial⟩ ?_
            refine pw_callV hT (as := [pvR q255_, pvI (-2)]) (lo1 := [some (pvR q255_), some (pvI (-2))]) (d1 := d) (rest := []) rfl rfl rfl rfl rfl (fun _ => k256_) (Nat.zero_le _) rfl rfl rfl (sf_X2_addStep_x_x M224_ o226_ q255_ (-2) k256_ (zr_wide (show (-2) ≤ Int32.toInt (-2) ∧ Int32.toInt (-2) ≤ (-2) from (by decide)) (by decide) (by decide)) d) (fun M259_ o261_ g262_ => ?_)
            have f263_ : pvFr fp_X5_readAll_6_2 M M259_ := pvfr_t g262_ f228_ fp_X5_readAll_6_2_fp_X2_addStep_x_x
            refine pw_blk hT 2 (S' := (34, [some (pvR 6), some (pvI 2), some (pvI i2z215_)], [pvI 38, pvR 6], M259_)) rfl ⟨trivial, trivial, trivial⟩ ?_
            have u264_ : Int32.toInt 38 = 38 := by decide
            have e265_ : (M259_.1 6 2) = (M224_.1 6 2) := (g262_ 6 2 rfl)
            have b266_ : (-1) ≤ Int32.toInt (M259_.1 6 2) ∧ Int32.toInt (M259_.1 6 2) ≤ 100 := pvok_r o261_ 6 2 rfl
            have d267_ : Int32.toInt (M259_.1 6 2) = Int32.toInt (M224_.1 6 2) := congrArg Int32.toInt e265_
            have e268_ : (M259_.1 6 3) = (M224_.1 6 3) := (g262_ 6 3 rfl)
            have b269_ : (-1) ≤ Int32.toInt (M259_.1 6 3) ∧ Int32.toInt (M259_.1 6 3) ≤ 127 := pvok_r o261_ 6 3 rfl
            have d270_ : Int32.toInt (M259_.1 6 3) = Int32.toInt (M224_.1 6 3) := congrArg Int32.toInt e268_
            refine pw_callGd hT (as := [pvR 6, pvI 38]) (lo1 := [some (pvR 6), some (pvI 38)]) (d1 := d) (rest := []) rfl rfl rfl rfl rfl (fun _ => rfl) (Nat.zero_le _) rfl rfl rfl (sf_X5_readSign_6_x M259_ o261_ 38 (zr_wide (show 38 ≤ Int32.toInt 38 ∧ Int32.toInt 38 ≤ 38 from (by decide)) (by decide) (by decide)) (show (Int32.toInt (M259_.1 6 3) ≤ -1 ∨ Int32.toInt (M259_.1 6 2) ≤ 99) from (by omega)) d) (fun x272_ M273_ b274_ o275_ g276_ d271_ => ?_)
            have f277_ : pvFr fp_X5_readAll_6_2 M M273_ := pvfr_t g276_ f263_ fp_X5_readAll_6_2_fp_X5_readSign_6_x
            refine pw_ifn hT (c := x272_ = 0) rfl rfl (fun c278_ => ?_) (fun c278_ => ?_)
            · have b279_ : 1 ≤ Int32.toInt x272_ ∧ Int32.toInt x272_ ≤ 1 := (by have u0 := b274_; have u1 := (not_congr (zi_eq _ _)).mp c278_; have u2 := (show 0 ≤ Int32.toInt 0 ∧ Int32.toInt 0 ≤ 0 from (by decide)); omega)
              obtain ⟨q281_, b280_⟩ : (Int32.toInt (i2z215_ + 1) = Int32.toInt i2z215_ + 1) ∧ (2 ≤ Int32.toInt (i2z215_ + 1) ∧ Int32.toInt (i2z215_ + 1) ≤ 100) := zadd_k i2z215_ 1 1 2 100 b253_ (by decide) (by decide) (by decide) (by decide) (by decide)
              refine pw_blk hT 2 (S' := (2, [some (pvR 6), some (pvI 2), some (pvI (i2z215_ + 1))], [], M273_)) rfl ⟨trivial, trivial, trivial⟩ ?_
              have b282_ : (-1) ≤ Int32.toInt (M273_.1 6 2) ∧ Int32.toInt (M273_.1 6 2) ≤ 100 := pvok_r o275_ 6 2 rfl
              have b283_ : (-1) ≤ Int32.toInt (M273_.1 6 3) ∧ Int32.toInt (M273_.1 6 3) ≤ 127 := pvok_r o275_ 6 3 rfl
              have j284_ : (Int32.toInt (M273_.1 6 3) ≤ -1 ∨ Int32.toInt (M273_.1 6 2) ≤ 99) := by omega
              exact ihz215_ (i2z215_ + 1) M273_ o275_ f277_ (zr_wide b280_ (by decide) (by decide)) j284_ (zhid (pvms_up (zshow hmz215_) h2z215_ q281_ (by decide) (by decide)))
            · have b285_ : 0 ≤ Int32.toInt x272_ ∧ Int32.toInt x272_ ≤ 0 := (by have u0 := b274_; have u1 := (zi_eq _ _).mp c278_; have u2 := (show 0 ≤ Int32.toInt 0 ∧ Int32.toInt 0 ≤ 0 from (by decide)); omega)
              refine pw_blk hT 1 (S' := (41, [some (pvR 6), some (pvI 2), some (pvI i2z215_)], [pvI 1], M273_)) rfl ⟨trivial, trivial⟩ ?_
              have b286_ : (-1) ≤ Int32.toInt (M273_.1 6 2) ∧ Int32.toInt (M273_.1 6 2) ≤ 100 := pvok_r o275_ 6 2 rfl
              have b287_ : (-1) ≤ Int32.toInt (M273_.1 6 3) ∧ Int32.toInt (M273_.1 6 3) ≤ 127 := pvok_r o275_ 6 3 rfl
              exact pw_ret hT rfl (r := some (pvI 1)) (M' := M273_) ⟨Or.inr rfl, rfl, rfl⟩ ⟨⟨_, rfl, (zr_wide (show 1 ≤ Int32.toInt 1 ∧ Int32.toInt 1 ≤ 1 from (by decide)) (by decide) (by decide))⟩, o275_, f277_, (by omega)⟩
        · have b288_ : 0 ≤ Int32.toInt x223_ ∧ Int32.toInt x223_ ≤ 0 := (by have u0 := b225_; have u1 := (zi_eq _ _).mp c229_; have u2 := (show 0 ≤ Int32.toInt 0 ∧ Int32.toInt 0 ≤ 0 from (by decide)); omega)
          refine pw_blk hT 1 (S' := (17, [some (pvR 6), some (pvI 2), some (pvI i2z215_)], [pvI 0], M224_)) rfl ⟨trivial, trivial⟩ ?_
          have b289_ : (-1) ≤ Int32.toInt (M224_.1 6 2) ∧ Int32.toInt (M224_.1 6 2) ≤ 100 := pvok_r o226_ 6 2 rfl
          have b290_ : (-1) ≤ Int32.toInt (M224_.1 6 3) ∧ Int32.toInt (M224_.1 6 3) ≤ 127 := pvok_r o226_ 6 3 rfl
          exact pw_ret hT rfl (r := some (pvI 0)) (M' := M224_) ⟨Or.inl rfl, rfl, rfl⟩ ⟨⟨_, rfl, (zr_wide (show 0 ≤ Int32.toInt 0 ∧ Int32.toInt 0 ≤ 0 from (by decide)) (by decide) (by decide))⟩, o226_, f228_, (by omega)⟩
  have u291_ : Int32.toInt 2 = 2 := by decide
  have u292_ : Int32.toInt 0 = 0 := by decide
  have j293_ : (Int32.toInt (M.1 6 3) ≤ -1 ∨ Int32.toInt (M.1 6 2) ≤ 99) := by omega
  exact hlz215_ _ 0 M hok pvfr_0 (zr_wide (show 0 ≤ Int32.toInt 0 ∧ Int32.toInt 0 ≤ 0 from (by decide)) (by decide) (by decide)) j293_ (zhid (Nat.lt_succ_self _))
def fpL_X5_readAny_6_2 : List (Nat × Nat × Nat) := [(0, 6, 3), (0, 6, 4), (1, 111, 0), (1, 2, 6)]
def fp_X5_readAny_6_2 (q k : Nat) : Bool := pvfp fpL_X5_readAny_6_2 q k
theorem fp_X5_readAny_6_2_fp_X2_addStep_x_x (a b : Nat) (h : fp_X2_addStep_x_x a b = true) : fp_X5_readAny_6_2 a b = true := pvfp_sub (l1 := fpL_X2_addStep_x_x) (l2 := fpL_X5_readAny_6_2) (by decide) a b h
theorem fp_X5_readAny_6_2_fp_X5_readAll_6_2 (a b : Nat) (h : fp_X5_readAll_6_2 a b = true) : fp_X5_readAny_6_2 a b = true := pvfp_sub (l1 := fpL_X5_readAll_6_2) (l2 := fpL_X5_readAny_6_2) (by decide) a b h
theorem fp_X5_readAny_6_2_fp_X5_readSign_6_x (a b : Nat) (h : fp_X5_readSign_6_x a b = true) : fp_X5_readAny_6_2 a b = true := pvfp_sub (l1 := fpL_X5_readSign_6_x) (l2 := fpL_X5_readAny_6_2) (by decide) a b h
set_option maxHeartbeats 4000000 in
set_option maxRecDepth 10000 in
theorem sf_X5_readAny_6_2 (M : pvM) (hok : pvOk M) (hx0 : (Int32.toInt (M.1 6 3) ≤ -1 ∨ Int32.toInt (M.1 6 2) ≤ 99)) (d : Nat) (hd : 2 ≤ d) : PW 141 d (0, [some (pvR 6), some (pvI 2), none], [], M) (fun r X => (∃ x : Int32, r = some (pvI x) ∧ 0 ≤ Int32.toInt x ∧ Int32.toInt x ≤ 1) ∧ pvOk X ∧ pvFr fp_X5_readAny_6_2 M X ∧ (Int32.toInt (X.1 6 3) ≤ -1 ∨ Int32.toInt (X.1 6 2) ≤ 99)) := by
  have hT : pvdom 141 = pvD_141 := rfl
  have b1_ : (-1) ≤ Int32.toInt (M.1 6 2) ∧ Int32.toInt (M.1 6 2) ≤ 100 := pvok_r hok 6 2 rfl
  have b2_ : (-1) ≤ Int32.toInt (M.1 6 3) ∧ Int32.toInt (M.1 6 3) ≤ 127 := pvok_r hok 6 3 rfl
  refine pw_blk hT 2 (S' := (2, [some (pvR 6), some (pvI 2), some (pvI 0)], [], M)) rfl ⟨trivial, trivial, trivial⟩ ?_
  have hlz215_ : ∀ (nz215_ : Nat) (i2z215_ : Int32) (Mz215_ : pvM), (pvOk Mz215_) → (pvFr fp_X5_readAny_6_2 M Mz215_) → (0 ≤ Int32.toInt i2z215_ ∧ Int32.toInt i2z215_ ≤ 100) → ((Int32.toInt (Mz215_.1 6 3) ≤ -1 ∨ Int32.toInt (Mz215_.1 6 2) ≤ 99)) → (zhide ((101 - Int32.toInt i2z215_).toNat < nz215_)) → PW 141 d (2, [some (pvR 6), some (pvI 2), some (pvI i2z215_)], [], Mz215_) (fun r X => (∃ x : Int32, r = some (pvI x) ∧ 0 ≤ Int32.toInt x ∧ Int32.toInt x ≤ 1) ∧ pvOk X ∧ pvFr fp_X5_readAny_6_2 M X ∧ (Int32.toInt (X.1 6 3) ≤ -1 ∨ Int32.toInt (X.1 6 2) ≤ 99)) := by
    intro nz215_
    induction nz215_ with
    | zero => intro i2z215_ Mz215_ oz215_ fz215_ h2z215_ j0z215_ hmz215_; exact absurd (zshow hmz215_) (Nat.not_lt_zero _)
    | succ nz215_ ihz215_ =>
      intro i2z215_ Mz215_ oz215_ fz215_ h2z215_ j0z215_ hmz215_
      have b216_ : (-1) ≤ Int32.toInt (Mz215_.1 6 2) ∧ Int32.toInt (Mz215_.1 6 2) ≤ 100 := pvok_r oz215_ 6 2 rfl
      have b217_ : (-1) ≤ Int32.toInt (Mz215_.1 6 3) ∧ Int32.toInt (Mz215_.1 6 3) ≤ 127 := pvok_r oz215_ 6 3 rfl
      refine pw_blk hT 2 (S' := (5, [some (pvR 6), some (pvI 2), some (pvI i2z215_)], [pvI 100, pvI i2z215_], Mz215_)) rfl ⟨trivial, trivial, trivial⟩ ?_
      refine pw_ic hT (c := 100 ≤ i2z215_) rfl rfl (fun c218_ => ?_) (fun c218_ => ?_)
      · have b219_ : 100 ≤ Int32.toInt i2z215_ ∧ Int32.toInt i2z215_ ≤ 100 := zr_le_r 100 c218_ h2z215_ (show 100 ≤ Int32.toInt 100 ∧ Int32.toInt 100 ≤ 100 from (by decide)) (by decide)
        refine pw_blk hT 1 (S' := (49, [some (pvR 6), some (pvI 2), some (pvI i2z215_)], [pvI 0], Mz215_)) rfl ⟨trivial, trivial⟩ ?_
        exact pw_ret hT rfl (r := some (pvI 0)) (M' := Mz215_) ⟨Or.inl rfl, rfl, rfl⟩ ⟨⟨_, rfl, (zr_wide (show 0 ≤ Int32.toInt 0 ∧ Int32.toInt 0 ≤ 0 from (by decide)) (by decide) (by decide))⟩, oz215_, fz215_, (by omega)⟩
      · have b220_ : 0 ≤ Int32.toInt i2z215_ ∧ Int32.toInt i2z215_ ≤ 99 := zr_nle_r 99 c218_ h2z215_ (show 100 ≤ Int32.toInt 100 ∧ Int32.toInt 100 ≤ 100 from (by decide)) (by decide)
        refine pw_blk hT 2 (S' := (10, [some (pvR 6), some (pvI 2), some (pvI i2z215_)], [pvI 2, pvR 6], Mz215_)) rfl ⟨trivial, trivial, trivial⟩ ?_
        have u221_ : Int32.toInt 2 = 2 := by decide
        refine pw_callGd hT (as := [pvR 6, pvI 2]) (lo1 := [some (pvR 6), some (pvI 2), none]) (d1 := d) (rest := []) rfl rfl rfl rfl rfl (fun _ => rfl) (Nat.zero_le _) rfl rfl rfl (sf_X5_readAll_6_2 Mz215_ oz215_ (show (Int32.toInt (Mz215_.1 6 3) ≤ -1 ∨ Int32.toInt (Mz215_.1 6 2) ≤ 99) from (by omega)) d (Nat.le_trans (by decide) hd)) (fun x223_ M224_ b225_ o226_ g227_ d222_ => ?_)
        have f228_ : pvFr fp_X5_readAny_6_2 M M224_ := pvfr_t g227_ fz215_ fp_X5_readAny_6_2_fp_X5_readAll_6_2
        refine pw_ifn hT (c := x223_ = 0) rfl rfl (fun c229_ => ?_) (fun c229_ => ?_)
        · have b230_ : 1 ≤ Int32.toInt x223_ ∧ Int32.toInt x223_ ≤ 1 := (by have u0 := b225_; have u1 := (not_congr (zi_eq _ _)).mp c229_; have u2 := (show 0 ≤ Int32.toInt 0 ∧ Int32.toInt 0 ≤ 0 from (by decide)); omega)
          refine pw_blk hT 1 (S' := (19, [some (pvR 6), some (pvI 2), some (pvI i2z215_)], [pvI i2z215_], M224_)) rfl ⟨trivial, trivial⟩ ?_
          refine pw_if hT (c := i2z215_ ≤ 0) rfl rfl (fun c231_ => ?_) (fun c231_ => ?_)
          · have b232_ : 0 ≤ Int32.toInt i2z215_ ∧ Int32.toInt i2z215_ ≤ 0 := zr_le_l 0 c231_ b220_ (show 0 ≤ Int32.toInt 0 ∧ Int32.toInt 0 ≤ 0 from (by decide)) (by decide)
            refine pw_blk hT 2 (S' := (34, [some (pvR 6), some (pvI 2), some (pvI i2z215_)], [pvI 124, pvR 6], M224_)) rfl ⟨trivial, trivial, trivial⟩ ?_
            have u233_ : Int32.toInt 124 = 124 := by decide
            have b234_ : (-1) ≤ Int32.toInt (M224_.1 6 2) ∧ Int32.toInt (M224_.1 6 2) ≤ 100 := pvok_r o226_ 6 2 rfl
            have b235_ : (-1) ≤ Int32.toInt (M224_.1 6 3) ∧ Int32.toInt (M224_.1 6 3) ≤ 127 := pvok_r o226_ 6 3 rfl
            refine pw_callGd hT (as := [pvR 6, pvI 124]) (lo1 := [some (pvR 6), some (pvI 124)]) (d1 := d) (rest := []) rfl rfl rfl rfl rfl (fun _ => rfl) (Nat.zero_le _) rfl rfl rfl (sf_X5_readSign_6_x M224_ o226_ 124 (zr_wide (show 124 ≤ Int32.toInt 124 ∧ Int32.toInt 124 ≤ 124 from (by decide)) (by decide) (by decide)) (show (Int32.toInt (M224_.1 6 3) ≤ -1 ∨ Int32.toInt (M224_.1 6 2) ≤ 99) from (by omega)) d) (fun x237_ M238_ b239_ o240_ g241_ d236_ => ?_)
            have f242_ : pvFr fp_X5_readAny_6_2 M M238_ := pvfr_t g241_ f228_ fp_X5_readAny_6_2_fp_X5_readSign_6_x
            refine pw_ifn hT (c := x237_ = 0) rfl rfl (fun c243_ => ?_) (fun c243_ => ?_)
            · have b244_ : 1 ≤ Int32.toInt x237_ ∧ Int32.toInt x237_ ≤ 1 := (by have u0 := b239_; have u1 := (not_congr (zi_eq _ _)).mp c243_; have u2 := (show 0 ≤ Int32.toInt 0 ∧ Int32.toInt 0 ≤ 0 from (by decide)); omega)
              obtain ⟨q246_, b245_⟩ : (Int32.toInt (i2z215_ + 1) = Int32.toInt i2z215_ + 1) ∧ (1 ≤ Int32.toInt (i2z215_ + 1) ∧ Int32.toInt (i2z215_ + 1) ≤ 1) := zadd_k i2z215_ 1 1 1 1 b232_ (by decide) (by decide) (by decide) (by decide) (by decide)
              refine pw_blk hT 2 (S' := (2, [some (pvR 6), some (pvI 2), some (pvI (i2z215_ + 1))], [], M238_)) rfl ⟨trivial, trivial, trivial⟩ ?_
              have b247_ : (-1) ≤ Int32.toInt (M238_.1 6 2) ∧ Int32.toInt (M238_.1 6 2) ≤ 100 := pvok_r o240_ 6 2 rfl
              have b248_ : (-1) ≤ Int32.toInt (M238_.1 6 3) ∧ Int32.toInt (M238_.1 6 3) ≤ 127 := pvok_r o240_ 6 3 rfl
              have j249_ : (Int32.toInt (M238_.1 6 3) ≤ -1 ∨ Int32.toInt (M238_.1 6 2) ≤ 99) := by omega
              exact ihz215_ (i2z215_ + 1) M238_ o240_ f242_ (zr_wide b245_ (by decide) (by decide)) j249_ (zhid (pvms_up (zshow hmz215_) h2z215_ q246_ (by decide) (by decide)))
            · have b250_ : 0 ≤ Int32.toInt x237_ ∧ Int32.toInt x237_ ≤ 0 := (by have u0 := b239_; have u1 := (zi_eq _ _).mp c243_; have u2 := (show 0 ≤ Int32.toInt 0 ∧ Int32.toInt 0 ≤ 0 from (by decide)); omega)
              refine pw_blk hT 1 (S' := (41, [some (pvR 6), some (pvI 2), some (pvI i2z215_)], [pvI 1], M238_)) rfl ⟨trivial, trivial⟩ ?_
              have b251_ : (-1) ≤ Int32.toInt (M238_.1 6 2) ∧ Int32.toInt (M238_.1 6 2) ≤ 100 := pvok_r o240_ 6 2 rfl
              have b252_ : (-1) ≤ Int32.toInt (M238_.1 6 3) ∧ Int32.toInt (M238_.1 6 3) ≤ 127 := pvok_r o240_ 6 3 rfl
              exact pw_ret hT rfl (r := some (pvI 1)) (M' := M238_) ⟨Or.inr rfl, rfl, rfl⟩ ⟨⟨_, rfl, (zr_wide (show 1 ≤ Int32.toInt 1 ∧ Int32.toInt 1 ≤ 1 from (by decide)) (by decide) (by decide))⟩, o240_, f242_, (by omega)⟩
          · have b253_ : 1 ≤ Int32.toInt i2z215_ ∧ Int32.toInt i2z215_ ≤ 99 := zr_nle_l 1 c231_ b220_ (show 0 ≤ Int32.toInt 0 ∧ Int32.toInt 0 ≤ 0 from (by decide)) (by decide)
            have b254_ : 15 ≤ Int32.toInt (M224_.1 6 4) ∧ Int32.toInt (M224_.1 6 4) ≤ 23 := pvok_r o226_ 6 4 rfl
            refine pw_blkr hT 2 (pc := 26) (lo := [some (pvR 6), some (pvI 2), some (pvI i2z215_)]) (st := []) (M := M224_) (z := (pvhp (M224_.1 6 4))) rfl ⟨trivial, rfl, trivial⟩ (fun q255_ e257_ => ?_)
            have k256_ : pvkl q255_ = 2 := pvhp_k b254_ e257_
            refine pw_blk hT 1 (S' := (28, [some (pvR 6), some (pvI 2), some (pvI i2z215_)], [pvI (-3), pvR q255_], M224_)) rfl ⟨trivial, trivial⟩ ?_
            refine pw_callV hT (as := [pvR q255_, pvI (-3)]) (lo1 := [some (pvR q255_), some (pvI (-3))]) (d1 := d) (rest := []) rfl rfl rfl rfl rfl (fun _ => k256_) (Nat.zero_le _) rfl rfl rfl (sf_X2_addStep_x_x M224_ o226_ q255_ (-3) k256_ (zr_wide (show (-3) ≤ Int32.toInt (-3) ∧ Int32.toInt (-3) ≤ (-3) from (by decide)) (by decide) (by decide)) d) (fun M259_ o261_ g262_ => ?_)
            have f263_ : pvFr fp_X5_readAny_6_2 M M259_ := pvfr_t g262_ f228_ fp_X5_readAny_6_2_fp_X2_addStep_x_x
            refine pw_blk hT 2 (S' := (34, [some (pvR 6), some (pvI 2), some (pvI i2z215_)], [pvI 124, pvR 6], M259_)) rfl ⟨trivial, trivial, trivial⟩ ?_
            have u264_ : Int32.toInt 124 = 124 := by decide
            have e265_ : (M259_.1 6 2) = (M224_.1 6 2) := (g262_ 6 2 rfl)
            have b266_ : (-1) ≤ Int32.toInt (M259_.1 6 2) ∧ Int32.toInt (M259_.1 6 2) ≤ 100 := pvok_r o261_ 6 2 rfl
            have d267_ : Int32.toInt (M259_.1 6 2) = Int32.toInt (M224_.1 6 2) := congrArg Int32.toInt e265_
            have e268_ : (M259_.1 6 3) = (M224_.1 6 3) := (g262_ 6 3 rfl)
            have b269_ : (-1) ≤ Int32.toInt (M259_.1 6 3) ∧ Int32.toInt (M259_.1 6 3) ≤ 127 := pvok_r o261_ 6 3 rfl
            have d270_ : Int32.toInt (M259_.1 6 3) = Int32.toInt (M224_.1 6 3) := congrArg Int32.toInt e268_
            refine pw_callGd hT (as := [pvR 6, pvI 124]) (lo1 := [some (pvR 6), some (pvI 124)]) (d1 := d) (rest := []) rfl rfl rfl rfl rfl (fun _ => rfl) (Nat.zero_le _) rfl rfl rfl (sf_X5_readSign_6_x M259_ o261_ 124 (zr_wide (show 124 ≤ Int32.toInt 124 ∧ Int32.toInt 124 ≤ 124 from (by decide)) (by decide) (by decide)) (show (Int32.toInt (M259_.1 6 3) ≤ -1 ∨ Int32.toInt (M259_.1 6 2) ≤ 99) from (by omega)) d) (fun x272_ M273_ b274_ o275_ g276_ d271_ => ?_)
            have f277_ : pvFr fp_X5_readAny_6_2 M M273_ := pvfr_t g276_ f263_ fp_X5_readAny_6_2_fp_X5_readSign_6_x
            refine pw_ifn hT (c := x272_ = 0) rfl rfl (fun c278_ => ?_) (fun c278_ => ?_)
            · have b279_ : 1 ≤ Int32.toInt x272_ ∧ Int32.toInt x272_ ≤ 1 := (by have u0 := b274_; have u1 := (not_congr (zi_eq _ _)).mp c278_; have u2 := (show 0 ≤ Int32.toInt 0 ∧ Int32.toInt 0 ≤ 0 from (by decide)); omega)
              obtain ⟨q281_, b280_⟩ : (Int32.toInt (i2z215_ + 1) = Int32.toInt i2z215_ + 1) ∧ (2 ≤ Int32.toInt (i2z215_ + 1) ∧ Int32.toInt (i2z215_ + 1) ≤ 100) := zadd_k i2z215_ 1 1 2 100 b253_ (by decide) (by decide) (by decide) (by decide) (by decide)
              refine pw_blk hT 2 (S' := (2, [some (pvR 6), some (pvI 2), some (pvI (i2z215_ + 1))], [], M273_)) rfl ⟨trivial, trivial, trivial⟩ ?_
              have b282_ : (-1) ≤ Int32.toInt (M273_.1 6 2) ∧ Int32.toInt (M273_.1 6 2) ≤ 100 := pvok_r o275_ 6 2 rfl
              have b283_ : (-1) ≤ Int32.toInt (M273_.1 6 3) ∧ Int32.toInt (M273_.1 6 3) ≤ 127 := pvok_r o275_ 6 3 rfl
              have j284_ : (Int32.toInt (M273_.1 6 3) ≤ -1 ∨ Int32.toInt (M273_.1 6 2) ≤ 99) := by omega
              exact ihz215_ (i2z215_ + 1) M273_ o275_ f277_ (zr_wide b280_ (by decide) (by decide)) j284_ (zhid (pvms_up (zshow hmz215_) h2z215_ q281_ (by decide) (by decide)))
            · have b285_ : 0 ≤ Int32.toInt x272_ ∧ Int32.toInt x272_ ≤ 0 := (by have u0 := b274_; have u1 := (zi_eq _ _).mp c278_; have u2 := (show 0 ≤ Int32.toInt 0 ∧ Int32.toInt 0 ≤ 0 from (by decide)); omega)
              refine pw_blk hT 1 (S' := (41, [some (pvR 6), some (pvI 2), some (pvI i2z215_)], [pvI 1], M273_)) rfl ⟨trivial, trivial⟩ ?_
              have b286_ : (-1) ≤ Int32.toInt (M273_.1 6 2) ∧ Int32.toInt (M273_.1 6 2) ≤ 100 := pvok_r o275_ 6 2 rfl
              have b287_ : (-1) ≤ Int32.toInt (M273_.1 6 3) ∧ Int32.toInt (M273_.1 6 3) ≤ 127 := pvok_r o275_ 6 3 rfl
              exact pw_ret hT rfl (r := some (pvI 1)) (M' := M273_) ⟨Or.inr rfl, rfl, rfl⟩ ⟨⟨_, rfl, (zr_wide (show 1 ≤ Int32.toInt 1 ∧ Int32.toInt 1 ≤ 1 from (by decide)) (by decide) (by decide))⟩, o275_, f277_, (by omega)⟩
        · have b288_ : 0 ≤ Int32.toInt x223_ ∧ Int32.toInt x223_ ≤ 0 := (by have u0 := b225_; have u1 := (zi_eq _ _).mp c229_; have u2 := (show 0 ≤ Int32.toInt 0 ∧ Int32.toInt 0 ≤ 0 from (by decide)); omega)
          refine pw_blk hT 1 (S' := (17, [some (pvR 6), some (pvI 2), some (pvI i2z215_)], [pvI 0], M224_)) rfl ⟨trivial, trivial⟩ ?_
          have b289_ : (-1) ≤ Int32.toInt (M224_.1 6 2) ∧ Int32.toInt (M224_.1 6 2) ≤ 100 := pvok_r o226_ 6 2 rfl
          have b290_ : (-1) ≤ Int32.toInt (M224_.1 6 3) ∧ Int32.toInt (M224_.1 6 3) ≤ 127 := pvok_r o226_ 6 3 rfl
          exact pw_ret hT rfl (r := some (pvI 0)) (M' := M224_) ⟨Or.inl rfl, rfl, rfl⟩ ⟨⟨_, rfl, (zr_wide (show 0 ≤ Int32.toInt 0 ∧ Int32.toInt 0 ≤ 0 from (by decide)) (by decide) (by decide))⟩, o226_, f228_, (by omega)⟩
  have u291_ : Int32.toInt 2 = 2 := by decide
  have u292_ : Int32.toInt 0 = 0 := by decide
  have j293_ : (Int32.toInt (M.1 6 3) ≤ -1 ∨ Int32.toInt (M.1 6 2) ≤ 99) := by omega
  exact hlz215_ _ 0 M hok pvfr_0 (zr_wide (show 0 ≤ Int32.toInt 0 ∧ Int32.toInt 0 ≤ 0 from (by decide)) (by decide) (by decide)) j293_ (zhid (Nat.lt_succ_self _))
def fpL_X5_readOne_6_1 : List (Nat × Nat × Nat) := [(0, 6, 3), (0, 6, 4), (1, 111, 0), (1, 2, 6)]
def fp_X5_readOne_6_1 (q k : Nat) : Bool := pvfp fpL_X5_readOne_6_1 q k
theorem fp_X5_readOne_6_1_fp_X2_addStep_x_x (a b : Nat) (h : fp_X2_addStep_x_x a b = true) : fp_X5_readOne_6_1 a b = true := pvfp_sub (l1 := fpL_X2_addStep_x_x) (l2 := fpL_X5_readOne_6_1) (by decide) a b h
theorem fp_X5_readOne_6_1_fp_X5_readAny_6_2 (a b : Nat) (h : fp_X5_readAny_6_2 a b = true) : fp_X5_readOne_6_1 a b = true := pvfp_sub (l1 := fpL_X5_readAny_6_2) (l2 := fpL_X5_readOne_6_1) (by decide) a b h
theorem fp_X5_readOne_6_1_fp_X5_readAny_6_3 (a b : Nat) (h : fp_X5_readAny_6_3 a b = true) : fp_X5_readOne_6_1 a b = true := pvfp_sub (l1 := fpL_X5_readAny_6_3) (l2 := fpL_X5_readOne_6_1) (by decide) a b h
theorem fp_X5_readOne_6_1_fp_X5_readAny_6_4 (a b : Nat) (h : fp_X5_readAny_6_4 a b = true) : fp_X5_readOne_6_1 a b = true := pvfp_sub (l1 := fpL_X5_readAny_6_4) (l2 := fpL_X5_readOne_6_1) (by decide) a b h
theorem fp_X5_readOne_6_1_fp_X5_readSign_6_x (a b : Nat) (h : fp_X5_readSign_6_x a b = true) : fp_X5_readOne_6_1 a b = true := pvfp_sub (l1 := fpL_X5_readSign_6_x) (l2 := fpL_X5_readOne_6_1) (by decide) a b h
theorem fp_X5_readOne_6_1_fp_X5_readTest_6 (a b : Nat) (h : fp_X5_readTest_6 a b = true) : fp_X5_readOne_6_1 a b = true := pvfp_sub (l1 := fpL_X5_readTest_6) (l2 := fpL_X5_readOne_6_1) (by decide) a b h
set_option maxHeartbeats 4000000 in
set_option maxRecDepth 10000 in
theorem sf_X5_readOne_6_1 (M : pvM) (hok : pvOk M) (hx0 : (Int32.toInt (M.1 6 3) ≤ -1 ∨ Int32.toInt (M.1 6 2) ≤ 99)) (d : Nat) (hd : 3 ≤ d) : PW 145 d (0, [some (pvR 6), some (pvI 1), none, none], [], M) (fun r X => (∃ x : Int32, r = some (pvI x) ∧ 0 ≤ Int32.toInt x ∧ Int32.toInt x ≤ 1) ∧ pvOk X ∧ pvFr fp_X5_readOne_6_1 M X ∧ (Int32.toInt (X.1 6 3) ≤ -1 ∨ Int32.toInt (X.1 6 2) ≤ 99)) := by
  have hT : pvdom 145 = pvD_145 := rfl
  have b1_ : (-1) ≤ Int32.toInt (M.1 6 2) ∧ Int32.toInt (M.1 6 2) ≤ 100 := pvok_r hok 6 2 rfl
  have b2_ : (-1) ≤ Int32.toInt (M.1 6 3) ∧ Int32.toInt (M.1 6 3) ≤ 127 := pvok_r hok 6 3 rfl
  refine pw_blk hT 2 (S' := (2, [some (pvR 6), some (pvI 1), some (pvI 1), none], [], M)) rfl ⟨trivial, trivial, trivial⟩ ?_
  refine pw_blk hT 2 (S' := (4, [some (pvR 6), some (pvI 1), some (pvI 1), none], [pvI 4, pvI 1], M)) rfl ⟨trivial, trivial, trivial⟩ ?_
  refine pw_ic hT (c := 4 ≤ 1) rfl rfl (fun c3_ => absurd c3_ (by decide)) (fun c3_ => ?_)
  refine pw_blk hT 2 (S' := (10, [some (pvR 6), some (pvI 1), some (pvI 1), none], [pvI 33, pvR 6], M)) rfl ⟨trivial, trivial, trivial⟩ ?_
  have u4_ : Int32.toInt 33 = 33 := by decide
  refine pw_callGd hT (as := [pvR 6, pvI 33]) (lo1 := [some (pvR 6), some (pvI 33)]) (d1 := d) (rest := []) rfl rfl rfl rfl rfl (fun _ => rfl) (Nat.zero_le _) rfl rfl rfl (sf_X5_readSign_6_x M hok 33 (zr_wide (show 33 ≤ Int32.toInt 33 ∧ Int32.toInt 33 ≤ 33 from (by decide)) (by decide) (by decide)) (show (Int32.toInt (M.1 6 3) ≤ -1 ∨ Int32.toInt (M.1 6 2) ≤ 99) from (by omega)) d) (fun x6_ M7_ b8_ o9_ g10_ d5_ => ?_)
  have f11_ : pvFr fp_X5_readOne_6_1 M M7_ := pvfr_t g10_ pvfr_0 fp_X5_readOne_6_1_fp_X5_readSign_6_x
  refine pw_if hT (c := x6_ = 0) rfl rfl (fun c12_ => ?_) (fun c12_ => ?_)
  · have b13_ : 0 ≤ Int32.toInt x6_ ∧ Int32.toInt x6_ ≤ 0 := (by have u0 := b8_; have u1 := (zi_eq _ _).mp c12_; have u2 := (show 0 ≤ Int32.toInt 0 ∧ Int32.toInt 0 ≤ 0 from (by decide)); omega)
    refine pw_blk hT 2 (S' := (24, [some (pvR 6), some (pvI 1), some (pvI 1), none], [pvI 4, pvI 1], M7_)) rfl ⟨trivial, trivial, trivial⟩ ?_
    refine pw_ic hT (c := 4 ≤ 1) rfl rfl (fun c14_ => absurd c14_ (by decide)) (fun c14_ => ?_)
    refine pw_blk hT 2 (S' := (30, [some (pvR 6), some (pvI 1), some (pvI 1), none], [pvI 40, pvR 6], M7_)) rfl ⟨trivial, trivial, trivial⟩ ?_
    have u15_ : Int32.toInt 40 = 40 := by decide
    have b16_ : (-1) ≤ Int32.toInt (M7_.1 6 2) ∧ Int32.toInt (M7_.1 6 2) ≤ 100 := pvok_r o9_ 6 2 rfl
    have b17_ : (-1) ≤ Int32.toInt (M7_.1 6 3) ∧ Int32.toInt (M7_.1 6 3) ≤ 127 := pvok_r o9_ 6 3 rfl
    refine pw_callGd hT (as := [pvR 6, pvI 40]) (lo1 := [some (pvR 6), some (pvI 40)]) (d1 := d) (rest := []) rfl rfl rfl rfl rfl (fun _ => rfl) (Nat.zero_le _) rfl rfl rfl (sf_X5_readSign_6_x M7_ o9_ 40 (zr_wide (show 40 ≤ Int32.toInt 40 ∧ Int32.toInt 40 ≤ 40 from (by decide)) (by decide) (by decide)) (show (Int32.toInt (M7_.1 6 3) ≤ -1 ∨ Int32.toInt (M7_.1 6 2) ≤ 99) from (by omega)) d) (fun x19_ M20_ b21_ o22_ g23_ d18_ => ?_)
    have f24_ : pvFr fp_X5_readOne_6_1 M M20_ := pvfr_t g23_ f11_ fp_X5_readOne_6_1_fp_X5_readSign_6_x
    refine pw_if hT (c := x19_ = 0) rfl rfl (fun c25_ => ?_) (fun c25_ => ?_)
    · have b26_ : 0 ≤ Int32.toInt x19_ ∧ Int32.toInt x19_ ≤ 0 := (by have u0 := b21_; have u1 := (zi_eq _ _).mp c25_; have u2 := (show 0 ≤ Int32.toInt 0 ∧ Int32.toInt 0 ≤ 0 from (by decide)); omega)
      refine pw_blk hT 1 (S' := (64, [some (pvR 6), some (pvI 1), some (pvI 1), none], [pvR 6], M20_)) rfl ⟨trivial, trivial⟩ ?_
      have b27_ : (-1) ≤ Int32.toInt (M20_.1 6 2) ∧ Int32.toInt (M20_.1 6 2) ≤ 100 := pvok_r o22_ 6 2 rfl
      have b28_ : (-1) ≤ Int32.toInt (M20_.1 6 3) ∧ Int32.toInt (M20_.1 6 3) ≤ 127 := pvok_r o22_ 6 3 rfl
      refine pw_callGd hT (as := [pvR 6]) (lo1 := [some (pvR 6), none, none, none]) (d1 := d) (rest := []) rfl rfl rfl rfl rfl (fun _ => rfl) (Nat.zero_le _) rfl rfl rfl (sf_X5_readTest_6 M20_ o22_ (show (Int32.toInt (M20_.1 6 3) ≤ -1 ∨ Int32.toInt (M20_.1 6 2) ≤ 99) from (by omega)) d) (fun x30_ M31_ b32_ o33_ g34_ d29_ => ?_)
      have f35_ : pvFr fp_X5_readOne_6_1 M M31_ := pvfr_t g34_ f24_ fp_X5_readOne_6_1_fp_X5_readTest_6
      refine pw_blk hT 7 (S' := (74, [some (pvR 6), some (pvI 1), some (pvI 1), some (pvI x30_)], [pvI 1, pvI ((1 - 1) - (1 - 1) / 2 * 2)], M31_)) rfl ⟨trivial, trivial, trivial, trivial, trivial, (by decide), trivial, trivial⟩ ?_
      refine pw_icn hT (c := ((1 - 1) - (1 - 1) / 2 * 2) = 1) rfl rfl (fun c36_ => ?_) (fun c36_ => absurd c36_ (by decide))
      refine pw_blk hT 1 (S' := (86, [some (pvR 6), some (pvI 1), some (pvI 1), some (pvI x30_)], [pvI x30_], M31_)) rfl ⟨trivial, trivial⟩ ?_
      have b37_ : (-1) ≤ Int32.toInt (M31_.1 6 2) ∧ Int32.toInt (M31_.1 6 2) ≤ 100 := pvok_r o33_ 6 2 rfl
      have b38_ : (-1) ≤ Int32.toInt (M31_.1 6 3) ∧ Int32.toInt (M31_.1 6 3) ≤ 127 := pvok_r o33_ 6 3 rfl
      exact pw_ret hT rfl (r := some (pvI x30_)) (M' := M31_) ⟨pv01 b32_, rfl, rfl⟩ ⟨⟨_, rfl, b32_⟩, o33_, f35_, (by omega)⟩
    · have b39_ : 1 ≤ Int32.toInt x19_ ∧ Int32.toInt x19_ ≤ 1 := (by have u0 := b21_; have u1 := (not_congr (zi_eq _ _)).mp c25_; have u2 := (show 0 ≤ Int32.toInt 0 ∧ Int32.toInt 0 ≤ 0 from (by decide)); omega)
      refine pw_blk hT 4 (S' := (40, [some (pvR 6), some (pvI 1), some (pvI 1), none], [pvI (1 + 1), pvR 6], M20_)) rfl ⟨trivial, trivial, trivial, trivial, trivial⟩ ?_
      have u40_ : Int32.toInt (1 + 1) = 2 := by decide
      have b41_ : (-1) ≤ Int32.toInt (M20_.1 6 2) ∧ Int32.toInt (M20_.1 6 2) ≤ 100 := pvok_r o22_ 6 2 rfl
      have b42_ : (-1) ≤ Int32.toInt (M20_.1 6 3) ∧ Int32.toInt (M20_.1 6 3) ≤ 127 := pvok_r o22_ 6 3 rfl
      refine pw_callGd hT (as := [pvR 6, pvI (1 + 1)]) (lo1 := [some (pvR 6), some (pvI (1 + 1)), none]) (d1 := (d - 1)) (rest := []) rfl rfl rfl rfl rfl (fun _ => rfl) (show 1 ≤ d by omega) rfl rfl rfl (sf_X5_readAny_6_2 M20_ o22_ (show (Int32.toInt (M20_.1 6 3) ≤ -1 ∨ Int32.toInt (M20_.1 6 2) ≤ 99) from (by omega)) (d - 1) (by omega)) (fun x44_ M45_ b46_ o47_ g48_ d43_ => ?_)
      have f49_ : pvFr fp_X5_readOne_6_1 M M45_ := pvfr_t g48_ f24_ fp_X5_readOne_6_1_fp_X5_readAny_6_2
      refine pw_if hT (c := x44_ = 0) rfl rfl (fun c50_ => ?_) (fun c50_ => ?_)
      · have b51_ : 0 ≤ Int32.toInt x44_ ∧ Int32.toInt x44_ ≤ 0 := (by have u0 := b46_; have u1 := (zi_eq _ _).mp c50_; have u2 := (show 0 ≤ Int32.toInt 0 ∧ Int32.toInt 0 ≤ 0 from (by decide)); omega)
        refine pw_blk hT 9 (S' := (74, [some (pvR 6), some (pvI 1), some (pvI 1), some (pvI 0)], [pvI 1, pvI ((1 - 1) - (1 - 1) / 2 * 2)], M45_)) rfl ⟨trivial, trivial, trivial, trivial, trivial, trivial, trivial, (by decide), trivial, trivial⟩ ?_
        refine pw_icn hT (c := ((1 - 1) - (1 - 1) / 2 * 2) = 1) rfl rfl (fun c52_ => ?_) (fun c52_ => absurd c52_ (by decide))
        refine pw_blk hT 1 (S' := (86, [some (pvR 6), some (pvI 1), some (pvI 1), some (pvI 0)], [pvI 0], M45_)) rfl ⟨trivial, trivial⟩ ?_
        have b53_ : (-1) ≤ Int32.toInt (M45_.1 6 2) ∧ Int32.toInt (M45_.1 6 2) ≤ 100 := pvok_r o47_ 6 2 rfl
        have b54_ : (-1) ≤ Int32.toInt (M45_.1 6 3) ∧ Int32.toInt (M45_.1 6 3) ≤ 127 := pvok_r o47_ 6 3 rfl
        exact pw_ret hT rfl (r := some (pvI 0)) (M' := M45_) ⟨Or.inl rfl, rfl, rfl⟩ ⟨⟨_, rfl, (zr_wide (show 0 ≤ Int32.toInt 0 ∧ Int32.toInt 0 ≤ 0 from (by decide)) (by decide) (by decide))⟩, o47_, f49_, (by omega)⟩
      · have b55_ : 1 ≤ Int32.toInt x44_ ∧ Int32.toInt x44_ ≤ 1 := (by have u0 := b46_; have u1 := (not_congr (zi_eq _ _)).mp c50_; have u2 := (show 0 ≤ Int32.toInt 0 ∧ Int32.toInt 0 ≤ 0 from (by decide)); omega)
        refine pw_blk hT 2 (S' := (49, [some (pvR 6), some (pvI 1), some (pvI 1), none], [pvI 41, pvR 6], M45_)) rfl ⟨trivial, trivial, trivial⟩ ?_
        have u56_ : Int32.toInt 41 = 41 := by decide
        have b57_ : (-1) ≤ Int32.toInt (M45_.1 6 2) ∧ Int32.toInt (M45_.1 6 2) ≤ 100 := pvok_r o47_ 6 2 rfl
        have b58_ : (-1) ≤ Int32.toInt (M45_.1 6 3) ∧ Int32.toInt (M45_.1 6 3) ≤ 127 := pvok_r o47_ 6 3 rfl
        refine pw_callGd hT (as := [pvR 6, pvI 41]) (lo1 := [some (pvR 6), some (pvI 41)]) (d1 := d) (rest := []) rfl rfl rfl rfl rfl (fun _ => rfl) (Nat.zero_le _) rfl rfl rfl (sf_X5_readSign_6_x M45_ o47_ 41 (zr_wide (show 41 ≤ Int32.toInt 41 ∧ Int32.toInt 41 ≤ 41 from (by decide)) (by decide) (by decide)) (show (Int32.toInt (M45_.1 6 3) ≤ -1 ∨ Int32.toInt (M45_.1 6 2) ≤ 99) from (by omega)) d) (fun x60_ M61_ b62_ o63_ g64_ d59_ => ?_)
        have f65_ : pvFr fp_X5_readOne_6_1 M M61_ := pvfr_t g64_ f49_ fp_X5_readOne_6_1_fp_X5_readSign_6_x
        refine pw_if hT (c := x60_ = 0) rfl rfl (fun c66_ => ?_) (fun c66_ => ?_)
        · have b67_ : 0 ≤ Int32.toInt x60_ ∧ Int32.toInt x60_ ≤ 0 := (by have u0 := b62_; have u1 := (zi_eq _ _).mp c66_; have u2 := (show 0 ≤ Int32.toInt 0 ∧ Int32.toInt 0 ≤ 0 from (by decide)); omega)
          refine pw_blk hT 9 (S' := (74, [some (pvR 6), some (pvI 1), some (pvI 1), some (pvI 0)], [pvI 1, pvI ((1 - 1) - (1 - 1) / 2 * 2)], M61_)) rfl ⟨trivial, trivial, trivial, trivial, trivial, trivial, trivial, (by decide), trivial, trivial⟩ ?_
          refine pw_icn hT (c := ((1 - 1) - (1 - 1) / 2 * 2) = 1) rfl rfl (fun c68_ => ?_) (fun c68_ => absurd c68_ (by decide))
          refine pw_blk hT 1 (S' := (86, [some (pvR 6), some (pvI 1), some (pvI 1), some (pvI 0)], [pvI 0], M61_)) rfl ⟨trivial, trivial⟩ ?_
          have b69_ : (-1) ≤ Int32.toInt (M61_.1 6 2) ∧ Int32.toInt (M61_.1 6 2) ≤ 100 := pvok_r o63_ 6 2 rfl
          have b70_ : (-1) ≤ Int32.toInt (M61_.1 6 3) ∧ Int32.toInt (M61_.1 6 3) ≤ 127 := pvok_r o63_ 6 3 rfl
          exact pw_ret hT rfl (r := some (pvI 0)) (M' := M61_) ⟨Or.inl rfl, rfl, rfl⟩ ⟨⟨_, rfl, (zr_wide (show 0 ≤ Int32.toInt 0 ∧ Int32.toInt 0 ≤ 0 from (by decide)) (by decide) (by decide))⟩, o63_, f65_, (by omega)⟩
        · have b71_ : 1 ≤ Int32.toInt x60_ ∧ Int32.toInt x60_ ≤ 1 := (by have u0 := b62_; have u1 := (not_congr (zi_eq _ _)).mp c66_; have u2 := (show 0 ≤ Int32.toInt 0 ∧ Int32.toInt 0 ≤ 0 from (by decide)); omega)
          refine pw_blk hT 9 (S' := (74, [some (pvR 6), some (pvI 1), some (pvI 1), some (pvI 1)], [pvI 1, pvI ((1 - 1) - (1 - 1) / 2 * 2)], M61_)) rfl ⟨trivial, trivial, trivial, trivial, trivial, trivial, trivial, (by decide), trivial, trivial⟩ ?_
          refine pw_icn hT (c := ((1 - 1) - (1 - 1) / 2 * 2) = 1) rfl rfl (fun c72_ => ?_) (fun c72_ => absurd c72_ (by decide))
          refine pw_blk hT 1 (S' := (86, [some (pvR 6), some (pvI 1), some (pvI 1), some (pvI 1)], [pvI 1], M61_)) rfl ⟨trivial, trivial⟩ ?_
          have b73_ : (-1) ≤ Int32.toInt (M61_.1 6 2) ∧ Int32.toInt (M61_.1 6 2) ≤ 100 := pvok_r o63_ 6 2 rfl
          have b74_ : (-1) ≤ Int32.toInt (M61_.1 6 3) ∧ Int32.toInt (M61_.1 6 3) ≤ 127 := pvok_r o63_ 6 3 rfl
          exact pw_ret hT rfl (r := some (pvI 1)) (M' := M61_) ⟨Or.inr rfl, rfl, rfl⟩ ⟨⟨_, rfl, (zr_wide (show 1 ≤ Int32.toInt 1 ∧ Int32.toInt 1 ≤ 1 from (by decide)) (by decide) (by decide))⟩, o63_, f65_, (by omega)⟩
  · have b75_ : 1 ≤ Int32.toInt x6_ ∧ Int32.toInt x6_ ≤ 1 := (by have u0 := b8_; have u1 := (not_congr (zi_eq _ _)).mp c12_; have u2 := (show 0 ≤ Int32.toInt 0 ∧ Int32.toInt 0 ≤ 0 from (by decide)); omega)
    refine pw_blk hT 2 (S' := (2, [some (pvR 6), some (pvI 1), some (pvI (1 + 1)), none], [], M7_)) rfl ⟨trivial, trivial, trivial⟩ ?_
    refine pw_blk hT 2 (S' := (4, [some (pvR 6), some (pvI 1), some (pvI (1 + 1)), none], [pvI 4, pvI (1 + 1)], M7_)) rfl ⟨trivial, trivial, trivial⟩ ?_
    refine pw_ic hT (c := 4 ≤ (1 + 1)) rfl rfl (fun c76_ => absurd c76_ (by decide)) (fun c76_ => ?_)
    refine pw_blk hT 2 (S' := (10, [some (pvR 6), some (pvI 1), some (pvI (1 + 1)), none], [pvI 33, pvR 6], M7_)) rfl ⟨trivial, trivial, trivial⟩ ?_
    have b77_ : (-1) ≤ Int32.toInt (M7_.1 6 2) ∧ Int32.toInt (M7_.1 6 2) ≤ 100 := pvok_r o9_ 6 2 rfl
    have b78_ : (-1) ≤ Int32.toInt (M7_.1 6 3) ∧ Int32.toInt (M7_.1 6 3) ≤ 127 := pvok_r o9_ 6 3 rfl
    refine pw_callGd hT (as := [pvR 6, pvI 33]) (lo1 := [some (pvR 6), some (pvI 33)]) (d1 := d) (rest := []) rfl rfl rfl rfl rfl (fun _ => rfl) (Nat.zero_le _) rfl rfl rfl (sf_X5_readSign_6_x M7_ o9_ 33 (zr_wide (show 33 ≤ Int32.toInt 33 ∧ Int32.toInt 33 ≤ 33 from (by decide)) (by decide) (by decide)) (show (Int32.toInt (M7_.1 6 3) ≤ -1 ∨ Int32.toInt (M7_.1 6 2) ≤ 99) from (by omega)) d) (fun x80_ M81_ b82_ o83_ g84_ d79_ => ?_)
    have f85_ : pvFr fp_X5_readOne_6_1 M M81_ := pvfr_t g84_ f11_ fp_X5_readOne_6_1_fp_X5_readSign_6_x
    refine pw_if hT (c := x80_ = 0) rfl rfl (fun c86_ => ?_) (fun c86_ => ?_)
    · have b87_ : 0 ≤ Int32.toInt x80_ ∧ Int32.toInt x80_ ≤ 0 := (by have u0 := b82_; have u1 := (zi_eq _ _).mp c86_; have u2 := (show 0 ≤ Int32.toInt 0 ∧ Int32.toInt 0 ≤ 0 from (by decide)); omega)
      refine pw_blk hT 2 (S' := (24, [some (pvR 6), some (pvI 1), some (pvI (1 + 1)), none], [pvI 4, pvI (1 + 1)], M81_)) rfl ⟨trivial, trivial, trivial⟩ ?_
      refine pw_ic hT (c := 4 ≤ (1 + 1)) rfl rfl (fun c88_ => absurd c88_ (by decide)) (fun c88_ => ?_)
      refine pw_blk hT 2 (S' := (30, [some (pvR 6), some (pvI 1), some (pvI (1 + 1)), none], [pvI 40, pvR 6], M81_)) rfl ⟨trivial, trivial, trivial⟩ ?_
      have u89_ : Int32.toInt 40 = 40 := by decide
      have b90_ : (-1) ≤ Int32.toInt (M81_.1 6 2) ∧ Int32.toInt (M81_.1 6 2) ≤ 100 := pvok_r o83_ 6 2 rfl
      have b91_ : (-1) ≤ Int32.toInt (M81_.1 6 3) ∧ Int32.toInt (M81_.1 6 3) ≤ 127 := pvok_r o83_ 6 3 rfl
      refine pw_callGd hT (as := [pvR 6, pvI 40]) (lo1 := [some (pvR 6), some (pvI 40)]) (d1 := d) (rest := []) rfl rfl rfl rfl rfl (fun _ => rfl) (Nat.zero_le _) rfl rfl rfl (sf_X5_readSign_6_x M81_ o83_ 40 (zr_wide (show 40 ≤ Int32.toInt 40 ∧ Int32.toInt 40 ≤ 40 from (by decide)) (by decide) (by decide)) (show (Int32.toInt (M81_.1 6 3) ≤ -1 ∨ Int32.toInt (M81_.1 6 2) ≤ 99) from (by omega)) d) (fun x93_ M94_ b95_ o96_ g97_ d92_ => ?_)
      have f98_ : pvFr fp_X5_readOne_6_1 M M94_ := pvfr_t g97_ f85_ fp_X5_readOne_6_1_fp_X5_readSign_6_x
      refine pw_if hT (c := x93_ = 0) rfl rfl (fun c99_ => ?_) (fun c99_ => ?_)
      · have b100_ : 0 ≤ Int32.toInt x93_ ∧ Int32.toInt x93_ ≤ 0 := (by have u0 := b95_; have u1 := (zi_eq _ _).mp c99_; have u2 := (show 0 ≤ Int32.toInt 0 ∧ Int32.toInt 0 ≤ 0 from (by decide)); omega)
        refine pw_blk hT 1 (S' := (64, [some (pvR 6), some (pvI 1), some (pvI (1 + 1)), none], [pvR 6], M94_)) rfl ⟨trivial, trivial⟩ ?_
        have b101_ : (-1) ≤ Int32.toInt (M94_.1 6 2) ∧ Int32.toInt (M94_.1 6 2) ≤ 100 := pvok_r o96_ 6 2 rfl
        have b102_ : (-1) ≤ Int32.toInt (M94_.1 6 3) ∧ Int32.toInt (M94_.1 6 3) ≤ 127 := pvok_r o96_ 6 3 rfl
        refine pw_callGd hT (as := [pvR 6]) (lo1 := [some (pvR 6), none, none, none]) (d1 := d) (rest := []) rfl rfl rfl rfl rfl (fun _ => rfl) (Nat.zero_le _) rfl rfl rfl (sf_X5_readTest_6 M94_ o96_ (show (Int32.toInt (M94_.1 6 3) ≤ -1 ∨ Int32.toInt (M94_.1 6 2) ≤ 99) from (by omega)) d) (fun x104_ M105_ b106_ o107_ g108_ d103_ => ?_)
        have f109_ : pvFr fp_X5_readOne_6_1 M M105_ := pvfr_t g108_ f98_ fp_X5_readOne_6_1_fp_X5_readTest_6
        refine pw_blk hT 7 (S' := (74, [some (pvR 6), some (pvI 1), some (pvI (1 + 1)), some (pvI x104_)], [pvI 1, pvI (((1 + 1) - 1) - ((1 + 1) - 1) / 2 * 2)], M105_)) rfl ⟨trivial, trivial, trivial, trivial, trivial, (by decide), trivial, trivial⟩ ?_
        refine pw_icn hT (c := (((1 + 1) - 1) - ((1 + 1) - 1) / 2 * 2) = 1) rfl rfl (fun c110_ => absurd (by decide) c110_) (fun c110_ => ?_)
        have b111_ : 15 ≤ Int32.toInt (M105_.1 6 4) ∧ Int32.toInt (M105_.1 6 4) ≤ 23 := pvok_r o107_ 6 4 rfl
        refine pw_blkr hT 2 (pc := 81) (lo := [some (pvR 6), some (pvI 1), some (pvI (1 + 1)), some (pvI x104_)]) (st := []) (M := M105_) (z := (pvhp (M105_.1 6 4))) rfl ⟨trivial, rfl, trivial⟩ (fun q112_ e114_ => ?_)
        have k113_ : pvkl q112_ = 2 := pvhp_k b111_ e114_
        refine pw_blk hT 1 (S' := (82, [some (pvR 6), some (pvI 1), some (pvI (1 + 1)), some (pvI x104_)], [pvI (-1), pvR q112_], M105_)) rfl ⟨trivial, trivial⟩ ?_
        refine pw_callV hT (as := [pvR q112_, pvI (-1)]) (lo1 := [some (pvR q112_), some (pvI (-1))]) (d1 := d) (rest := []) rfl rfl rfl rfl rfl (fun _ => k113_) (Nat.zero_le _) rfl rfl rfl (sf_X2_addStep_x_x M105_ o107_ q112_ (-1) k113_ (zr_wide (show (-1) ≤ Int32.toInt (-1) ∧ Int32.toInt (-1) ≤ (-1) from (by decide)) (by decide) (by decide)) d) (fun M116_ o118_ g119_ => ?_)
        have f120_ : pvFr fp_X5_readOne_6_1 M M116_ := pvfr_t g119_ f109_ fp_X5_readOne_6_1_fp_X2_addStep_x_x
        refine pw_blk hT 1 (S' := (86, [some (pvR 6), some (pvI 1), some (pvI (1 + 1)), some (pvI x104_)], [pvI x104_], M116_)) rfl ⟨trivial, trivial⟩ ?_
        have e121_ : (M116_.1 6 2) = (M105_.1 6 2) := (g119_ 6 2 rfl)
        have b122_ : (-1) ≤ Int32.toInt (M116_.1 6 2) ∧ Int32.toInt (M116_.1 6 2) ≤ 100 := pvok_r o118_ 6 2 rfl
        have d123_ : Int32.toInt (M116_.1 6 2) = Int32.toInt (M105_.1 6 2) := congrArg Int32.toInt e121_
        have e124_ : (M116_.1 6 3) = (M105_.1 6 3) := (g119_ 6 3 rfl)
        have b125_ : (-1) ≤ Int32.toInt (M116_.1 6 3) ∧ Int32.toInt (M116_.1 6 3) ≤ 127 := pvok_r o118_ 6 3 rfl
        have d126_ : Int32.toInt (M116_.1 6 3) = Int32.toInt (M105_.1 6 3) := congrArg Int32.toInt e124_
        exact pw_ret hT rfl (r := some (pvI x104_)) (M' := M116_) ⟨pv01 b106_, rfl, rfl⟩ ⟨⟨_, rfl, b106_⟩, o118_, f120_, (by omega)⟩
      · have b127_ : 1 ≤ Int32.toInt x93_ ∧ Int32.toInt x93_ ≤ 1 := (by have u0 := b95_; have u1 := (not_congr (zi_eq _ _)).mp c99_; have u2 := (show 0 ≤ Int32.toInt 0 ∧ Int32.toInt 0 ≤ 0 from (by decide)); omega)
        refine pw_blk hT 4 (S' := (40, [some (pvR 6), some (pvI 1), some (pvI (1 + 1)), none], [pvI ((1 + 1) + 1), pvR 6], M94_)) rfl ⟨trivial, trivial, trivial, trivial, trivial⟩ ?_
        have u128_ : Int32.toInt ((1 + 1) + 1) = 3 := by decide
        have b129_ : (-1) ≤ Int32.toInt (M94_.1 6 2) ∧ Int32.toInt (M94_.1 6 2) ≤ 100 := pvok_r o96_ 6 2 rfl
        have b130_ : (-1) ≤ Int32.toInt (M94_.1 6 3) ∧ Int32.toInt (M94_.1 6 3) ≤ 127 := pvok_r o96_ 6 3 rfl
        refine pw_callGd hT (as := [pvR 6, pvI ((1 + 1) + 1)]) (lo1 := [some (pvR 6), some (pvI ((1 + 1) + 1)), none]) (d1 := (d - 1)) (rest := []) rfl rfl rfl rfl rfl (fun _ => rfl) (show 1 ≤ d by omega) rfl rfl rfl (sf_X5_readAny_6_3 M94_ o96_ (show (Int32.toInt (M94_.1 6 3) ≤ -1 ∨ Int32.toInt (M94_.1 6 2) ≤ 99) from (by omega)) (d - 1) (by omega)) (fun x132_ M133_ b134_ o135_ g136_ d131_ => ?_)
        have f137_ : pvFr fp_X5_readOne_6_1 M M133_ := pvfr_t g136_ f98_ fp_X5_readOne_6_1_fp_X5_readAny_6_3
        refine pw_if hT (c := x132_ = 0) rfl rfl (fun c138_ => ?_) (fun c138_ => ?_)
        · have b139_ : 0 ≤ Int32.toInt x132_ ∧ Int32.toInt x132_ ≤ 0 := (by have u0 := b134_; have u1 := (zi_eq _ _).mp c138_; have u2 := (show 0 ≤ Int32.toInt 0 ∧ Int32.toInt 0 ≤ 0 from (by decide)); omega)
          refine pw_blk hT 9 (S' := (74, [some (pvR 6), some (pvI 1), some (pvI (1 + 1)), some (pvI 0)], [pvI 1, pvI (((1 + 1) - 1) - ((1 + 1) - 1) / 2 * 2)], M133_)) rfl ⟨trivial, trivial, trivial, trivial, trivial, trivial, trivial, (by decide), trivial, trivial⟩ ?_
          refine pw_icn hT (c := (((1 + 1) - 1) - ((1 + 1) - 1) / 2 * 2) = 1) rfl rfl (fun c140_ => absurd (by decide) c140_) (fun c140_ => ?_)
          have b141_ : 15 ≤ Int32.toInt (M133_.1 6 4) ∧ Int32.toInt (M133_.1 6 4) ≤ 23 := pvok_r o135_ 6 4 rfl
          refine pw_blkr hT 2 (pc := 81) (lo := [some (pvR 6), some (pvI 1), some (pvI (1 + 1)), some (pvI 0)]) (st := []) (M := M133_) (z := (pvhp (M133_.1 6 4))) rfl ⟨trivial, rfl, trivial⟩ (fun q142_ e144_ => ?_)
          have k143_ : pvkl q142_ = 2 := pvhp_k b141_ e144_
          refine pw_blk hT 1 (S' := (82, [some (pvR 6), some (pvI 1), some (pvI (1 + 1)), some (pvI 0)], [pvI (-1), pvR q142_], M133_)) rfl ⟨trivial, trivial⟩ ?_
          refine pw_callV hT (as := [pvR q142_, pvI (-1)]) (lo1 := [some (pvR q142_), some (pvI (-1))]) (d1 := d) (rest := []) rfl rfl rfl rfl rfl (fun _ => k143_) (Nat.zero_le _) rfl rfl rfl (sf_X2_addStep_x_x M133_ o135_ q142_ (-1) k143_ (zr_wide (show (-1) ≤ Int32.toInt (-1) ∧ Int32.toInt (-1) ≤ (-1) from (by decide)) (by decide) (by decide)) d) (fun M146_ o148_ g149_ => ?_)
          have f150_ : pvFr fp_X5_readOne_6_1 M M146_ := pvfr_t g149_ f137_ fp_X5_readOne_6_1_fp_X2_addStep_x_x
          refine pw_blk hT 1 (S' := (86, [some (pvR 6), some (pvI 1), some (pvI (1 + 1)), some (pvI 0)], [pvI 0], M146_)) rfl ⟨trivial, trivial⟩ ?_
          have e151_ : (M146_.1 6 2) = (M133_.1 6 2) := (g149_ 6 2 rfl)
          have b152_ : (-1) ≤ Int32.toInt (M146_.1 6 2) ∧ Int32.toInt (M146_.1 6 2) ≤ 100 := pvok_r o148_ 6 2 rfl
          have d153_ : Int32.toInt (M146_.1 6 2) = Int32.toInt (M133_.1 6 2) := congrArg Int32.toInt e151_
          have e154_ : (M146_.1 6 3) = (M133_.1 6 3) := (g149_ 6 3 rfl)
          have b155_ : (-1) ≤ Int32.toInt (M146_.1 6 3) ∧ Int32.toInt (M146_.1 6 3) ≤ 127 := pvok_r o148_ 6 3 rfl
          have d156_ : Int32.toInt (M146_.1 6 3) = Int32.toInt (M133_.1 6 3) := congrArg Int32.toInt e154_
          exact pw_ret hT rfl (r := some (pvI 0)) (M' := M146_) ⟨Or.inl rfl, rfl, rfl⟩ ⟨⟨_, rfl, (zr_wide (show 0 ≤ Int32.toInt 0 ∧ Int32.toInt 0 ≤ 0 from (by decide)) (by decide) (by decide))⟩, o148_, f150_, (by omega)⟩
        · have b157_ : 1 ≤ Int32.toInt x132_ ∧ Int32.toInt x132_ ≤ 1 := (by have u0 := b134_; have u1 := (not_congr (zi_eq _ _)).mp c138_; have u2 := (show 0 ≤ Int32.toInt 0 ∧ Int32.toInt 0 ≤ 0 from (by decide)); omega)
          refine pw_blk hT 2 (S' := (49, [some (pvR 6), some (pvI 1), some (pvI (1 + 1)), none], [pvI 41, pvR 6], M133_)) rfl ⟨trivial, trivial, trivial⟩ ?_
          have u158_ : Int32.toInt 41 = 41 := by decide
          have b159_ : (-1) ≤ Int32.toInt (M133_.1 6 2) ∧ Int32.toInt (M133_.1 6 2) ≤ 100 := pvok_r o135_ 6 2 rfl
          have b160_ : (-1) ≤ Int32.toInt (M133_.1 6 3) ∧ Int32.toInt (M133_.1 6 3) ≤ 127 := pvok_r o135_ 6 3 rfl
          refine pw_callGd hT (as := [pvR 6, pvI 41]) (lo1 := [some (pvR 6), some (pvI 41)]) (d1 := d) (rest := []) rfl rfl rfl rfl rfl (fun _ => rfl) (Nat.zero_le _) rfl rfl rfl (sf_X5_readSign_6_x M133_ o135_ 41 (zr_wide (show 41 ≤ Int32.toInt 41 ∧ Int32.toInt 41 ≤ 41 from (by decide)) (by decide) (by decide)) (show (Int32.toInt (M133_.1 6 3) ≤ -1 ∨ Int32.toInt (M133_.1 6 2) ≤ 99) from (by omega)) d) (fun x162_ M163_ b164_ o165_ g166_ d161_ => ?_)
          have f167_ : pvFr fp_X5_readOne_6_1 M M163_ := pvfr_t g166_ f137_ fp_X5_readOne_6_1_fp_X5_readSign_6_x
          refine pw_if hT (c := x162_ = 0) rfl rfl (fun c168_ => ?_) (fun c168_ => ?_)
          · have b169_ : 0 ≤ Int32.toInt x162_ ∧ Int32.toInt x162_ ≤ 0 := (by have u0 := b164_; have u1 := (zi_eq _ _).mp c168_; have u2 := (show 0 ≤ Int32.toInt 0 ∧ Int32.toInt 0 ≤ 0 from (by decide)); omega)
            refine pw_blk hT 9 (S' := (74, [some (pvR 6), some (pvI 1), some (pvI (1 + 1)), some (pvI 0)], [pvI 1, pvI (((1 + 1) - 1) - ((1 + 1) - 1) / 2 * 2)], M163_)) rfl ⟨trivial, trivial, trivial, trivial, trivial, trivial, trivial, (by decide), trivial, trivial⟩ ?_
            refine pw_icn hT (c := (((1 + 1) - 1) - ((1 + 1) - 1) / 2 * 2) = 1) rfl rfl (fun c170_ => absurd (by decide) c170_) (fun c170_ => ?_)
            have b171_ : 15 ≤ Int32.toInt (M163_.1 6 4) ∧ Int32.toInt (M163_.1 6 4) ≤ 23 := pvok_r o165_ 6 4 rfl
            refine pw_blkr hT 2 (pc := 81) (lo := [some (pvR 6), some (pvI 1), some (pvI (1 + 1)), some (pvI 0)]) (st := []) (M := M163_) (z := (pvhp (M163_.1 6 4))) rfl ⟨trivial, rfl, trivial⟩ (fun q172_ e174_ => ?_)
            have k173_ : pvkl q172_ = 2 := pvhp_k b171_ e174_
            refine pw_blk hT 1 (S' := (82, [some (pvR 6), some (pvI 1), some (pvI (1 + 1)), some (pvI 0)], [pvI (-1), pvR q172_], M163_)) rfl ⟨trivial, trivial⟩ ?_
            refine pw_callV hT (as := [pvR q172_, pvI (-1)]) (lo1 := [some (pvR q172_), some (pvI (-1))]) (d1 := d) (rest := []) rfl rfl rfl rfl rfl (fun _ => k173_) (Nat.zero_le _) rfl rfl rfl (sf_X2_addStep_x_x M163_ o165_ q172_ (-1) k173_ (zr_wide (show (-1) ≤ Int32.toInt (-1) ∧ Int32.toInt (-1) ≤ (-1) from (by decide)) (by decide) (by decide)) d) (fun M176_ o178_ g179_ => ?_)
            have f180_ : pvFr fp_X5_readOne_6_1 M M176_ := pvfr_t g179_ f167_ fp_X5_readOne_6_1_fp_X2_addStep_x_x
            refine pw_blk hT 1 (S' := (86, [some (pvR 6), some (pvI 1), some (pvI (1 + 1)), some (pvI 0)], [pvI 0], M176_)) rfl ⟨trivial, trivial⟩ ?_
            have e181_ : (M176_.1 6 2) = (M163_.1 6 2) := (g179_ 6 2 rfl)
            have b182_ : (-1) ≤ Int32.toInt (M176_.1 6 2) ∧ Int32.toInt (M176_.1 6 2) ≤ 100 := pvok_r o178_ 6 2 rfl
            have d183_ : Int32.toInt (M176_.1 6 2) = Int32.toInt (M163_.1 6 2) := congrArg Int32.toInt e181_
            have e184_ : (M176_.1 6 3) = (M163_.1 6 3) := (g179_ 6 3 rfl)
            have b185_ : (-1) ≤ Int32.toInt (M176_.1 6 3) ∧ Int32.toInt (M176_.1 6 3) ≤ 127 := pvok_r o178_ 6 3 rfl
            have d186_ : Int32.toInt (M176_.1 6 3) = Int32.toInt (M163_.1 6 3) := congrArg Int32.toInt e184_
            exact pw_ret hT rfl (r := some (pvI 0)) (M' := M176_) ⟨Or.inl rfl, rfl, rfl⟩ ⟨⟨_, rfl, (zr_wide (show 0 ≤ Int32.toInt 0 ∧ Int32.toInt 0 ≤ 0 from (by decide)) (by decide) (by decide))⟩, o178_, f180_, (by omega)⟩
          · have b187_ : 1 ≤ Int32.toInt x162_ ∧ Int32.toInt x162_ ≤ 1 := (by have u0 := b164_; have u1 := (not_congr (zi_eq _ _)).mp c168_; have u2 := (show 0 ≤ Int32.toInt 0 ∧ Int32.toInt 0 ≤ 0 from (by decide)); omega)
            refine pw_blk hT 9 (S' := (74, [some (pvR 6), some (pvI 1), some (pvI (1 + 1)), some (pvI 1)], [pvI 1, pvI (((1 + 1) - 1) - ((1 + 1) - 1) / 2 * 2)], M163_)) rfl ⟨trivial, trivial, trivial, trivial, trivial, trivial, trivial, (by decide), trivial, trivial⟩ ?_
            refine pw_icn hT (c := (((1 + 1) - 1) - ((1 + 1) - 1) / 2 * 2) = 1) rfl rfl (fun c188_ => absurd (by decide) c188_) (fun c188_ => ?_)
            have b189_ : 15 ≤ Int32.toInt (M163_.1 6 4) ∧ Int32.toInt (M163_.1 6 4) ≤ 23 := pvok_r o165_ 6 4 rfl
            refine pw_blkr hT 2 (pc := 81) (lo := [some (pvR 6), some (pvI 1), some (pvI (1 + 1)), some (pvI 1)]) (st := []) (M := M163_) (z := (pvhp (M163_.1 6 4))) rfl ⟨trivial, rfl, trivial⟩ (fun q190_ e192_ => ?_)
            have k191_ : pvkl q190_ = 2 := pvhp_k b189_ e192_
            refine pw_blk hT 1 (S' := (82, [some (pvR 6), some (pvI 1), some (pvI (1 + 1)), some (pvI 1)], [pvI (-1), pvR q190_], M163_)) rfl ⟨trivial, trivial⟩ ?_
            refine pw_callV hT (as := [pvR q190_, pvI (-1)]) (lo1 := [some (pvR q190_), some (pvI (-1))]) (d1 := d) (rest := []) rfl rfl rfl rfl rfl (fun _ => k191_) (Nat.zero_le _) rfl rfl rfl (sf_X2_addStep_x_x M163_ o165_ q190_ (-1) k191_ (zr_wide (show (-1) ≤ Int32.toInt (-1) ∧ Int32.toInt (-1) ≤ (-1) from (by decide)) (by decide) (by decide)) d) (fun M194_ o196_ g197_ => ?_)
            have f198_ : pvFr fp_X5_readOne_6_1 M M194_ := pvfr_t g197_ f167_ fp_X5_readOne_6_1_fp_X2_addStep_x_x
            refine pw_blk hT 1 (S' := (86, [some (pvR 6), some (pvI 1), some (pvI (1 + 1)), some (pvI 1)], [pvI 1], M194_)) rfl ⟨trivial, trivial⟩ ?_
            have e199_ : (M194_.1 6 2) = (M163_.1 6 2) := (g197_ 6 2 rfl)
            have b200_ : (-1) ≤ Int32.toInt (M194_.1 6 2) ∧ Int32.toInt (M194_.1 6 2) ≤ 100 := pvok_r o196_ 6 2 rfl
            have d201_ : Int32.toInt (M194_.1 6 2) = Int32.toInt (M163_.1 6 2) := congrArg Int32.toInt e199_
            have e202_ : (M194_.1 6 3) = (M163_.1 6 3) := (g197_ 6 3 rfl)
            have b203_ : (-1) ≤ Int32.toInt (M194_.1 6 3) ∧ Int32.toInt (M194_.1 6 3) ≤ 127 := pvok_r o196_ 6 3 rfl
            have d204_ : Int32.toInt (M194_.1 6 3) = Int32.toInt (M163_.1 6 3) := congrArg Int32.toInt e202_
            exact pw_ret hT rfl (r := some (pvI 1)) (M' := M194_) ⟨Or.inr rfl, rfl, rfl⟩ ⟨⟨_, rfl, (zr_wide (show 1 ≤ Int32.toInt 1 ∧ Int32.toInt 1 ≤ 1 from (by decide)) (by decide) (by decide))⟩, o196_, f198_, (by omega)⟩
    · have b205_ : 1 ≤ Int32.toInt x80_ ∧ Int32.toInt x80_ ≤ 1 := (by have u0 := b82_; have u1 := (not_congr (zi_eq _ _)).mp c86_; have u2 := (show 0 ≤ Int32.toInt 0 ∧ Int32.toInt 0 ≤ 0 from (by decide)); omega)
      refine pw_blk hT 2 (S' := (2, [some (pvR 6), some (pvI 1), some (pvI ((1 + 1) + 1)), none], [], M81_)) rfl ⟨trivial, trivial, trivial⟩ ?_
      refine pw_blk hT 2 (S' := (4, [some (pvR 6), some (pvI 1), some (pvI ((1 + 1) + 1)), none], [pvI 4, pvI ((1 + 1) + 1)], M81_)) rfl ⟨trivial, trivial, trivial⟩ ?_
      refine pw_ic hT (c := 4 ≤ ((1 + 1) + 1)) rfl rfl (fun c206_ => absurd c206_ (by decide)) (fun c206_ => ?_)
      refine pw_blk hT 2 (S' := (10, [some (pvR 6), some (pvI 1), some (pvI ((1 + 1) + 1)), none], [pvI 33, pvR 6], M81_)) rfl ⟨trivial, trivial, trivial⟩ ?_
      have b207_ : (-1) ≤ Int32.toInt (M81_.1 6 2) ∧ Int32.toInt (M81_.1 6 2) ≤ 100 := pvok_r o83_ 6 2 rfl
      have b208_ : (-1) ≤ Int32.toInt (M81_.1 6 3) ∧ Int32.toInt (M81_.1 6 3) ≤ 127 := pvok_r o83_ 6 3 rfl
      refine pw_callGd hT (as := [pvR 6, pvI 33]) (lo1 := [some (pvR 6), some (pvI 33)]) (d1 := d) (rest := []) rfl rfl rfl rfl rfl (fun _ => rfl) (Nat.zero_le _) rfl rfl rfl (sf_X5_readSign_6_x M81_ o83_ 33 (zr_wide (show 33 ≤ Int32.toInt 33 ∧ Int32.toInt 33 ≤ 33 from (by decide)) (by decide) (by decide)) (show (Int32.toInt (M81_.1 6 3) ≤ -1 ∨ Int32.toInt (M81_.1 6 2) ≤ 99) from (by omega)) d) (fun x210_ M211_ b212_ o213_ g214_ d209_ => ?_)
      have f215_ : pvFr fp_X5_readOne_6_1 M M211_ := pvfr_t g214_ f85_ fp_X5_readOne_6_1_fp_X5_readSign_6_x
      refine pw_if hT (c := x210_ = 0) rfl rfl (fun c216_ => ?_) (fun c216_ => ?_)
      · have b217_ : 0 ≤ Int32.toInt x210_ ∧ Int32.toInt x210_ ≤ 0 := (by have u0 := b212_; have u1 := (zi_eq _ _).mp c216_; have u2 := (show 0 ≤ Int32.toInt 0 ∧ Int32.toInt 0 ≤ 0 from (by decide)); omega)
        refine pw_blk hT 2 (S' := (24, [some (pvR 6), some (pvI 1), some (pvI ((1 + 1) + 1)), none], [pvI 4, pvI ((1 + 1) + 1)], M211_)) rfl ⟨trivial, trivial, trivial⟩ ?_
        refine pw_ic hT (c := 4 ≤ ((1 + 1) + 1)) rfl rfl (fun c218_ => absurd c218_ (by decide)) (fun c218_ => ?_)
        refine pw_blk hT 2 (S' := (30, [some (pvR 6), some (pvI 1), some (pvI ((1 + 1) + 1)), none], [pvI 40, pvR 6], M211_)) rfl ⟨trivial, trivial, trivial⟩ ?_
        have u219_ : Int32.toInt 40 = 40 := by decide
        have b220_ : (-1) ≤ Int32.toInt (M211_.1 6 2) ∧ Int32.toInt (M211_.1 6 2) ≤ 100 := pvok_r o213_ 6 2 rfl
        have b221_ : (-1) ≤ Int32.toInt (M211_.1 6 3) ∧ Int32.toInt (M211_.1 6 3) ≤ 127 := pvok_r o213_ 6 3 rfl
        refine pw_callGd hT (as := [pvR 6, pvI 40]) (lo1 := [some (pvR 6), some (pvI 40)]) (d1 := d) (rest := []) rfl rfl rfl rfl rfl (fun _ => rfl) (Nat.zero_le _) rfl rfl rfl (sf_X5_readSign_6_x M211_ o213_ 40 (zr_wide (show 40 ≤ Int32.toInt 40 ∧ Int32.toInt 40 ≤ 40 from (by decide)) (by decide) (by decide)) (show (Int32.toInt (M211_.1 6 3) ≤ -1 ∨ Int32.toInt (M211_.1 6 2) ≤ 99) from (by omega)) d) (fun x223_ M224_ b225_ o226_ g227_ d222_ => ?_)
        have f228_ : pvFr fp_X5_readOne_6_1 M M224_ := pvfr_t g227_ f215_ fp_X5_readOne_6_1_fp_X5_readSign_6_x
        refine pw_if hT (c := x223_ = 0) rfl rfl (fun c229_ => ?_) (fun c229_ => ?_)
        · have b230_ : 0 ≤ Int32.toInt x223_ ∧ Int32.toInt x223_ ≤ 0 := (by have u0 := b225_; have u1 := (zi_eq _ _).mp c229_; have u2 := (show 0 ≤ Int32.toInt 0 ∧ Int32.toInt 0 ≤ 0 from (by decide)); omega)
          refine pw_blk hT 1 (S' := (64, [some (pvR 6), some (pvI 1), some (pvI ((1 + 1) + 1)), none], [pvR 6], M224_)) rfl ⟨trivial, trivial⟩ ?_
          have b231_ : (-1) ≤ Int32.toInt (M224_.1 6 2) ∧ Int32.toInt (M224_.1 6 2) ≤ 100 := pvok_r o226_ 6 2 rfl
          have b232_ : (-1) ≤ Int32.toInt (M224_.1 6 3) ∧ Int32.toInt (M224_.1 6 3) ≤ 127 := pvok_r o226_ 6 3 rfl
          refine pw_callGd hT (as := [pvR 6]) (lo1 := [some (pvR 6), none, none, none]) (d1 := d) (rest := []) rfl rfl rfl rfl rfl (fun _ => rfl) (Nat.zero_le _) rfl rfl rfl (sf_X5_readTest_6 M224_ o226_ (show (Int32.toInt (M224_.1 6 3) ≤ -1 ∨ Int32.toInt (M224_.1 6 2) ≤ 99) from (by omega)) d) (fun x234_ M235_ b236_ o237_ g238_ d233_ => ?_)
          have f239_ : pvFr fp_X5_readOne_6_1 M M235_ := pvfr_t g238_ f228_ fp_X5_readOne_6_1_fp_X5_readTest_6
          refine pw_blk hT 7 (S' := (74, [some (pvR 6), some (pvI 1), some (pvI ((1 + 1) + 1)), some (pvI x234_)], [pvI 1, pvI ((((1 + 1) + 1) - 1) - (((1 + 1) + 1) - 1) / 2 * 2)], M235_)) rfl ⟨trivial, trivial, trivial, trivial, trivial, (by decide), trivial, trivial⟩ ?_
          refine pw_icn hT (c := ((((1 + 1) + 1) - 1) - (((1 + 1) + 1) - 1) / 2 * 2) = 1) rfl rfl (fun c240_ => ?_) (fun c240_ => absurd c240_ (by decide))
          refine pw_blk hT 1 (S' := (86, [some (pvR 6), some (pvI 1), some (pvI ((1 + 1) + 1)), some (pvI x234_)], [pvI x234_], M235_)) rfl ⟨trivial, trivial⟩ ?_
          have b241_ : (-1) ≤ Int32.toInt (M235_.1 6 2) ∧ Int32.toInt (M235_.1 6 2) ≤ 100 := pvok_r o237_ 6 2 rfl
          have b242_ : (-1) ≤ Int32.toInt (M235_.1 6 3) ∧ Int32.toInt (M235_.1 6 3) ≤ 127 := pvok_r o237_ 6 3 rfl
          exact pw_ret hT rfl (r := some (pvI x234_)) (M' := M235_) ⟨pv01 b236_, rfl, rfl⟩ ⟨⟨_, rfl, b236_⟩, o237_, f239_, (by omega)⟩
        · have b243_ : 1 ≤ Int32.toInt x223_ ∧ Int32.toInt x223_ ≤ 1 := (by have u0 := b225_; have u1 := (not_congr (zi_eq _ _)).mp c229_; have u2 := (show 0 ≤ Int32.toInt 0 ∧ Int32.toInt 0 ≤ 0 from (by decide)); omega)
          refine pw_blk hT 4 (S' := (40, [some (pvR 6), some (pvI 1), some (pvI ((1 + 1) + 1)), none], [pvI (((1 + 1) + 1) + 1), pvR 6], M224_)) rfl ⟨trivial, trivial, trivial, trivial, trivial⟩ ?_
          have u244_ : Int32.toInt (((1 + 1) + 1) + 1) = 4 := by decide
          have b245_ : (-1) ≤ Int32.toInt (M224_.1 6 2) ∧ Int32.toInt (M224_.1 6 2) ≤ 100 := pvok_r o226_ 6 2 rfl
          have b246_ : (-1) ≤ Int32.toInt (M224_.1 6 3) ∧ Int32.toInt (M224_.1 6 3) ≤ 127 := pvok_r o226_ 6 3 rfl
          refine pw_callGd hT (as := [pvR 6, pvI (((1 + 1) + 1) + 1)]) (lo1 := [some (pvR 6), some (pvI (((1 + 1) + 1) + 1)), none]) (d1 := (d - 1)) (rest := []) rfl rfl rfl rfl rfl (fun _ => rfl) (show 1 ≤ d by omega) rfl rfl rfl (sf_X5_readAny_6_4 M224_ o226_ (show (Int32.toInt (M224_.1 6 3) ≤ -1 ∨ Int32.toInt (M224_.1 6 2) ≤ 99) from (by omega)) (d - 1)) (fun x248_ M249_ b250_ o251_ g252_ d247_ => ?_)
          have f253_ : pvFr fp_X5_readOne_6_1 M M249_ := pvfr_t g252_ f228_ fp_X5_readOne_6_1_fp_X5_readAny_6_4
          refine pw_if hT (c := x248_ = 0) rfl rfl (fun c254_ => ?_) (fun c254_ => ?_)
          · have b255_ : 0 ≤ Int32.toInt x248_ ∧ Int32.toInt x248_ ≤ 0 := (by have u0 := b250_; have u1 := (zi_eq _ _).mp c254_; have u2 := (show 0 ≤ Int32.toInt 0 ∧ Int32.toInt 0 ≤ 0 from (by decide)); omega)
            refine pw_blk hT 9 (S' := (74, [some (pvR 6), some (pvI 1), some (pvI ((1 + 1) + 1)), some (pvI 0)], [pvI 1, pvI ((((1 + 1) + 1) - 1) - (((1 + 1) + 1) - 1) / 2 * 2)], M249_)) rfl ⟨trivial, trivial, trivial, trivial, trivial, trivial, trivial, (by decide), trivial, trivial⟩ ?_
            refine pw_icn hT (c := ((((1 + 1) + 1) - 1) - (((1 + 1) + 1) - 1) / 2 * 2) = 1) rfl rfl (fun c256_ => ?_) (fun c256_ => absurd c256_ (by decide))
            refine pw_blk hT 1 (S' := (86, [some (pvR 6), some (pvI 1), some (pvI ((1 + 1) + 1)), some (pvI 0)], [pvI 0], M249_)) rfl ⟨trivial, trivial⟩ ?_
            have b257_ : (-1) ≤ Int32.toInt (M249_.1 6 2) ∧ Int32.toInt (M249_.1 6 2) ≤ 100 := pvok_r o251_ 6 2 rfl
            have b258_ : (-1) ≤ Int32.toInt (M249_.1 6 3) ∧ Int32.toInt (M249_.1 6 3) ≤ 127 := pvok_r o251_ 6 3 rfl
            exact pw_ret hT rfl (r := some (pvI 0)) (M' := M249_) ⟨Or.inl rfl, rfl, rfl⟩ ⟨⟨_, rfl, (zr_wide (show 0 ≤ Int32.toInt 0 ∧ Int32.toInt 0 ≤ 0 from (by decide)) (by decide) (by decide))⟩, o251_, f253_, (by omega)⟩
          · have b259_ : 1 ≤ Int32.toInt x248_ ∧ Int32.toInt x248_ ≤ 1 := (by have u0 := b250_; have u1 := (not_congr (zi_eq _ _)).mp c254_; have u2 := (show 0 ≤ Int32.toInt 0 ∧ Int32.toInt 0 ≤ 0 from (by decide)); omega)
            refine pw_blk hT 2 (S' := (49, [some (pvR 6), some (pvI 1), some (pvI ((1 + 1) + 1)), none], [pvI 41, pvR 6], M249_)) rfl ⟨trivial, trivial, trivial⟩ ?_
            have u260_ : Int32.toInt 41 = 41 := by decide
            have b261_ : (-1) ≤ Int32.toInt (M249_.1 6 2) ∧ Int32.toInt (M249_.1 6 2) ≤ 100 := pvok_r o251_ 6 2 rfl
            have b262_ : (-1) ≤ Int32.toInt (M249_.1 6 3) ∧ Int32.toInt (M249_.1 6 3) ≤ 127 := pvok_r o251_ 6 3 rfl
            refine pw_callGd hT (as := [pvR 6, pvI 41]) (lo1 := [some (pvR 6), some (pvI 41)]) (d1 := d) (rest := []) rfl rfl rfl rfl rfl (fun _ => rfl) (Nat.zero_le _) rfl rfl rfl (sf_X5_readSign_6_x M249_ o251_ 41 (zr_wide (show 41 ≤ Int32.toInt 41 ∧ Int32.toInt 41 ≤ 41 from (by decide)) (by decide) (by decide)) (show (Int32.toInt (M249_.1 6 3) ≤ -1 ∨ Int32.toInt (M249_.1 6 2) ≤ 99) from (by omega)) d) (fun x264_ M265_ b266_ o267_ g268_ d263_ => ?_)
            have f269_ : pvFr fp_X5_readOne_6_1 M M265_ := pvfr_t g268_ f253_ fp_X5_readOne_6_1_fp_X5_readSign_6_x
            refine pw_if hT (c := x264_ = 0) rfl rfl (fun c270_ => ?_) (fun c270_ => ?_)
            · have b271_ : 0 ≤ Int32.toInt x264_ ∧ Int32.toInt x264_ ≤ 0 := (by have u0 := b266_; have u1 := (zi_eq _ _).mp c270_; have u2 := (show 0 ≤ Int32.toInt 0 ∧ Int32.toInt 0 ≤ 0 from (by decide)); omega)
              refine pw_blk hT 9 (S' := (74, [some (pvR 6), some (pvI 1), some (pvI ((1 + 1) + 1)), some (pvI 0)], [pvI 1, pvI ((((1 + 1) + 1) - 1) - (((1 + 1) + 1) - 1) / 2 * 2)], M265_)) rfl ⟨trivial, trivial, trivial, trivial, trivial, trivial, trivial, (by decide), trivial, trivial⟩ ?_
              refine pw_icn hT (c := ((((1 + 1) + 1) - 1) - (((1 + 1) + 1) - 1) / 2 * 2) = 1) rfl rfl (fun c272_ => ?_) (fun c272_ => absurd c272_ (by decide))
              refine pw_blk hT 1 (S' := (86, [some (pvR 6), some (pvI 1), some (pvI ((1 + 1) + 1)), some (pvI 0)], [pvI 0], M265_)) rfl ⟨trivial, trivial⟩ ?_
              have b273_ : (-1) ≤ Int32.toInt (M265_.1 6 2) ∧ Int32.toInt (M265_.1 6 2) ≤ 100 := pvok_r o267_ 6 2 rfl
              have b274_ : (-1) ≤ Int32.toInt (M265_.1 6 3) ∧ Int32.toInt (M265_.1 6 3) ≤ 127 := pvok_r o267_ 6 3 rfl
              exact pw_ret hT rfl (r := some (pvI 0)) (M' := M265_) ⟨Or.inl rfl, rfl, rfl⟩ ⟨⟨_, rfl, (zr_wide (show 0 ≤ Int32.toInt 0 ∧ Int32.toInt 0 ≤ 0 from (by decide)) (by decide) (by decide))⟩, o267_, f269_, (by omega)⟩
            · have b275_ : 1 ≤ Int32.toInt x264_ ∧ Int32.toInt x264_ ≤ 1 := (by have u0 := b266_; have u1 := (not_congr (zi_eq _ _)).mp c270_; have u2 := (show 0 ≤ Int32.toInt 0 ∧ Int32.toInt 0 ≤ 0 from (by decide)); omega)
              refine pw_blk hT 9 (S' := (74, [some (pvR 6), some (pvI 1), some (pvI ((1 + 1) + 1)), some (pvI 1)], [pvI 1, pvI ((((1 + 1) + 1) - 1) - (((1 + 1) + 1) - 1) / 2 * 2)], M265_)) rfl ⟨trivial, trivial, trivial, trivial, trivial, trivial, trivial, (by decide), trivial, trivial⟩ ?_
              refine pw_icn hT (c := ((((1 + 1) + 1) - 1) - (((1 + 1) + 1) - 1) / 2 * 2) = 1) rfl rfl (fun c276_ => ?_) (fun c276_ => absurd c276_ (by decide))
              refine pw_blk hT 1 (S' := (86, [some (pvR 6), some (pvI 1), some (pvI ((1 + 1) + 1)), some (pvI 1)], [pvI 1], M265_)) rfl ⟨trivial, trivial⟩ ?_
              have b277_ : (-1) ≤ Int32.toInt (M265_.1 6 2) ∧ Int32.toInt (M265_.1 6 2) ≤ 100 := pvok_r o267_ 6 2 rfl
              have b278_ : (-1) ≤ Int32.toInt (M265_.1 6 3) ∧ Int32.toInt (M265_.1 6 3) ≤ 127 := pvok_r o267_ 6 3 rfl
              exact pw_ret hT rfl (r := some (pvI 1)) (M' := M265_) ⟨Or.inr rfl, rfl, rfl⟩ ⟨⟨_, rfl, (zr_wide (show 1 ≤ Int32.toInt 1 ∧ Int32.toInt 1 ≤ 1 from (by decide)) (by decide) (by decide))⟩, o267_, f269_, (by omega)⟩
      · have b279_ : 1 ≤ Int32.toInt x210_ ∧ Int32.toInt x210_ ≤ 1 := (by have u0 := b212_; have u1 := (not_congr (zi_eq _ _)).mp c216_; have u2 := (show 0 ≤ Int32.toInt 0 ∧ Int32.toInt 0 ≤ 0 from (by decide)); omega)
        refine pw_blk hT 2 (S' := (2, [some (pvR 6), some (pvI 1), some (pvI (((1 + 1) + 1) + 1)), none], [], M211_)) rfl ⟨trivial, trivial, trivial⟩ ?_
        refine pw_blk hT 2 (S' := (4, [some (pvR 6), some (pvI 1), some (pvI (((1 + 1) + 1) + 1)), none], [pvI 4, pvI (((1 + 1) + 1) + 1)], M211_)) rfl ⟨trivial, trivial, trivial⟩ ?_
        refine pw_ic hT (c := 4 ≤ (((1 + 1) + 1) + 1)) rfl rfl (fun c280_ => ?_) (fun c280_ => absurd (by decide) c280_)
        refine pw_blk hT 2 (S' := (24, [some (pvR 6), some (pvI 1), some (pvI (((1 + 1) + 1) + 1)), none], [pvI 4, pvI (((1 + 1) + 1) + 1)], M211_)) rfl ⟨trivial, trivial, trivial⟩ ?_
        refine pw_ic hT (c := 4 ≤ (((1 + 1) + 1) + 1)) rfl rfl (fun c281_ => ?_) (fun c281_ => absurd (by decide) c281_)
        refine pw_blk hT 1 (S' := (64, [some (pvR 6), some (pvI 1), some (pvI (((1 + 1) + 1) + 1)), none], [pvR 6], M211_)) rfl ⟨trivial, trivial⟩ ?_
        have b282_ : (-1) ≤ Int32.toInt (M211_.1 6 2) ∧ Int32.toInt (M211_.1 6 2) ≤ 100 := pvok_r o213_ 6 2 rfl
        have b283_ : (-1) ≤ Int32.toInt (M211_.1 6 3) ∧ Int32.toInt (M211_.1 6 3) ≤ 127 := pvok_r o213_ 6 3 rfl
        refine pw_callGd hT (as := [pvR 6]) (lo1 := [some (pvR 6), none, none, none]) (d1 := d) (rest := []) rfl rfl rfl rfl rfl (fun _ => rfl) (Nat.zero_le _) rfl rfl rfl (sf_X5_readTest_6 M211_ o213_ (show (Int32.toInt (M211_.1 6 3) ≤ -1 ∨ Int32.toInt (M211_.1 6 2) ≤ 99) from (by omega)) d) (fun x285_ M286_ b287_ o288_ g289_ d284_ => ?_)
        have f290_ : pvFr fp_X5_readOne_6_1 M M286_ := pvfr_t g289_ f215_ fp_X5_readOne_6_1_fp_X5_readTest_6
        refine pw_blk hT 7 (S' := (74, [some (pvR 6), some (pvI 1), some (pvI (((1 + 1) + 1) + 1)), some (pvI x285_)], [pvI 1, pvI (((((1 + 1) + 1) + 1) - 1) - ((((1 + 1) + 1) + 1) - 1) / 2 * 2)], M286_)) rfl ⟨trivial, trivial, trivial, trivial, trivial, (by decide), trivial, trivial⟩ ?_
        refine pw_icn hT (c := (((((1 + 1) + 1) + 1) - 1) - ((((1 + 1) + 1) + 1) - 1) / 2 * 2) = 1) rfl rfl (fun c291_ => absurd (by decide) c291_) (fun c291_ => ?_)
        have b292_ : 15 ≤ Int32.toInt (M286_.1 6 4) ∧ Int32.toInt (M286_.1 6 4) ≤ 23 := pvok_r o288_ 6 4 rfl
        refine pw_blkr hT 2 (pc := 81) (lo := [some (pvR 6), some (pvI 1), some (pvI (((1 + 1) + 1) + 1)), some (pvI x285_)]) (st := []) (M := M286_) (z := (pvhp (M286_.1 6 4))) rfl ⟨trivial, rfl, trivial⟩ (fun q293_ e295_ => ?_)
        have k294_ : pvkl q293_ = 2 := pvhp_k b292_ e295_
        refine pw_blk hT 1 (S' := (82, [some (pvR 6), some (pvI 1), some (pvI (((1 + 1) + 1) + 1)), some (pvI x285_)], [pvI (-1), pvR q293_], M286_)) rfl ⟨trivial, trivial⟩ ?_
        refine pw_callV hT (as := [pvR q293_, pvI (-1)]) (lo1 := [some (pvR q293_), some (pvI (-1))]) (d1 := d) (rest := []) rfl rfl rfl rfl rfl (fun _ => k294_) (Nat.zero_le _) rfl rfl rfl (sf_X2_addStep_x_x M286_ o288_ q293_ (-1) k294_ (zr_wide (show (-1) ≤ Int32.toInt (-1) ∧ Int32.toInt (-1) ≤ (-1) from (by decide)) (by decide) (by decide)) d) (fun M297_ o299_ g300_ => ?_)
        have f301_ : pvFr fp_X5_readOne_6_1 M M297_ := pvfr_t g300_ f290_ fp_X5_readOne_6_1_fp_X2_addStep_x_x
        refine pw_blk hT 1 (S' := (86, [some (pvR 6), some (pvI 1), some (pvI (((1 + 1) + 1) + 1)), some (pvI x285_)], [pvI x285_], M297_)) rfl ⟨trivial, trivial⟩ ?_
        have e302_ : (M297_.1 6 2) = (M286_.1 6 2) := (g300_ 6 2 rfl)
        have b303_ : (-1) ≤ Int32.toInt (M297_.1 6 2) ∧ Int32.toInt (M297_.1 6 2) ≤ 100 := pvok_r o299_ 6 2 rfl
        have d304_ : Int32.toInt (M297_.1 6 2) = Int32.toInt (M286_.1 6 2) := congrArg Int32.toInt e302_
        have e305_ : (M297_.1 6 3) = (M286_.1 6 3) := (g300_ 6 3 rfl)
        have b306_ : (-1) ≤ Int32.toInt (M297_.1 6 3) ∧ Int32.toInt (M297_.1 6 3) ≤ 127 := pvok_r o299_ 6 3 rfl
        have d307_ : Int32.toInt (M297_.1 6 3) = Int32.toInt (M286_.1 6 3) := congrArg Int32.toInt e305_
        exact pw_ret hT rfl (r := some (pvI x285_)) (M' := M297_) ⟨pv01 b287_, rfl, rfl⟩ ⟨⟨_, rfl, b287_⟩, o299_, f301_, (by omega)⟩
def fpL_X5_readAll_6_1 : List (Nat × Nat × Nat) := [(0, 6, 3), (0, 6, 4), (1, 111, 0), (1, 2, 6)]
def fp_X5_readAll_6_1 (q k : Nat) : Bool := pvfp fpL_X5_readAll_6_1 q k
theorem fp_X5_readAll_6_1_fp_X2_addStep_x_x (a b : Nat) (h : fp_X2_addStep_x_x a b = true) : fp_X5_readAll_6_1 a b = true := pvfp_sub (l1 := fpL_X2_addStep_x_x) (l2 := fpL_X5_readAll_6_1) (by decide) a b h
theorem fp_X5_readAll_6_1_fp_X5_readOne_6_1 (a b : Nat) (h : fp_X5_readOne_6_1 a b = true) : fp_X5_readAll_6_1 a b = true := pvfp_sub (l1 := fpL_X5_readOne_6_1) (l2 := fpL_X5_readAll_6_1) (by decide) a b h
theorem fp_X5_readAll_6_1_fp_X5_readSign_6_x (a b : Nat) (h : fp_X5_readSign_6_x a b = true) : fp_X5_readAll_6_1 a b = true := pvfp_sub (l1 := fpL_X5_readSign_6_x) (l2 := fpL_X5_readAll_6_1) (by decide) a b h
set_option maxHeartbeats 4000000 in
set_option maxRecDepth 10000 in
theorem sf_X5_readAll_6_1 (M : pvM) (hok : pvOk M) (hx0 : (Int32.toInt (M.1 6 3) ≤ -1 ∨ Int32.toInt (M.1 6 2) ≤ 99)) (d : Nat) (hd : 3 ≤ d) : PW 140 d (0, [some (pvR 6), some (pvI 1), none], [], M) (fun r X => (∃ x : Int32, r = some (pvI x) ∧ 0 ≤ Int32.toInt x ∧ Int32.toInt x ≤ 1) ∧ pvOk X ∧ pvFr fp_X5_readAll_6_1 M X ∧ (Int32.toInt (X.1 6 3) ≤ -1 ∨ Int32.toInt (X.1 6 2) ≤ 99)) := by
  have hT : pvdom 140 = pvD_140 := rfl
  have b1_ : (-1) ≤ Int32.toInt (M.1 6 2) ∧ Int32.toInt (M.1 6 2) ≤ 100 := pvok_r hok 6 2 rfl
  have b2_ : (-1) ≤ Int32.toInt (M.1 6 3) ∧ Int32.toInt (M.1 6 3) ≤ 127 := pvok_r hok 6 3 rfl
  refine pw_blk hT 2 (S' := (2, [some (pvR 6), some (pvI 1), some (pvI 0)], [], M)) rfl ⟨trivial, trivial, trivial⟩ ?_
  have hlz215_ : ∀ (nz215_ : Nat) (i2z215_ : Int32) (Mz215_ : pvM), (pvOk Mz215_) → (pvFr fp_X5_readAll_6_1 M Mz215_) → (0 ≤ Int32.toInt i2z215_ ∧ Int32.toInt i2z215_ ≤ 100) → ((Int32.toInt (Mz215_.1 6 3) ≤ -1 ∨ Int32.toInt (Mz215_.1 6 2) ≤ 99)) → (zhide ((101 - Int32.toInt i2z215_).toNat < nz215_)) → PW 140 d (2, [some (pvR 6), some (pvI 1), some (pvI i2z215_)], [], Mz215_) (fun r X => (∃ x : Int32, r = some (pvI x) ∧ 0 ≤ Int32.toInt x ∧ Int32.toInt x ≤ 1) ∧ pvOk X ∧ pvFr fp_X5_readAll_6_1 M X ∧ (Int32.toInt (X.1 6 3) ≤ -1 ∨ Int32.toInt (X.1 6 2) ≤ 99)) := by
    intro nz215_
    induction nz215_ with
    | zero => intro i2z215_ Mz215_ oz215_ fz215_ h2z215_ j0z215_ hmz215_; exact absurd (zshow hmz215_) (Nat.not_lt_zero _)
    | succ nz215_ ihz215_ =>
      intro i2z215_ Mz215_ oz215_ fz215_ h2z215_ j0z215_ hmz215_
      have b216_ : (-1) ≤ Int32.toInt (Mz215_.1 6 2) ∧ Int32.toInt (Mz215_.1 6 2) ≤ 100 := pvok_r oz215_ 6 2 rfl
      have b217_ : (-1) ≤ Int32.toInt (Mz215_.1 6 3) ∧ Int32.toInt (Mz215_.1 6 3) ≤ 127 := pvok_r oz215_ 6 3 rfl
      refine pw_blk hT 2 (S' := (5, [some (pvR 6), some (pvI 1), some (pvI i2z215_)], [pvI 100, pvI i2z215_], Mz215_)) rfl ⟨trivial, trivial, trivial⟩ ?_
      refine pw_ic hT (c := 100 ≤ i2z215_) rfl rfl (fun c218_ => ?_) (fun c218_ => ?_)
      · have b219_ : 100 ≤ Int32.toInt i2z215_ ∧ Int32.toInt i2z215_ ≤ 100 := zr_le_r 100 c218_ h2z215_ (show 100 ≤ Int32.toInt 100 ∧ Int32.toInt 100 ≤ 100 from (by decide)) (by decide)
        refine pw_blk hT 1 (S' := (49, [some (pvR 6), some (pvI 1), some (pvI i2z215_)], [pvI 0], Mz215_)) rfl ⟨trivial, trivial⟩ ?_
        exact pw_ret hT rfl (r := some (pvI 0)) (M' := Mz215_) ⟨Or.inl rfl, rfl, rfl⟩ ⟨⟨_, rfl, (zr_wide (show 0 ≤ Int32.toInt 0 ∧ Int32.toInt 0 ≤ 0 from (by decide)) (by decide) (by decide))⟩, oz215_, fz215_, (by omega)⟩
      · have b220_ : 0 ≤ Int32.toInt i2z215_ ∧ Int32.toInt i2z215_ ≤ 99 := zr_nle_r 99 c218_ h2z215_ (show 100 ≤ Int32.toInt 100 ∧ Int32.toInt 100 ≤ 100 from (by decide)) (by decide)
        refine pw_blk hT 2 (S' := (10, [some (pvR 6), some (pvI 1), some (pvI i2z215_)], [pvI 1, pvR 6], Mz215_)) rfl ⟨trivial, trivial, trivial⟩ ?_
        have u221_ : Int32.toInt 1 = 1 := by decide
        refine pw_callGd hT (as := [pvR 6, pvI 1]) (lo1 := [some (pvR 6), some (pvI 1), none, none]) (d1 := d) (rest := []) rfl rfl rfl rfl rfl (fun _ => rfl) (Nat.zero_le _) rfl rfl rfl (sf_X5_readOne_6_1 Mz215_ oz215_ (show (Int32.toInt (Mz215_.1 6 3) ≤ -1 ∨ Int32.toInt (Mz215_.1 6 2) ≤ 99) from (by omega)) d (Nat.le_trans (by decide) hd)) (fun x223_ M224_ b225_ o226_ g227_ d222_ => ?_)
        have f228_ : pvFr fp_X5_readAll_6_1 M M224_ := pvfr_t g227_ fz215_ fp_X5_readAll_6_1_fp_X5_readOne_6_1
        refine pw_ifn hT (c := x223_ = 0) rfl rfl (fun c229_ => ?_) (fun c229_ => ?_)
        · have b230_ : 1 ≤ Int32.toInt x223_ ∧ Int32.toInt x223_ ≤ 1 := (by have u0 := b225_; have u1 := (not_congr (zi_eq _ _)).mp c229_; have u2 := (show 0 ≤ Int32.toInt 0 ∧ Int32.toInt 0 ≤ 0 from (by decide)); omega)
          refine pw_blk hT 1 (S' := (19, [some (pvR 6), some (pvI 1), some (pvI i2z215_)], [pvI i2z215_], M224_)) rfl ⟨trivial, trivial⟩ ?_
          refine pw_if hT (c := i2z215_ ≤ 0) rfl rfl (fun c231_ => ?_) (fun c231_ => ?_)
          · have b232_ : 0 ≤ Int32.toInt i2z215_ ∧ Int32.toInt i2z215_ ≤ 0 := zr_le_l 0 c231_ b220_ (show 0 ≤ Int32.toInt 0 ∧ Int32.toInt 0 ≤ 0 from (by decide)) (by decide)
            refine pw_blk hT 2 (S' := (34, [some (pvR 6), some (pvI 1), some (pvI i2z215_)], [pvI 38, pvR 6], M224_)) rfl ⟨trivial, trivial, trivial⟩ ?_
            have u233_ : Int32.toInt 38 = 38 := by decide
            have b234_ : (-1) ≤ Int32.toInt (M224_.1 6 2) ∧ Int32.toInt (M224_.1 6 2) ≤ 100 := pvok_r o226_ 6 2 rfl
            have b235_ : (-1) ≤ Int32.toInt (M224_.1 6 3) ∧ Int32.toInt (M224_.1 6 3) ≤ 127 := pvok_r o226_ 6 3 rfl
            refine pw_callGd hT (as := [pvR 6, pvI 38]) (lo1 := [some (pvR 6), some (pvI 38)]) (d1 := d) (rest := []) rfl rfl rfl rfl rfl (fun _ => rfl) (Nat.zero_le _) rfl rfl rfl (sf_X5_readSign_6_x M224_ o226_ 38 (zr_wide (show 38 ≤ Int32.toInt 38 ∧ Int32.toInt 38 ≤ 38 from (by decide)) (by decide) (by decide)) (show (Int32.toInt (M224_.1 6 3) ≤ -1 ∨ Int32.toInt (M224_.1 6 2) ≤ 99) from (by omega)) d) (fun x237_ M238_ b239_ o240_ g241_ d236_ => ?_)
            have f242_ : pvFr fp_X5_readAll_6_1 M M238_ := pvfr_t g241_ f228_ fp_X5_readAll_6_1_fp_X5_readSign_6_x
            refine pw_ifn hT (c := x237_ = 0) rfl rfl (fun c243_ => ?_) (fun c243_ => ?_)
            · have b244_ : 1 ≤ Int32.toInt x237_ ∧ Int32.toInt x237_ ≤ 1 := (by have u0 := b239_; have u1 := (not_congr (zi_eq _ _)).mp c243_; have u2 := (show 0 ≤ Int32.toInt 0 ∧ Int32.toInt 0 ≤ 0 from (by decide)); omega)
              obtain ⟨q246_, b245_⟩ : (Int32.toInt (i2z215_ + 1) = Int32.toInt i2z215_ + 1) ∧ (1 ≤ Int32.toInt (i2z215_ + 1) ∧ Int32.toInt (i2z215_ + 1) ≤ 1) := zadd_k i2z215_ 1 1 1 1 b232_ (by decide) (by decide) (by decide) (by decide) (by decide)
              refine pw_blk hT 2 (S' := (2, [some (pvR 6), some (pvI 1), some (pvI (i2z215_ + 1))], [], M238_)) rfl ⟨trivial, trivial, trivial⟩ ?_
              have b247_ : (-1) ≤ Int32.toInt (M238_.1 6 2) ∧ Int32.toInt (M238_.1 6 2) ≤ 100 := pvok_r o240_ 6 2 rfl
              have b248_ : (-1) ≤ Int32.toInt (M238_.1 6 3) ∧ Int32.toInt (M238_.1 6 3) ≤ 127 := pvok_r o240_ 6 3 rfl
              have j249_ : (Int32.toInt (M238_.1 6 3) ≤ -1 ∨ Int32.toInt (M238_.1 6 2) ≤ 99) := by omega
              exact ihz215_ (i2z215_ + 1) M238_ o240_ f242_ (zr_wide b245_ (by decide) (by decide)) j249_ (zhid (pvms_up (zshow hmz215_) h2z215_ q246_ (by decide) (by decide)))
            · have b250_ : 0 ≤ Int32.toInt x237_ ∧ Int32.toInt x237_ ≤ 0 := (by have u0 := b239_; have u1 := (zi_eq _ _).mp c243_; have u2 := (show 0 ≤ Int32.toInt 0 ∧ Int32.toInt 0 ≤ 0 from (by decide)); omega)
              refine pw_blk hT 1 (S' := (41, [some (pvR 6), some (pvI 1), some (pvI i2z215_)], [pvI 1], M238_)) rfl ⟨trivial, trivial⟩ ?_
              have b251_ : (-1) ≤ Int32.toInt (M238_.1 6 2) ∧ Int32.toInt (M238_.1 6 2) ≤ 100 := pvok_r o240_ 6 2 rfl
              have b252_ : (-1) ≤ Int32.toInt (M238_.1 6 3) ∧ Int32.toInt (M238_.1 6 3) ≤ 127 := pvok_r o240_ 6 3 rfl
              exact pw_ret hT rfl (r := some (pvI 1)) (M' := M238_) ⟨Or.inr rfl, rfl, rfl⟩ ⟨⟨_, rfl, (zr_wide (show 1 ≤ Int32.toInt 1 ∧ Int32.toInt 1 ≤ 1 from (by decide)) (by decide) (by decide))⟩, o240_, f242_, (by omega)⟩
          · have b253_ : 1 ≤ Int32.toInt i2z215_ ∧ Int32.toInt i2z215_ ≤ 99 := zr_nle_l 1 c231_ b220_ (show 0 ≤ Int32.toInt 0 ∧ Int32.toInt 0 ≤ 0 from (by decide)) (by decide)
            have b254_ : 15 ≤ Int32.toInt (M224_.1 6 4) ∧ Int32.toInt (M224_.1 6 4) ≤ 23 := pvok_r o226_ 6 4 rfl
            refine pw_blkr hT 2 (pc := 26) (lo := [some (pvR 6), some (pvI 1), some (pvI i2z215_)]) (st := []) (M := M224_) (z := (pvhp (M224_.1 6 4))) rfl ⟨trivial, rfl, trivial⟩ (fun q255_ e257_ => ?_)
            have k256_ : pvkl q255_ = 2 := pvhp_k b254_ e257_
            refine pw_blk hT 1 (S' := (28, [some (pvR 6), some (pvI 1), some (pvI i2z215_)], [pvI (-2), pvR q255_], M224_)) rfl ⟨trivial, trivial⟩ ?_
            refine pw_callV hT (as := [pvR q255_, pvI (-2)]) (lo1 := [some (pvR q255_), some (pvI (-2))]) (d1 := d) (rest := []) rfl rfl rfl rfl rfl (fun _ => k256_) (Nat.zero_le _) rfl rfl rfl (sf_X2_addStep_x_x M224_ o226_ q255_ (-2) k256_ (zr_wide (show (-2) ≤ Int32.toInt (-2) ∧ Int32.toInt (-2) ≤ (-2) from (by decide)) (by decide) (by decide)) d) (fun M259_ o261_ g262_ => ?_)
            have f263_ : pvFr fp_X5_readAll_6_1 M M259_ := pvfr_t g262_ f228_ fp_X5_readAll_6_1_fp_X2_addStep_x_x
            refine pw_blk hT 2 (S' := (34, [some (pvR 6), some (pvI 1), some (pvI i2z215_)], [pvI 38, pvR 6], M259_)) rfl ⟨trivial, trivial, trivial⟩ ?_
            have u264_ : Int32.toInt 38 = 38 := by decide
            have e265_ : (M259_.1 6 2) = (M224_.1 6 2) := (g262_ 6 2 rfl)
            have b266_ : (-1) ≤ Int32.toInt (M259_.1 6 2) ∧ Int32.toInt (M259_.1 6 2) ≤ 100 := pvok_r o261_ 6 2 rfl
            have d267_ : Int32.toInt (M259_.1 6 2) = Int32.toInt (M224_.1 6 2) := congrArg Int32.toInt e265_
            have e268_ : (M259_.1 6 3) = (M224_.1 6 3) := (g262_ 6 3 rfl)
            have b269_ : (-1) ≤ Int32.toInt (M259_.1 6 3) ∧ Int32.toInt (M259_.1 6 3) ≤ 127 := pvok_r o261_ 6 3 rfl
            have d270_ : Int32.toInt (M259_.1 6 3) = Int32.toInt (M224_.1 6 3) := congrArg Int32.toInt e268_
            refine pw_callGd hT (as := [pvR 6, pvI 38]) (lo1 := [some (pvR 6), some (pvI 38)]) (d1 := d) (rest := []) rfl rfl rfl rfl rfl (fun _ => rfl) (Nat.zero_le _) rfl rfl rfl (sf_X5_readSign_6_x M259_ o261_ 38 (zr_wide (show 38 ≤ Int32.toInt 38 ∧ Int32.toInt 38 ≤ 38 from (by decide)) (by decide) (by decide)) (show (Int32.toInt (M259_.1 6 3) ≤ -1 ∨ Int32.toInt (M259_.1 6 2) ≤ 99) from (by omega)) d) (fun x272_ M273_ b274_ o275_ g276_ d271_ => ?_)
            have f277_ : pvFr fp_X5_readAll_6_1 M M273_ := pvfr_t g276_ f263_ fp_X5_readAll_6_1_fp_X5_readSign_6_x
            refine pw_ifn hT (c := x272_ = 0) rfl rfl (fun c278_ => ?_) (fun c278_ => ?_)
            · have b279_ : 1 ≤ Int32.toInt x272_ ∧ Int32.toInt x272_ ≤ 1 := (by have u0 := b274_; have u1 := (not_congr (zi_eq _ _)).mp c278_; have u2 := (show 0 ≤ Int32.toInt 0 ∧ Int32.toInt 0 ≤ 0 from (by decide)); omega)
              obtain ⟨q281_, b280_⟩ : (Int32.toInt (i2z215_ + 1) = Int32.toInt i2z215_ + 1) ∧ (2 ≤ Int32.toInt (i2z215_ + 1) ∧ Int32.toInt (i2z215_ + 1) ≤ 100) := zadd_k i2z215_ 1 1 2 100 b253_ (by decide) (by decide) (by decide) (by decide) (by decide)
              refine pw_blk hT 2 (S' := (2, [some (pvR 6), some (pvI 1), some (pvI (i2z215_ + 1))], [], M273_)) rfl ⟨trivial, trivial, trivial⟩ ?_
              have b282_ : (-1) ≤ Int32.toInt (M273_.1 6 2) ∧ Int32.toInt (M273_.1 6 2) ≤ 100 := pvok_r o275_ 6 2 rfl
              have b283_ : (-1) ≤ Int32.toInt (M273_.1 6 3) ∧ Int32.toInt (M273_.1 6 3) ≤ 127 := pvok_r o275_ 6 3 rfl
              have j284_ : (Int32.toInt (M273_.1 6 3) ≤ -1 ∨ Int32.toInt (M273_.1 6 2) ≤ 99) := by omega
              exact ihz215_ (i2z215_ + 1) M273_ o275_ f277_ (zr_wide b280_ (by decide) (by decide)) j284_ (zhid (pvms_up (zshow hmz215_) h2z215_ q281_ (by decide) (by decide)))
            · have b285_ : 0 ≤ Int32.toInt x272_ ∧ Int32.toInt x272_ ≤ 0 := (by have u0 := b274_; have u1 := (zi_eq _ _).mp c278_; have u2 := (show 0 ≤ Int32.toInt 0 ∧ Int32.toInt 0 ≤ 0 from (by decide)); omega)
              refine pw_blk hT 1 (S' := (41, [some (pvR 6), some (pvI 1), some (pvI i2z215_)], [pvI 1], M273_)) rfl ⟨trivial, trivial⟩ ?_
              have b286_ : (-1) ≤ Int32.toInt (M273_.1 6 2) ∧ Int32.toInt (M273_.1 6 2) ≤ 100 := pvok_r o275_ 6 2 rfl
              have b287_ : (-1) ≤ Int32.toInt (M273_.1 6 3) ∧ Int32.toInt (M273_.1 6 3) ≤ 127 := pvok_r o275_ 6 3 rfl
              exact pw_ret hT rfl (r := some (pvI 1)) (M' := M273_) ⟨Or.inr rfl, rfl, rfl⟩ ⟨⟨_, rfl, (zr_wide (show 1 ≤ Int32.toInt 1 ∧ Int32.toInt 1 ≤ 1 from (by decide)) (by decide) (by decide))⟩, o275_, f277_, (by omega)⟩
        · have b288_ : 0 ≤ Int32.toInt x223_ ∧ Int32.toInt x223_ ≤ 0 := (by have u0 := b225_; have u1 := (zi_eq _ _).mp c229_; have u2 := (show 0 ≤ Int32.toInt 0 ∧ Int32.toInt 0 ≤ 0 from (by decide)); omega)
          refine pw_blk hT 1 (S' := (17, [some (pvR 6), some (pvI 1), some (pvI i2z215_)], [pvI 0], M224_)) rfl ⟨trivial, trivial⟩ ?_
          have b289_ : (-1) ≤ Int32.toInt (M224_.1 6 2) ∧ Int32.toInt (M224_.1 6 2) ≤ 100 := pvok_r o226_ 6 2 rfl
          have b290_ : (-1) ≤ Int32.toInt (M224_.1 6 3) ∧ Int32.toInt (M224_.1 6 3) ≤ 127 := pvok_r o226_ 6 3 rfl
          exact pw_ret hT rfl (r := some (pvI 0)) (M' := M224_) ⟨Or.inl rfl, rfl, rfl⟩ ⟨⟨_, rfl, (zr_wide (show 0 ≤ Int32.toInt 0 ∧ Int32.toInt 0 ≤ 0 from (by decide)) (by decide) (by decide))⟩, o226_, f228_, (by omega)⟩
  have u291_ : Int32.toInt 1 = 1 := by decide
  have u292_ : Int32.toInt 0 = 0 := by decide
  have j293_ : (Int32.toInt (M.1 6 3) ≤ -1 ∨ Int32.toInt (M.1 6 2) ≤ 99) := by omega
  exact hlz215_ _ 0 M hok pvfr_0 (zr_wide (show 0 ≤ Int32.toInt 0 ∧ Int32.toInt 0 ≤ 0 from (by decide)) (by decide) (by decide)) j293_ (zhid (Nat.lt_succ_self _))
def fpL_X5_readAny_6_1 : List (Nat × Nat × Nat) := [(0, 6, 3), (0, 6, 4), (1, 111, 0), (1, 2, 6)]
def fp_X5_readAny_6_1 (q k : Nat) : Bool := pvfp fpL_X5_readAny_6_1 q k
theorem fp_X5_readAny_6_1_fp_X2_addStep_x_x (a b : Nat) (h : fp_X2_addStep_x_x a b = true) : fp_X5_readAny_6_1 a b = true := pvfp_sub (l1 := fpL_X2_addStep_x_x) (l2 := fpL_X5_readAny_6_1) (by decide) a b h
theorem fp_X5_readAny_6_1_fp_X5_readAll_6_1 (a b : Nat) (h : fp_X5_readAll_6_1 a b = true) : fp_X5_readAny_6_1 a b = true := pvfp_sub (l1 := fpL_X5_readAll_6_1) (l2 := fpL_X5_readAny_6_1) (by decide) a b h
theorem fp_X5_readAny_6_1_fp_X5_readSign_6_x (a b : Nat) (h : fp_X5_readSign_6_x a b = true) : fp_X5_readAny_6_1 a b = true := pvfp_sub (l1 := fpL_X5_readSign_6_x) (l2 := fpL_X5_readAny_6_1) (by decide) a b h
set_option maxHeartbeats 4000000 in
set_option maxRecDepth 10000 in
theorem sf_X5_readAny_6_1 (M : pvM) (hok : pvOk M) (hx0 : (Int32.toInt (M.1 6 3) ≤ -1 ∨ Int32.toInt (M.1 6 2) ≤ 99)) (d : Nat) (hd : 3 ≤ d) : PW 141 d (0, [some (pvR 6), some (pvI 1), none], [], M) (fun r X => (∃ x : Int32, r = some (pvI x) ∧ 0 ≤ Int32.toInt x ∧ Int32.toInt x ≤ 1) ∧ pvOk X ∧ pvFr fp_X5_readAny_6_1 M X ∧ (Int32.toInt (X.1 6 3) ≤ -1 ∨ Int32.toInt (X.1 6 2) ≤ 99)) := by
  have hT : pvdom 141 = pvD_141 := rfl
  have b1_ : (-1) ≤ Int32.toInt (M.1 6 2) ∧ Int32.toInt (M.1 6 2) ≤ 100 := pvok_r hok 6 2 rfl
  have b2_ : (-1) ≤ Int32.toInt (M.1 6 3) ∧ Int32.toInt (M.1 6 3) ≤ 127 := pvok_r hok 6 3 rfl
  refine pw_blk hT 2 (S' := (2, [some (pvR 6), some (pvI 1), some (pvI 0)], [], M)) rfl ⟨trivial, trivial, trivial⟩ ?_
  have hlz215_ : ∀ (nz215_ : Nat) (i2z215_ : Int32) (Mz215_ : pvM), (pvOk Mz215_) → (pvFr fp_X5_readAny_6_1 M Mz215_) → (0 ≤ Int32.toInt i2z215_ ∧ Int32.toInt i2z215_ ≤ 100) → ((Int32.toInt (Mz215_.1 6 3) ≤ -1 ∨ Int32.toInt (Mz215_.1 6 2) ≤ 99)) → (zhide ((101 - Int32.toInt i2z215_).toNat < nz215_)) → PW 141 d (2, [some (pvR 6), some (pvI 1), some (pvI i2z215_)], [], Mz215_) (fun r X => (∃ x : Int32, r = some (pvI x) ∧ 0 ≤ Int32.toInt x ∧ Int32.toInt x ≤ 1) ∧ pvOk X ∧ pvFr fp_X5_readAny_6_1 M X ∧ (Int32.toInt (X.1 6 3) ≤ -1 ∨ Int32.toInt (X.1 6 2) ≤ 99)) := by
    intro nz215_
    induction nz215_ with
    | zero => intro i2z215_ Mz215_ oz215_ fz215_ h2z215_ j0z215_ hmz215_; exact absurd (zshow hmz215_) (Nat.not_lt_zero _)
    | succ nz215_ ihz215_ =>
      intro i2z215_ Mz215_ oz215_ fz215_ h2z215_ j0z215_ hmz215_
      have b216_ : (-1) ≤ Int32.toInt (Mz215_.1 6 2) ∧ Int32.toInt (Mz215_.1 6 2) ≤ 100 := pvok_r oz215_ 6 2 rfl
      have b217_ : (-1) ≤ Int32.toInt (Mz215_.1 6 3) ∧ Int32.toInt (Mz215_.1 6 3) ≤ 127 := pvok_r oz215_ 6 3 rfl
      refine pw_blk hT 2 (S' := (5, [some (pvR 6), some (pvI 1), some (pvI i2z215_)], [pvI 100, pvI i2z215_], Mz215_)) rfl ⟨trivial, trivial, trivial⟩ ?_
      refine pw_ic hT (c := 100 ≤ i2z215_) rfl rfl (fun c218_ => ?_) (fun c218_ => ?_)
      · have b219_ : 100 ≤ Int32.toInt i2z215_ ∧ Int32.toInt i2z215_ ≤ 100 := zr_le_r 100 c218_ h2z215_ (show 100 ≤ Int32.toInt 100 ∧ Int32.toInt 100 ≤ 100 from (by decide)) (by decide)
        refine pw_blk hT 1 (S' := (49, [some (pvR 6), some (pvI 1), some (pvI i2z215_)], [pvI 0], Mz215_)) rfl ⟨trivial, trivial⟩ ?_
        exact pw_ret hT rfl (r := some (pvI 0)) (M' := Mz215_) ⟨Or.inl rfl, rfl, rfl⟩ ⟨⟨_, rfl, (zr_wide (show 0 ≤ Int32.toInt 0 ∧ Int32.toInt 0 ≤ 0 from (by decide)) (by decide) (by decide))⟩, oz215_, fz215_, (by omega)⟩
      · have b220_ : 0 ≤ Int32.toInt i2z215_ ∧ Int32.toInt i2z215_ ≤ 99 := zr_nle_r 99 c218_ h2z215_ (show 100 ≤ Int32.toInt 100 ∧ Int32.toInt 100 ≤ 100 from (by decide)) (by decide)
        refine pw_blk hT 2 (S' := (10, [some (pvR 6), some (pvI 1), some (pvI i2z215_)], [pvI 1, pvR 6], Mz215_)) rfl ⟨trivial, trivial, trivial⟩ ?_
        have u221_ : Int32.toInt 1 = 1 := by decide
        refine pw_callGd hT (as := [pvR 6, pvI 1]) (lo1 := [some (pvR 6), some (pvI 1), none]) (d1 := d) (rest := []) rfl rfl rfl rfl rfl (fun _ => rfl) (Nat.zero_le _) rfl rfl rfl (sf_X5_readAll_6_1 Mz215_ oz215_ (show (Int32.toInt (Mz215_.1 6 3) ≤ -1 ∨ Int32.toInt (Mz215_.1 6 2) ≤ 99) from (by omega)) d (Nat.le_trans (by decide) hd)) (fun x223_ M224_ b225_ o226_ g227_ d222_ => ?_)
        have f228_ : pvFr fp_X5_readAny_6_1 M M224_ := pvfr_t g227_ fz215_ fp_X5_readAny_6_1_fp_X5_readAll_6_1
        refine pw_ifn hT (c := x223_ = 0) rfl rfl (fun c229_ => ?_) (fun c229_ => ?_)
        · have b230_ : 1 ≤ Int32.toInt x223_ ∧ Int32.toInt x223_ ≤ 1 := (by have u0 := b225_; have u1 := (not_congr (zi_eq _ _)).mp c229_; have u2 := (show 0 ≤ Int32.toInt 0 ∧ Int32.toInt 0 ≤ 0 from (by decide)); omega)
          refine pw_blk hT 1 (S' := (19, [some (pvR 6), some (pvI 1), some (pvI i2z215_)], [pvI i2z215_], M224_)) rfl ⟨trivial, trivial⟩ ?_
          refine pw_if hT (c := i2z215_ ≤ 0) rfl rfl (fun c231_ => ?_) (fun c231_ => ?_)
          · have b232_ : 0 ≤ Int32.toInt i2z215_ ∧ Int32.toInt i2z215_ ≤ 0 := zr_le_l 0 c231_ b220_ (show 0 ≤ Int32.toInt 0 ∧ Int32.toInt 0 ≤ 0 from (by decide)) (by decide)
            refine pw_blk hT 2 (S' := (34, [some (pvR 6), some (pvI 1), some (pvI i2z215_)], [pvI 124, pvR 6], M224_)) rfl ⟨trivial, trivial, trivial⟩ ?_
            have u233_ : Int32.toInt 124 = 124 := by decide
            have b234_ : (-1) ≤ Int32.toInt (M224_.1 6 2) ∧ Int32.toInt (M224_.1 6 2) ≤ 100 := pvok_r o226_ 6 2 rfl
            have b235_ : (-1) ≤ Int32.toInt (M224_.1 6 3) ∧ Int32.toInt (M224_.1 6 3) ≤ 127 := pvok_r o226_ 6 3 rfl
            refine pw_callGd hT (as := [pvR 6, pvI 124]) (lo1 := [some (pvR 6), some (pvI 124)]) (d1 := d) (rest := []) rfl rfl rfl rfl rfl (fun _ => rfl) (Nat.zero_le _) rfl rfl rfl (sf_X5_readSign_6_x M224_ o226_ 124 (zr_wide (show 124 ≤ Int32.toInt 124 ∧ Int32.toInt 124 ≤ 124 from (by decide)) (by decide) (by decide)) (show (Int32.toInt (M224_.1 6 3) ≤ -1 ∨ Int32.toInt (M224_.1 6 2) ≤ 99) from (by omega)) d) (fun x237_ M238_ b239_ o240_ g241_ d236_ => ?_)
            have f242_ : pvFr fp_X5_readAny_6_1 M M238_ := pvfr_t g241_ f228_ fp_X5_readAny_6_1_fp_X5_readSign_6_x
            refine pw_ifn hT (c := x237_ = 0) rfl rfl (fun c243_ => ?_) (fun c243_ => ?_)
            · have b244_ : 1 ≤ Int32.toInt x237_ ∧ Int32.toInt x237_ ≤ 1 := (by have u0 := b239_; have u1 := (not_congr (zi_eq _ _)).mp c243_; have u2 := (show 0 ≤ Int32.toInt 0 ∧ Int32.toInt 0 ≤ 0 from (by decide)); omega)
              obtain ⟨q246_, b245_⟩ : (Int32.toInt (i2z215_ + 1) = Int32.toInt i2z215_ + 1) ∧ (1 ≤ Int32.toInt (i2z215_ + 1) ∧ Int32.toInt (i2z215_ + 1) ≤ 1) := zadd_k i2z215_ 1 1 1 1 b232_ (by decide) (by decide) (by decide) (by decide) (by decide)
              refine pw_blk hT 2 (S' := (2, [some (pvR 6), some (pvI 1), some (pvI (i2z215_ + 1))], [], M238_)) rfl ⟨trivial, trivial, trivial⟩ ?_
              have b247_ : (-1) ≤ Int32.toInt (M238_.1 6 2) ∧ Int32.toInt (M238_.1 6 2) ≤ 100 := pvok_r o240_ 6 2 rfl
              have b248_ : (-1) ≤ Int32.toInt (M238_.1 6 3) ∧ Int32.toInt (M238_.1 6 3) ≤ 127 := pvok_r o240_ 6 3 rfl
              have j249_ : (Int32.toInt (M238_.1 6 3) ≤ -1 ∨ Int32.toInt (M238_.1 6 2) ≤ 99) := by omega
              exact ihz215_ (i2z215_ + 1) M238_ o240_ f242_ (zr_wide b245_ (by decide) (by decide)) j249_ (zhid (pvms_up (zshow hmz215_) h2z215_ q246_ (by decide) (by decide)))
            · have b250_ : 0 ≤ Int32.toInt x237_ ∧ Int32.toInt x237_ ≤ 0 := (by have u0 := b239_; have u1 := (zi_eq _ _).mp c243_; have u2 := (show 0 ≤ Int32.toInt 0 ∧ Int32.toInt 0 ≤ 0 from (by decide)); omega)
              refine pw_blk hT 1 (S' := (41, [some (pvR 6), some (pvI 1), some (pvI i2z215_)], [pvI 1], M238_)) rfl ⟨trivial, trivial⟩ ?_
              have b251_ : (-1) ≤ Int32.toInt (M238_.1 6 2) ∧ Int32.toInt (M238_.1 6 2) ≤ 100 := pvok_r o240_ 6 2 rfl
              have b252_ : (-1) ≤ Int32.toInt (M238_.1 6 3) ∧ Int32.toInt (M238_.1 6 3) ≤ 127 := pvok_r o240_ 6 3 rfl
              exact pw_ret hT rfl (r := some (pvI 1)) (M' := M238_) ⟨Or.inr rfl, rfl, rfl⟩ ⟨⟨_, rfl, (zr_wide (show 1 ≤ Int32.toInt 1 ∧ Int32.toInt 1 ≤ 1 from (by decide)) (by decide) (by decide))⟩, o240_, f242_, (by omega)⟩
          · have b253_ : 1 ≤ Int32.toInt i2z215_ ∧ Int32.toInt i2z215_ ≤ 99 := zr_nle_l 1 c231_ b220_ (show 0 ≤ Int32.toInt 0 ∧ Int32.toInt 0 ≤ 0 from (by decide)) (by decide)
            have b254_ : 15 ≤ Int32.toInt (M224_.1 6 4) ∧ Int32.toInt (M224_.1 6 4) ≤ 23 := pvok_r o226_ 6 4 rfl
            refine pw_blkr hT 2 (pc := 26) (lo := [some (pvR 6), some (pvI 1), some (pvI i2z215_)]) (st := []) (M := M224_) (z := (pvhp (M224_.1 6 4))) rfl ⟨trivial, rfl, trivial⟩ (fun q255_ e257_ => ?_)
            have k256_ : pvkl q255_ = 2 := pvhp_k b254_ e257_
            refine pw_blk hT 1 (S' := (28, [some (pvR 6), some (pvI 1), some (pvI i2z215_)], [pvI (-3), pvR q255_], M224_)) rfl ⟨trivial, trivial⟩ ?_
            refine pw_callV hT (as := [pvR q255_, pvI (-3)]) (lo1 := [some (pvR q255_), some (pvI (-3))]) (d1 := d) (rest := []) rfl rfl rfl rfl rfl (fun _ => k256_) (Nat.zero_le _) rfl rfl rfl (sf_X2_addStep_x_x M224_ o226_ q255_ (-3) k256_ (zr_wide (show (-3) ≤ Int32.toInt (-3) ∧ Int32.toInt (-3) ≤ (-3) from (by decide)) (by decide) (by decide)) d) (fun M259_ o261_ g262_ => ?_)
            have f263_ : pvFr fp_X5_readAny_6_1 M M259_ := pvfr_t g262_ f228_ fp_X5_readAny_6_1_fp_X2_addStep_x_x
            refine pw_blk hT 2 (S' := (34, [some (pvR 6), some (pvI 1), some (pvI i2z215_)], [pvI 124, pvR 6], M259_)) rfl ⟨trivial, trivial, trivial⟩ ?_
            have u264_ : Int32.toInt 124 = 124 := by decide
            have e265_ : (M259_.1 6 2) = (M224_.1 6 2) := (g262_ 6 2 rfl)
            have b266_ : (-1) ≤ Int32.toInt (M259_.1 6 2) ∧ Int32.toInt (M259_.1 6 2) ≤ 100 := pvok_r o261_ 6 2 rfl
            have d267_ : Int32.toInt (M259_.1 6 2) = Int32.toInt (M224_.1 6 2) := congrArg Int32.toInt e265_
            have e268_ : (M259_.1 6 3) = (M224_.1 6 3) := (g262_ 6 3 rfl)
            have b269_ : (-1) ≤ Int32.toInt (M259_.1 6 3) ∧ Int32.toInt (M259_.1 6 3) ≤ 127 := pvok_r o261_ 6 3 rfl
            have d270_ : Int32.toInt (M259_.1 6 3) = Int32.toInt (M224_.1 6 3) := congrArg Int32.toInt e268_
            refine pw_callGd hT (as := [pvR 6, pvI 124]) (lo1 := [some (pvR 6), some (pvI 124)]) (d1 := d) (rest := []) rfl rfl rfl rfl rfl (fun _ => rfl) (Nat.zero_le _) rfl rfl rfl (sf_X5_readSign_6_x M259_ o261_ 124 (zr_wide (show 124 ≤ Int32.toInt 124 ∧ Int32.toInt 124 ≤ 124 from (by decide)) (by decide) (by decide)) (show (Int32.toInt (M259_.1 6 3) ≤ -1 ∨ Int32.toInt (M259_.1 6 2) ≤ 99) from (by omega)) d) (fun x272_ M273_ b274_ o275_ g276_ d271_ => ?_)
            have f277_ : pvFr fp_X5_readAny_6_1 M M273_ := pvfr_t g276_ f263_ fp_X5_readAny_6_1_fp_X5_readSign_6_x
            refine pw_ifn hT (c := x272_ = 0) rfl rfl (fun c278_ => ?_) (fun c278_ => ?_)
            · have b279_ : 1 ≤ Int32.toInt x272_ ∧ Int32.toInt x272_ ≤ 1 := (by have u0 := b274_; have u1 := (not_congr (zi_eq _ _)).mp c278_; have u2 := (show 0 ≤ Int32.toInt 0 ∧ Int32.toInt 0 ≤ 0 from (by decide)); omega)
              obtain ⟨q281_, b280_⟩ : (Int32.toInt (i2z215_ + 1) = Int32.toInt i2z215_ + 1) ∧ (2 ≤ Int32.toInt (i2z215_ + 1) ∧ Int32.toInt (i2z215_ + 1) ≤ 100) := zadd_k i2z215_ 1 1 2 100 b253_ (by decide) (by decide) (by decide) (by decide) (by decide)
              refine pw_blk hT 2 (S' := (2, [some (pvR 6), some (pvI 1), some (pvI (i2z215_ + 1))], [], M273_)) rfl ⟨trivial, trivial, trivial⟩ ?_
              have b282_ : (-1) ≤ Int32.toInt (M273_.1 6 2) ∧ Int32.toInt (M273_.1 6 2) ≤ 100 := pvok_r o275_ 6 2 rfl
              have b283_ : (-1) ≤ Int32.toInt (M273_.1 6 3) ∧ Int32.toInt (M273_.1 6 3) ≤ 127 := pvok_r o275_ 6 3 rfl
              have j284_ : (Int32.toInt (M273_.1 6 3) ≤ -1 ∨ Int32.toInt (M273_.1 6 2) ≤ 99) := by omega
              exact ihz215_ (i2z215_ + 1) M273_ o275_ f277_ (zr_wide b280_ (by decide) (by decide)) j284_ (zhid (pvms_up (zshow hmz215_) h2z215_ q281_ (by decide) (by decide)))
            · have b285_ : 0 ≤ Int32.toInt x272_ ∧ Int32.toInt x272_ ≤ 0 := (by have u0 := b274_; have u1 := (zi_eq _ _).mp c278_; have u2 := (show 0 ≤ Int32.toInt 0 ∧ Int32.toInt 0 ≤ 0 from (by decide)); omega)
              refine pw_blk hT 1 (S' := (41, [some (pvR 6), some (pvI 1), some (pvI i2z215_)], [pvI 1], M273_)) rfl ⟨trivial, trivial⟩ ?_
              have b286_ : (-1) ≤ Int32.toInt (M273_.1 6 2) ∧ Int32.toInt (M273_.1 6 2) ≤ 100 := pvok_r o275_ 6 2 rfl
              have b287_ : (-1) ≤ Int32.toInt (M273_.1 6 3) ∧ Int32.toInt (M273_.1 6 3) ≤ 127 := pvok_r o275_ 6 3 rfl
              exact pw_ret hT rfl (r := some (pvI 1)) (M' := M273_) ⟨Or.inr rfl, rfl, rfl⟩ ⟨⟨_, rfl, (zr_wide (show 1 ≤ Int32.toInt 1 ∧ Int32.toInt 1 ≤ 1 from (by decide)) (by decide) (by decide))⟩, o275_, f277_, (by omega)⟩
        · have b288_ : 0 ≤ Int32.toInt x223_ ∧ Int32.toInt x223_ ≤ 0 := (by have u0 := b225_; have u1 := (zi_eq _ _).mp c229_; have u2 := (show 0 ≤ Int32.toInt 0 ∧ Int32.toInt 0 ≤ 0 from (by decide)); omega)
          refine pw_blk hT 1 (S' := (17, [some (pvR 6), some (pvI 1), some (pvI i2z215_)], [pvI 0], M224_)) rfl ⟨trivial, trivial⟩ ?_
          have b289_ : (-1) ≤ Int32.toInt (M224_.1 6 2) ∧ Int32.toInt (M224_.1 6 2) ≤ 100 := pvok_r o226_ 6 2 rfl
          have b290_ : (-1) ≤ Int32.toInt (M224_.1 6 3) ∧ Int32.toInt (M224_.1 6 3) ≤ 127 := pvok_r o226_ 6 3 rfl
          exact pw_ret hT rfl (r := some (pvI 0)) (M' := M224_) ⟨Or.inl rfl, rfl, rfl⟩ ⟨⟨_, rfl, (zr_wide (show 0 ≤ Int32.toInt 0 ∧ Int32.toInt 0 ≤ 0 from (by decide)) (by decide) (by decide))⟩, o226_, f228_, (by omega)⟩
  have u291_ : Int32.toInt 1 = 1 := by decide
  have u292_ : Int32.toInt 0 = 0 := by decide
  have j293_ : (Int32.toInt (M.1 6 3) ≤ -1 ∨ Int32.toInt (M.1 6 2) ≤ 99) := by omega
  exact hlz215_ _ 0 M hok pvfr_0 (zr_wide (show 0 ≤ Int32.toInt 0 ∧ Int32.toInt 0 ≤ 0 from (by decide)) (by decide) (by decide)) j293_ (zhid (Nat.lt_succ_self _))
