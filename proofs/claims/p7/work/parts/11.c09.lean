def fpL_X7_becomeAs_8_9 : List (Nat × Nat × Nat) := [(0, 100, 1), (0, 102, 1), (0, 104, 1), (0, 108, 0), (0, 110, 0), (0, 112, 0), (0, 116, 0), (0, 118, 0), (0, 120, 0), (0, 8, 2), (0, 8, 3), (0, 8, 4), (0, 8, 5), (0, 8, 6), (0, 8, 7), (0, 8, 8), (0, 8, 9), (1, 113, 0), (1, 3, 1), (1, 3, 2), (1, 3, 3), (1, 3, 4), (1, 3, 5), (1, 3, 6)]
def fp_X7_becomeAs_8_9 (q k : Nat) : Bool := pvfp fpL_X7_becomeAs_8_9 q k
theorem fp_X7_becomeAs_8_9_fp_X4_becomeAs_x_x (a b : Nat) (h : fp_X4_becomeAs_x_x a b = true) : fp_X7_becomeAs_8_9 a b = true := pvfp_sub (l1 := fpL_X4_becomeAs_x_x) (l2 := fpL_X7_becomeAs_8_9) (by decide) a b h
theorem fp_X7_becomeAs_8_9_fp_X6_becomeAs_100_101 (a b : Nat) (h : fp_X6_becomeAs_100_101 a b = true) : fp_X7_becomeAs_8_9 a b = true := pvfp_sub (l1 := fpL_X6_becomeAs_100_101) (l2 := fpL_X7_becomeAs_8_9) (by decide) a b h
theorem fp_X7_becomeAs_8_9_fp_X6_becomeAs_102_103 (a b : Nat) (h : fp_X6_becomeAs_102_103 a b = true) : fp_X7_becomeAs_8_9 a b = true := pvfp_sub (l1 := fpL_X6_becomeAs_102_103) (l2 := fpL_X7_becomeAs_8_9) (by decide) a b h
theorem fp_X7_becomeAs_8_9_fp_X6_becomeAs_104_105 (a b : Nat) (h : fp_X6_becomeAs_104_105 a b = true) : fp_X7_becomeAs_8_9 a b = true := pvfp_sub (l1 := fpL_X6_becomeAs_104_105) (l2 := fpL_X7_becomeAs_8_9) (by decide) a b h
set_option maxHeartbeats 4000000 in
set_option maxRecDepth 10000 in
theorem sf_X7_becomeAs_8_9 (M : pvM) (hok : pvOk M) (d : Nat) : PW 158 d (0, [some (pvR 8), some (pvR 9), none], [], M) (fun r X => r = none ∧ pvOk X ∧ pvFr fp_X7_becomeAs_8_9 M X) := by
  have hT : pvdom 158 = pvD_158 := rfl
  have b1_ : 0 ≤ Int32.toInt (M.1 9 1) ∧ Int32.toInt (M.1 9 1) ≤ 7 := pvok_r hok 9 1 rfl
  refine pw_blkw hT 4 (pc := 8) (lo := [some (pvR 8), some (pvR 9), none]) (st := []) (M := pvu M 8 1 (M.1 9 1)) rfl ⟨trivial, trivial, rfl, rfl, trivial⟩ (fun M2_ e3_ => ?_)
  have o4_ : pvOk M2_ := pvok_u2 e3_ hok rfl b1_
  have f5_ : pvFr fp_X7_becomeAs_8_9 M M2_ := pvfr_u e3_ pvfr_0 rfl
  refine pw_blk hT 2 (S' := (10, [some (pvR 8), some (pvR 9), some (pvI 0)], [], M2_)) rfl ⟨trivial, trivial, trivial⟩ ?_
  have hlz318_ : ∀ (nz318_ : Nat) (i2z318_ : Int32) (Mz318_ : pvM), (pvOk Mz318_) → (pvFr fp_X7_becomeAs_8_9 M Mz318_) → (0 ≤ Int32.toInt i2z318_ ∧ Int32.toInt i2z318_ ≤ 7) → ((8 - Int32.toInt i2z318_).toNat < nz318_) → PW 158 d (10, [some (pvR 8), some (pvR 9), some (pvI i2z318_)], [], Mz318_) (fun r X => r = none ∧ pvOk X ∧ pvFr fp_X7_becomeAs_8_9 M X) := by
    intro nz318_
    induction nz318_ with
    | zero => intro i2z318_ Mz318_ oz318_ fz318_ h2z318_ hmz318_; exact absurd hmz318_ (Nat.not_lt_zero _)
    | succ nz318_ ihz318_ =>
      intro i2z318_ Mz318_ oz318_ fz318_ h2z318_ hmz318_
      have b319_ : 0 ≤ Int32.toInt (Mz318_.1 8 1) ∧ Int32.toInt (Mz318_.1 8 1) ≤ 7 := pvok_r oz318_ 8 1 rfl
      refine pw_blk hT 3 (S' := (15, [some (pvR 8), some (pvR 9), some (pvI i2z318_)], [pvI (Mz318_.1 8 1), pvI i2z318_], Mz318_)) rfl ⟨trivial, trivial, rfl, trivial⟩ ?_
      refine pw_ic hT (c := (Mz318_.1 8 1) ≤ i2z318_) rfl rfl (fun c320_ => ?_) (fun c320_ => ?_)
      · have d321_ : Int32.toInt (Mz318_.1 8 1) ≤ Int32.toInt i2z318_ := (zi_le _ _).mp c320_
        have b322_ : 0 ≤ Int32.toInt (Mz318_.1 9 2) ∧ Int32.toInt (Mz318_.1 9 2) ≤ 99 := pvok_r oz318_ 9 2 rfl
        refine pw_blkw hT 4 (pc := 47) (lo := [some (pvR 8), some (pvR 9), some (pvI i2z318_)]) (st := []) (M := pvu Mz318_ 8 2 (Mz318_.1 9 2)) rfl ⟨trivial, trivial, rfl, rfl, trivial⟩ (fun M323_ e324_ => ?_)
        have o325_ : pvOk M323_ := pvok_u2 e324_ oz318_ rfl b322_
        have f326_ : pvFr fp_X7_becomeAs_8_9 M M323_ := pvfr_u e324_ fz318_ rfl
        have b327_ : 0 ≤ Int32.toInt (M323_.1 9 3) ∧ Int32.toInt (M323_.1 9 3) ≤ 3 := pvok_r o325_ 9 3 rfl
        refine pw_blkw hT 4 (pc := 55) (lo := [some (pvR 8), some (pvR 9), some (pvI i2z318_)]) (st := []) (M := pvu M323_ 8 3 (M323_.1 9 3)) rfl ⟨trivial, trivial, rfl, rfl, trivial⟩ (fun M328_ e329_ => ?_)
        have o330_ : pvOk M328_ := pvok_u2 e329_ o325_ rfl b327_
        have f331_ : pvFr fp_X7_becomeAs_8_9 M M328_ := pvfr_u e329_ f326_ rfl
        have b332_ : 0 ≤ Int32.toInt (M328_.1 9 4) ∧ Int32.toInt (M328_.1 9 4) ≤ 9999 := pvok_r o330_ 9 4 rfl
        refine pw_blkw hT 4 (pc := 63) (lo := [some (pvR 8), some (pvR 9), some (pvI i2z318_)]) (st := []) (M := pvu M328_ 8 4 (M328_.1 9 4)) rfl ⟨trivial, trivial, rfl, rfl, trivial⟩ (fun M333_ e334_ => ?_)
        have o335_ : pvOk M333_ := pvok_u2 e334_ o330_ rfl b332_
        have f336_ : pvFr fp_X7_becomeAs_8_9 M M333_ := pvfr_u e334_ f331_ rfl
        have b337_ : 0 ≤ Int32.toInt (M333_.1 9 5) ∧ Int32.toInt (M333_.1 9 5) ≤ 999999 := pvok_r o335_ 9 5 rfl
        refine pw_blkw hT 4 (pc := 71) (lo := [some (pvR 8), some (pvR 9), some (pvI i2z318_)]) (st := []) (M := pvu M333_ 8 5 (M333_.1 9 5)) rfl ⟨trivial, trivial, rfl, rfl, trivial⟩ (fun M338_ e339_ => ?_)
        have o340_ : pvOk M338_ := pvok_u2 e339_ o335_ rfl b337_
        have f341_ : pvFr fp_X7_becomeAs_8_9 M M338_ := pvfr_u e339_ f336_ rfl
        have b342_ : 0 ≤ Int32.toInt (M338_.1 9 6) ∧ Int32.toInt (M338_.1 9 6) ≤ 3 := pvok_r o340_ 9 6 rfl
        refine pw_blkw hT 4 (pc := 79) (lo := [some (pvR 8), some (pvR 9), some (pvI i2z318_)]) (st := []) (M := pvu M338_ 8 6 (M338_.1 9 6)) rfl ⟨trivial, trivial, rfl, rfl, trivial⟩ (fun M343_ e344_ => ?_)
        have o345_ : pvOk M343_ := pvok_u2 e344_ o340_ rfl b342_
        have f346_ : pvFr fp_X7_becomeAs_8_9 M M343_ := pvfr_u e344_ f341_ rfl
        have b347_ : 0 ≤ Int32.toInt (M343_.1 9 7) ∧ Int32.toInt (M343_.1 9 7) ≤ 4 := pvok_r o345_ 9 7 rfl
        refine pw_blkw hT 4 (pc := 87) (lo := [some (pvR 8), some (pvR 9), some (pvI i2z318_)]) (st := []) (M := pvu M343_ 8 7 (M343_.1 9 7)) rfl ⟨trivial, trivial, rfl, rfl, trivial⟩ (fun M348_ e349_ => ?_)
        have o350_ : pvOk M348_ := pvok_u2 e349_ o345_ rfl b347_
        have f351_ : pvFr fp_X7_becomeAs_8_9 M M348_ := pvfr_u e349_ f346_ rfl
        have b352_ : 15 ≤ Int32.toInt (M348_.1 9 8) ∧ Int32.toInt (M348_.1 9 8) ≤ 23 := pvok_r o350_ 9 8 rfl
        refine pw_blkr hT 3 (pc := 92) (lo := [some (pvR 8), some (pvR 9), some (pvI i2z318_)]) (st := [pvR 8]) (M := M348_) (z := (pvhp (M348_.1 9 8))) rfl ⟨trivial, trivial, rfl, trivial⟩ (fun q353_ e355_ => ?_)
        have k354_ : pvkl q353_ = 2 := pvhp_k b352_ e355_
        refine pw_blkw hT 1 (pc := 95) (lo := [some (pvR 8), some (pvR 9), some (pvI i2z318_)]) (st := []) (M := pvu M348_ 8 8 (nI q353_)) rfl ⟨⟨rfl, k354_⟩, trivial⟩ (fun M356_ e357_ => ?_)
        have o358_ : pvOk M356_ := pvok_u2 e357_ o350_ rfl (pvhp_r k354_)
        have f359_ : pvFr fp_X7_becomeAs_8_9 M M356_ := pvfr_u e357_ f351_ rfl
        refine pw_blk hT 4 (S' := (103, [some (pvR 8), some (pvR 9), some (pvI i2z318_)], [pvR 101, pvR 100], M356_)) rfl ⟨trivial, rfl, trivial, rfl, trivial⟩ ?_
        refine pw_callV hT (as := [pvR 100, pvR 101]) (lo1 := [some (pvR 100), some (pvR 101), none]) (d1 := d) (rest := []) rfl rfl rfl rfl rfl (fun _ => rfl) (Nat.zero_le _) rfl rfl rfl (sf_X6_becomeAs_100_101 M356_ o358_ d) (fun M361_ o363_ g364_ => ?_)
        have f365_ : pvFr fp_X7_becomeAs_8_9 M M361_ := pvfr_t g364_ f359_ fp_X7_becomeAs_8_9_fp_X6_becomeAs_100_101
        refine pw_blk hT 4 (S' := (114, [some (pvR 8), some (pvR 9), some (pvI i2z318_)], [pvR 103, pvR 102], M361_)) rfl ⟨trivial, rfl, trivial, rfl, trivial⟩ ?_
        refine pw_callV hT (as := [pvR 102, pvR 103]) (lo1 := [some (pvR 102), some (pvR 103), none]) (d1 := d) (rest := []) rfl rfl rfl rfl rfl (fun _ => rfl) (Nat.zero_le _) rfl rfl rfl (sf_X6_becomeAs_102_103 M361_ o363_ d) (fun M367_ o369_ g370_ => ?_)
        have f371_ : pvFr fp_X7_becomeAs_8_9 M M367_ := pvfr_t g370_ f365_ fp_X7_becomeAs_8_9_fp_X6_becomeAs_102_103
        refine pw_blk hT 4 (S' := (125, [some (pvR 8), some (pvR 9), some (pvI i2z318_)], [pvR 105, pvR 104], M367_)) rfl ⟨trivial, rfl, trivial, rfl, trivial⟩ ?_
        refine pw_callV hT (as := [pvR 104, pvR 105]) (lo1 := [some (pvR 104), some (pvR 105), none]) (d1 := d) (rest := []) rfl rfl rfl rfl rfl (fun _ => rfl) (Nat.zero_le _) rfl rfl rfl (sf_X6_becomeAs_104_105 M367_ o369_ d) (fun M373_ o375_ g376_ => ?_)
        have f377_ : pvFr fp_X7_becomeAs_8_9 M M373_ := pvfr_t g376_ f371_ fp_X7_becomeAs_8_9_fp_X6_becomeAs_104_105
        exact pw_ret hT rfl (r := none) (M' := M373_) ⟨rfl, rfl⟩ ⟨rfl, o375_, f377_⟩
      · have b378_ : 1 ≤ Int32.toInt (Mz318_.1 8 1) ∧ Int32.toInt (Mz318_.1 8 1) ≤ 7 := zr_nle_l 1 c320_ b319_ h2z318_ (by decide)
        have b379_ : 0 ≤ Int32.toInt i2z318_ ∧ Int32.toInt i2z318_ ≤ 6 := zr_nle_r 6 c320_ h2z318_ b378_ (by decide)
        have d380_ : Int32.toInt (Mz318_.1 8 1) > Int32.toInt i2z318_ := Int.not_le.mp ((not_congr (zi_le _ _)).mp c320_)
        refine pw_blkr hT 4 (pc := 24) (lo := [some (pvR 8), some (pvR 9), some (pvI i2z318_)]) (st := []) (M := Mz318_) (z := (pvbs 10 + Int32.toNatClampNeg i2z318_)) rfl ⟨trivial, rfl, trivial, ⟨rfl, (zr_in (n := 7) b379_ (by decide) (by decide))⟩, trivial⟩ (fun q381_ e383_ => ?_)
        have k382_ : pvkl q381_ = 3 := pvel_10 (zr_in (n := 7) b379_ (by decide) (by decide)) e383_
        refine pw_blkr hT 4 (pc := 30) (lo := [some (pvR 8), some (pvR 9), some (pvI i2z318_)]) (st := [pvR q381_]) (M := Mz318_) (z := (pvbs 11 + Int32.toNatClampNeg i2z318_)) rfl ⟨trivial, rfl, trivial, ⟨rfl, (zr_in (n := 7) b379_ (by decide) (by decide))⟩, trivial⟩ (fun q384_ e386_ => ?_)
        have k385_ : pvkl q384_ = 3 := pvel_11 (zr_in (n := 7) b379_ (by decide) (by decide)) e386_
        refine pw_callV hT (as := [pvR q381_, pvR q384_]) (lo1 := [some (pvR q381_), some (pvR q384_)]) (d1 := d) (rest := []) rfl rfl rfl rfl rfl (fun _ => k382_) (Nat.zero_le _) rfl rfl rfl (sf_X4_becomeAs_x_x Mz318_ oz318_ q381_ q384_ k382_ k385_ d) (fun M388_ o390_ g391_ => ?_)
        have f392_ : pvFr fp_X7_becomeAs_8_9 M M388_ := pvfr_t g391_ fz318_ fp_X7_becomeAs_8_9_fp_X4_becomeAs_x_x
        obtain ⟨q394_, b393_⟩ : (Int32.toInt (i2z318_ + 1) = Int32.toInt i2z318_ + Int32.toInt 1) ∧ (1 ≤ Int32.toInt (i2z318_ + 1) ∧ Int32.toInt (i2z318_ + 1) ≤ 7) := zadd_r i2z318_ 1 1 7 b379_ (show 1 ≤ Int32.toInt 1 ∧ Int32.toInt 1 ≤ 1 from (by decide)) (by decide) (by decide) (by decide) (by decide)
        have u395_ : Int32.toInt 1 = 1 := by decide
        refine pw_blk hT 2 (S' := (10, [some (pvR 8), some (pvR 9), some (pvI (i2z318_ + 1))], [], M388_)) rfl ⟨trivial, trivial, trivial⟩ ?_
        exact ihz318_ (i2z318_ + 1) M388_ o390_ f392_ (zr_wide b393_ (by decide) (by decide)) (by omega)
  exact hlz318_ _ 0 M2_ o4_ f5_ (zr_wide (show 0 ≤ Int32.toInt 0 ∧ Int32.toInt 0 ≤ 0 from (by decide)) (by decide) (by decide)) (Nat.lt_succ_self _)
def fpL_X9_undo_0 : List (Nat × Nat × Nat) := [(0, 100, 1), (0, 102, 1), (0, 104, 1), (0, 108, 0), (0, 110, 0), (0, 112, 0), (0, 116, 0), (0, 118, 0), (0, 120, 0), (0, 14, 0), (0, 8, 2), (0, 8, 3), (0, 8, 4), (0, 8, 5), (0, 8, 6), (0, 8, 7), (0, 8, 8), (0, 8, 9), (1, 113, 0), (1, 3, 1), (1, 3, 2), (1, 3, 3), (1, 3, 4), (1, 3, 5), (1, 3, 6)]
def fp_X9_undo_0 (q k : Nat) : Bool := pvfp fpL_X9_undo_0 q k
theorem fp_X9_undo_0_fp_X1_forget_5 (a b : Nat) (h : fp_X1_forget_5 a b = true) : fp_X9_undo_0 a b = true := pvfp_sub (l1 := fpL_X1_forget_5) (l2 := fpL_X9_undo_0) (by decide) a b h
theorem fp_X9_undo_0_fp_X7_becomeAs_8_9 (a b : Nat) (h : fp_X7_becomeAs_8_9 a b = true) : fp_X9_undo_0 a b = true := pvfp_sub (l1 := fpL_X7_becomeAs_8_9) (l2 := fpL_X9_undo_0) (by decide) a b h
set_option maxHeartbeats 4000000 in
set_option maxRecDepth 10000 in
theorem sf_X9_undo_0 (M : pvM) (hok : pvOk M) (d : Nat) : PW 208 d (0, [some (pvR 0)], [], M) (fun r X => (∃ x : Int32, r = some (pvI x) ∧ (-3) ≤ Int32.toInt x ∧ Int32.toInt x ≤ 7) ∧ pvOk X ∧ pvFr fp_X9_undo_0 M X) := by
  have hT : pvdom 208 = pvD_208 := rfl
  have b1_ : 0 ≤ Int32.toInt (M.1 0 5) ∧ Int32.toInt (M.1 0 5) ≤ 1 := pvok_r hok 0 5 rfl
  refine pw_blk hT 2 (S' := (4, [some (pvR 0)], [pvI (M.1 0 5)], M)) rfl ⟨trivial, rfl, trivial⟩ ?_
  refine pw_ifn hT (c := (M.1 0 5) = 0) rfl rfl (fun c2_ => ?_) (fun c2_ => ?_)
  · have b3_ : 1 ≤ Int32.toInt (M.1 0 5) ∧ Int32.toInt (M.1 0 5) ≤ 1 := (by have u0 := b1_; have u1 := (not_congr (zi_eq _ _)).mp c2_; have u2 := (show 0 ≤ Int32.toInt 0 ∧ Int32.toInt 0 ≤ 0 from (by decide)); omega)
    refine pw_blk hT 4 (S' := (18, [some (pvR 0)], [pvR 9, pvR 8], M)) rfl ⟨trivial, rfl, trivial, rfl, trivial⟩ ?_
    refine pw_callV hT (as := [pvR 8, pvR 9]) (lo1 := [some (pvR 8), some (pvR 9), none]) (d1 := d) (rest := []) rfl rfl rfl rfl rfl (fun _ => rfl) (Nat.zero_le _) rfl rfl rfl (sf_X7_becomeAs_8_9 M hok d) (fun M5_ o7_ g8_ => ?_)
    have f9_ : pvFr fp_X9_undo_0 M M5_ := pvfr_t g8_ pvfr_0 fp_X9_undo_0_fp_X7_becomeAs_8_9
    refine pw_blk hT 2 (S' := (25, [some (pvR 0)], [pvR 5], M5_)) rfl ⟨trivial, rfl, trivial⟩ ?_
    refine pw_callV hT (as := [pvR 5]) (lo1 := [some (pvR 5), none]) (d1 := d) (rest := []) rfl rfl rfl rfl rfl (fun _ => rfl) (Nat.zero_le _) rfl rfl rfl (sf_X1_forget_5 M5_ o7_ d) (fun M11_ o13_ g14_ => ?_)
    have f15_ : pvFr fp_X9_undo_0 M M11_ := pvfr_t g14_ f9_ fp_X9_undo_0_fp_X1_forget_5
    have b16_ : 0 ≤ Int32.toInt (M11_.1 8 1) ∧ Int32.toInt (M11_.1 8 1) ≤ 7 := pvok_r o13_ 8 1 rfl
    refine pw_blk hT 3 (S' := (35, [some (pvR 0)], [pvI (M11_.1 8 1)], M11_)) rfl ⟨trivial, rfl, rfl, trivial⟩ ?_
    exact pw_ret hT rfl (r := some (pvI (M11_.1 8 1))) (M' := M11_) ⟨rfl, rfl⟩ ⟨⟨_, rfl, (zr_wide b16_ (by decide) (by decide))⟩, o13_, f15_⟩
  · have b17_ : 0 ≤ Int32.toInt (M.1 0 5) ∧ Int32.toInt (M.1 0 5) ≤ 0 := (by have u0 := b1_; have u1 := (zi_eq _ _).mp c2_; have u2 := (show 0 ≤ Int32.toInt 0 ∧ Int32.toInt 0 ≤ 0 from (by decide)); omega)
    refine pw_blk hT 1 (S' := (9, [some (pvR 0)], [pvI (-3)], M)) rfl ⟨trivial, trivial⟩ ?_
    exact pw_ret hT rfl (r := some (pvI (-3))) (M' := M) ⟨rfl, rfl⟩ ⟨⟨_, rfl, (zr_wide (show (-3) ≤ Int32.toInt (-3) ∧ Int32.toInt (-3) ≤ (-3) from (by decide)) (by decide) (by decide))⟩, hok, pvfr_0⟩
def fpL_X9_window_0_x_x_x_x_x : List (Nat × Nat × Nat) := [(0, 14, 0), (0, 8, 2), (1, 113, 0), (1, 3, 1), (1, 3, 2), (1, 3, 3), (1, 3, 4), (1, 3, 5), (1, 3, 6)]
def fp_X9_window_0_x_x_x_x_x (q k : Nat) : Bool := pvfp fpL_X9_window_0_x_x_x_x_x q k
theorem fp_X9_window_0_x_x_x_x_x_fp_X1_forget_5 (a b : Nat) (h : fp_X1_forget_5 a b = true) : fp_X9_window_0_x_x_x_x_x a b = true := pvfp_sub (l1 := fpL_X1_forget_5) (l2 := fpL_X9_window_0_x_x_x_x_x) (by decide) a b h
theorem fp_X9_window_0_x_x_x_x_x_fp_X4_becomeNew_x_x_x_x_x_x (a b : Nat) (h : fp_X4_becomeNew_x_x_x_x_x_x a b = true) : fp_X9_window_0_x_x_x_x_x a b = true := pvfp_sub (l1 := fpL_X4_becomeNew_x_x_x_x_x_x) (l2 := fpL_X9_window_0_x_x_x_x_x) (by decide) a b h
set_option maxHeartbeats 4000000 in
set_option maxRecDepth 10000 in
theorem sf_X9_window_0_x_x_x_x_x (M : pvM) (hok : pvOk M) (n1 : Int32) (n2 : Int32) (n3 : Int32) (n4 : Int32) (n5 : Int32) (d : Nat) : PW 210 d (0, [some (pvR 0), some (pvI n1), some (pvI n2), some (pvI n3), some (pvI n4), some (pvI n5), none], [], M) (fun r X => (∃ x : Int32, r = some (pvI x) ∧ (-4) ≤ Int32.toInt x ∧ Int32.toInt x ≤ 6) ∧ pvOk X ∧ pvFr fp_X9_window_0_x_x_x_x_x M X) := by
  have hT : pvdom 210 = pvD_210 := rfl
  refine pw_blk hT 3 (S' := (4, [some (pvR 0), some (pvI n1), some (pvI n2), some (pvI n3), some (pvI n4), some (pvI n5), none], [pvI 6, pvI 0, pvI n1], M)) rfl ⟨trivial, trivial, trivial, trivial⟩ ?_
  refine pw_callT hT (as := [pvI n1, pvI 0, pvI 6]) (lo1 := [some (pvI n1), some (pvI 0), some (pvI 6)]) (d1 := d) (rest := []) rfl rfl rfl rfl rfl (fun h => absurd h (by decide)) (Nat.zero_le _) rfl rfl rfl (sf_X9_within_x_x_x M hok n1 0 6 d) ?_
  by_cases c6_ : n1 < 0
  · refine pw_eqI (if_pos c6_) ?_
    have b7_ : (-2147483648) ≤ Int32.toInt n1 ∧ Int32.toInt n1 ≤ (-1) := zr_lt_l (-1) c6_ (zbnd n1) (show 0 ≤ Int32.toInt 0 ∧ Int32.toInt 0 ≤ 0 from (by decide)) (by decide)
    show PW 210 d (7, [some (pvR 0), some (pvI n1), some (pvI n2), some (pvI n3), some (pvI n4), some (pvI n5), none], [pvI 0], M) _
    refine pw_ifn hT (c := 0 = 0) rfl rfl (fun c8_ => absurd (by decide) c8_) (fun c8_ => ?_)
    refine pw_blk hT 1 (S' := (11, [some (pvR 0), some (pvI n1), some (pvI n2), some (pvI n3), some (pvI n4), some (pvI n5), none], [pvI (-1)], M)) rfl ⟨trivial, trivial⟩ ?_
    exact pw_ret hT rfl (r := some (pvI (-1))) (M' := M) ⟨rfl, rfl⟩ ⟨⟨_, rfl, (zr_wide (show (-1) ≤ Int32.toInt (-1) ∧ Int32.toInt (-1) ≤ (-1) from (by decide)) (by decide) (by decide))⟩, hok, pvfr_0⟩
  · refine pw_eqI (if_neg c6_) ?_
    have b9_ : 0 ≤ Int32.toInt n1 ∧ Int32.toInt n1 ≤ 2147483647 := zr_nlt_l 0 c6_ (zbnd n1) (show 0 ≤ Int32.toInt 0 ∧ Int32.toInt 0 ≤ 0 from (by decide)) (by decide)
    by_cases c10_ : 6 < n1
    · refine pw_eqI (if_pos c10_) ?_
      have b11_ : 7 ≤ Int32.toInt n1 ∧ Int32.toInt n1 ≤ 2147483647 := zr_lt_r 7 c10_ b9_ (show 6 ≤ Int32.toInt 6 ∧ Int32.toInt 6 ≤ 6 from (by decide)) (by decide)
      show PW 210 d (7, [some (pvR 0), some (pvI n1), some (pvI n2), some (pvI n3), some (pvI n4), some (pvI n5), none], [pvI 0], M) _
      refine pw_ifn hT (c := 0 = 0) rfl rfl (fun c12_ => absurd (by decide) c12_) (fun c12_ => ?_)
      refine pw_blk hT 1 (S' := (11, [some (pvR 0), some (pvI n1), some (pvI n2), some (pvI n3), some (pvI n4), some (pvI n5), none], [pvI (-1)], M)) rfl ⟨trivial, trivial⟩ ?_
      exact pw_ret hT rfl (r := some (pvI (-1))) (M' := M) ⟨rfl, rfl⟩ ⟨⟨_, rfl, (zr_wide (show (-1) ≤ Int32.toInt (-1) ∧ Int32.toInt (-1) ≤ (-1) from (by decide)) (by decide) (by decide))⟩, hok, pvfr_0⟩
    · refine pw_eqI (if_neg c10_) ?_
      have b13_ : 0 ≤ Int32.toInt n1 ∧ Int32.toInt n1 ≤ 6 := zr_nlt_r 6 c10_ b9_ (show 6 ≤ Int32.toInt 6 ∧ Int32.toInt 6 ≤ 6 from (by decide)) (by decide)
      show PW 210 d (7, [some (pvR 0), some (pvI n1), some (pvI n2), some (pvI n3), some (pvI n4), some (pvI n5), none], [pvI 1], M) _
      refine pw_ifn hT (c := 1 = 0) rfl rfl (fun c14_ => ?_) (fun c14_ => absurd c14_ (by decide))
      refine pw_blk hT 3 (S' := (16, [some (pvR 0), some (pvI n1), some (pvI n2), some (pvI n3), some (pvI n4), some (pvI n5), none], [pvI 9, pvI 0, pvI n2], M)) rfl ⟨trivial, trivial, trivial, trivial⟩ ?_
      refine pw_callT hT (as := [pvI n2, pvI 0, pvI 9]) (lo1 := [some (pvI n2), some (pvI 0), some (pvI 9)]) (d1 := d) (rest := []) rfl rfl rfl rfl rfl (fun h => absurd h (by decide)) (Nat.zero_le _) rfl rfl rfl (sf_X9_within_x_x_x M hok n2 0 9 d) ?_
      by_cases c20_ : n2 < 0
      · refine pw_eqI (if_pos c20_) ?_
        have b21_ : (-2147483648) ≤ Int32.toInt n2 ∧ Int32.toInt n2 ≤ (-1) := zr_lt_l (-1) c20_ (zbnd n2) (show 0 ≤ Int32.toInt 0 ∧ Int32.toInt 0 ≤ 0 from (by decide)) (by decide)
        show PW 210 d (19, [some (pvR 0), some (pvI n1), some (pvI n2), some (pvI n3), some (pvI n4), some (pvI n5), none], [pvI 0], M) _
        refine pw_if hT (c := 0 = 0) rfl rfl (fun c22_ => ?_) (fun c22_ => absurd (by decide) c22_)
        refine pw_blk hT 1 (S' := (44, [some (pvR 0), some (pvI n1), some (pvI n2), some (pvI n3), some (pvI n4), some (pvI n5), none], [pvI (-2)], M)) rfl ⟨trivial, trivial⟩ ?_
        exact pw_ret hT rfl (r := some (pvI (-2))) (M' := M) ⟨rfl, rfl⟩ ⟨⟨_, rfl, (zr_wide (show (-2) ≤ Int32.toInt (-2) ∧ Int32.toInt (-2) ≤ (-2) from (by decide)) (by decide) (by decide))⟩, hok, pvfr_0⟩
      · refine pw_eqI (if_neg c20_) ?_
        have b23_ : 0 ≤ Int32.toInt n2 ∧ Int32.toInt n2 ≤ 2147483647 := zr_nlt_l 0 c20_ (zbnd n2) (show 0 ≤ Int32.toInt 0 ∧ Int32.toInt 0 ≤ 0 from (by decide)) (by decide)
        by_cases c24_ : 9 < n2
        · refine pw_eqI (if_pos c24_) ?_
          have b25_ : 10 ≤ Int32.toInt n2 ∧ Int32.toInt n2 ≤ 2147483647 := zr_lt_r 10 c24_ b23_ (show 9 ≤ Int32.toInt 9 ∧ Int32.toInt 9 ≤ 9 from (by decide)) (by decide)
          show PW 210 d (19, [some (pvR 0), some (pvI n1), some (pvI n2), some (pvI n3), some (pvI n4), some (pvI n5), none], [pvI 0], M) _
          refine pw_if hT (c := 0 = 0) rfl rfl (fun c26_ => ?_) (fun c26_ => absurd (by decide) c26_)
          refine pw_blk hT 1 (S' := (44, [some (pvR 0), some (pvI n1), some (pvI n2), some (pvI n3), some (pvI n4), some (pvI n5), none], [pvI (-2)], M)) rfl ⟨trivial, trivial⟩ ?_
          exact pw_ret hT rfl (r := some (pvI (-2))) (M' := M) ⟨rfl, rfl⟩ ⟨⟨_, rfl, (zr_wide (show (-2) ≤ Int32.toInt (-2) ∧ Int32.toInt (-2) ≤ (-2) from (by decide)) (by decide) (by decide))⟩, hok, pvfr_0⟩
        · refine pw_eqI (if_neg c24_) ?_
          have b27_ : 0 ≤ Int32.toInt n2 ∧ Int32.toInt n2 ≤ 9 := zr_nlt_r 9 c24_ b23_ (show 9 ≤ Int32.toInt 9 ∧ Int32.toInt 9 ≤ 9 from (by decide)) (by decide)
          show PW 210 d (19, [some (pvR 0), some (pvI n1), some (pvI n2), some (pvI n3), some (pvI n4), some (pvI n5), none], [pvI 1], M) _
          refine pw_if hT (c := 1 = 0) rfl rfl (fun c28_ => absurd c28_ (by decide)) (fun c28_ => ?_)
          refine pw_blk hT 2 (S' := (25, [some (pvR 0), some (pvI n1), some (pvI n2), some (pvI n3), some (pvI n4), some (pvI n5), none], [pvI n4, pvI n3], M)) rfl ⟨trivial, trivial, trivial⟩ ?_
          refine pw_callT hT (as := [pvI n3, pvI n4]) (lo1 := [some (pvI n3), some (pvI n4)]) (d1 := d) (rest := []) rfl rfl rfl rfl rfl (fun h => absurd h (by decide)) (Nat.zero_le _) rfl rfl rfl (sf_X9_isPlace_x_x M hok n3 n4 d) ?_
          by_cases c34_ : n3 < 0
          · refine pw_eqI (if_pos c34_) ?_
            have b35_ : (-2147483648) ≤ Int32.toInt n3 ∧ Int32.toInt n3 ≤ (-1) := zr_lt_l (-1) c34_ (zbnd n3) (show 0 ≤ Int32.toInt 0 ∧ Int32.toInt 0 ≤ 0 from (by decide)) (by decide)
            show PW 210 d (28, [some (pvR 0), some (pvI n1), some (pvI n2), some (pvI n3), some (pvI n4), some (pvI n5), none], [pvI 0], M) _
            refine pw_if hT (c := 0 = 0) rfl rfl (fun c36_ => ?_) (fun c36_ => absurd (by decide) c36_)
            refine pw_blk hT 1 (S' := (44, [some (pvR 0), some (pvI n1), some (pvI n2), some (pvI n3), some (pvI n4), some (pvI n5), none], [pvI (-2)], M)) rfl ⟨trivial, trivial⟩ ?_
            exact pw_ret hT rfl (r := some (pvI (-2))) (M' := M) ⟨rfl, rfl⟩ ⟨⟨_, rfl, (zr_wide (show (-2) ≤ Int32.toInt (-2) ∧ Int32.toInt (-2) ≤ (-2) from (by decide)) (by decide) (by decide))⟩, hok, pvfr_0⟩
          · refine pw_eqI (if_neg c34_) ?_
            have b37_ : 0 ≤ Int32.toInt n3 ∧ Int32.toInt n3 ≤ 2147483647 := zr_nlt_l 0 c34_ (zbnd n3) (show 0 ≤ Int32.toInt 0 ∧ Int32.toInt 0 ≤ 0 from (by decide)) (by decide)
            by_cases c38_ : 3 < n3
            · refine pw_eqI (if_pos c38_) ?_
              have b39_ : 4 ≤ Int32.toInt n3 ∧ Int32.toInt n3 ≤ 2147483647 := zr_lt_r 4 c38_ b37_ (show 3 ≤ Int32.toInt 3 ∧ Int32.toInt 3 ≤ 3 from (by decide)) (by decide)
              show PW 210 d (28, [some (pvR 0), some (pvI n1), some (pvI n2), some (pvI n3), some (pvI n4), some (pvI n5), none], [pvI 0], M) _
              refine pw_if hT (c := 0 = 0) rfl rfl (fun c40_ => ?_) (fun c40_ => absurd (by decide) c40_)
              refine pw_blk hT 1 (S' := (44, [some (pvR 0), some (pvI n1), some (pvI n2), some (pvI n3), some (pvI n4), some (pvI n5), none], [pvI (-2)], M)) rfl ⟨trivial, trivial⟩ ?_
              exact pw_ret hT rfl (r := some (pvI (-2))) (M' := M) ⟨rfl, rfl⟩ ⟨⟨_, rfl, (zr_wide (show (-2) ≤ Int32.toInt (-2) ∧ Int32.toInt (-2) ≤ (-2) from (by decide)) (by decide) (by decide))⟩, hok, pvfr_0⟩
            · refine pw_eqI (if_neg c38_) ?_
              have b41_ : 0 ≤ Int32.toInt n3 ∧ Int32.toInt n3 ≤ 3 := zr_nlt_r 3 c38_ b37_ (show 3 ≤ Int32.toInt 3 ∧ Int32.toInt 3 ≤ 3 from (by decide)) (by decide)
              by_cases c42_ : n4 < 0
              · refine pw_eqI (if_pos c42_) ?_
                have b43_ : (-2147483648) ≤ Int32.toInt n4 ∧ Int32.toInt n4 ≤ (-1) := zr_lt_l (-1) c42_ (zbnd n4) (show 0 ≤ Int32.toInt 0 ∧ Int32.toInt 0 ≤ 0 from (by decide)) (by decide)
                show PW 210 d (28, [some (pvR 0), some (pvI n1), some (pvI n2), some (pvI n3), some (pvI n4), some (pvI n5), none], [pvI 0], M) _
                refine pw_if hT (c := 0 = 0) rfl rfl (fun c44_ => ?_) (fun c44_ => absurd (by decide) c44_)
                refine pw_blk hT 1 (S' := (44, [some (pvR 0), some (pvI n1), some (pvI n2), some (pvI n3), some (pvI n4), some (pvI n5), none], [pvI (-2)], M)) rfl ⟨trivial, trivial⟩ ?_
                exact pw_ret hT rfl (r := some (pvI (-2))) (M' := M) ⟨rfl, rfl⟩ ⟨⟨_, rfl, (zr_wide (show (-2) ≤ Int32.toInt (-2) ∧ Int32.toInt (-2) ≤ (-2) from (by decide)) (by decide) (by decide))⟩, hok, pvfr_0⟩
              · refine pw_eqI (if_neg c42_) ?_
                have b45_ : 0 ≤ Int32.toInt n4 ∧ Int32.toInt n4 ≤ 2147483647 := zr_nlt_l 0 c42_ (zbnd n4) (show 0 ≤ Int32.toInt 0 ∧ Int32.toInt 0 ≤ 0 from (by decide)) (by decide)
                by_cases c46_ : 4 < n4
                · refine pw_eqI (if_pos c46_) ?_
                  have b47_ : 5 ≤ Int32.toInt n4 ∧ Int32.toInt n4 ≤ 2147483647 := zr_lt_r 5 c46_ b45_ (show 4 ≤ Int32.toInt 4 ∧ Int32.toInt 4 ≤ 4 from (by decide)) (by decide)
                  show PW 210 d (28, [some (pvR 0), some (pvI n1), some (pvI n2), some (pvI n3), some (pvI n4), some (pvI n5), none], [pvI 0], M) _
                  refine pw_if hT (c := 0 = 0) rfl rfl (fun c48_ => ?_) (fun c48_ => absurd (by decide) c48_)
                  refine pw_blk hT 1 (S' := (44, [some (pvR 0), some (pvI n1), some (pvI n2), some (pvI n3), some (pvI n4), some (pvI n5), none], [pvI (-2)], M)) rfl ⟨trivial, trivial⟩ ?_
                  exact pw_ret hT rfl (r := some (pvI (-2))) (M' := M) ⟨rfl, rfl⟩ ⟨⟨_, rfl, (zr_wide (show (-2) ≤ Int32.toInt (-2) ∧ Int32.toInt (-2) ≤ (-2) from (by decide)) (by decide) (by decide))⟩, hok, pvfr_0⟩
                · refine pw_eqI (if_neg c46_) ?_
                  have b49_ : 0 ≤ Int32.toInt n4 ∧ Int32.toInt n4 ≤ 4 := zr_nlt_r 4 c46_ b45_ (show 4 ≤ Int32.toInt 4 ∧ Int32.toInt 4 ≤ 4 from (by decide)) (by decide)
                  show PW 210 d (28, [some (pvR 0), some (pvI n1), some (pvI n2), some (pvI n3), some (pvI n4), some (pvI n5), none], [pvI 1], M) _
                  refine pw_if hT (c := 1 = 0) rfl rfl (fun c50_ => absurd c50_ (by decide)) (fun c50_ => ?_)
                  refine pw_blk hT 3 (S' := (36, [some (pvR 0), some (pvI n1), some (pvI n2), some (pvI n3), some (pvI n4), some (pvI n5), none], [pvI 9, pvI 1, pvI n5], M)) rfl ⟨trivial, trivial, trivial, trivial⟩ ?_
                  refine pw_callT hT (as := [pvI n5, pvI 1, pvI 9]) (lo1 := [some (pvI n5), some (pvI 1), some (pvI 9)]) (d1 := d) (rest := []) rfl rfl rfl rfl rfl (fun h => absurd h (by decide)) (Nat.zero_le _) rfl rfl rfl (sf_X9_within_x_x_x M hok n5 1 9 d) ?_
                  by_cases c56_ : n5 < 1
                  · refine pw_eqI (if_pos c56_) ?_
                    have b57_ : (-2147483648) ≤ Int32.toInt n5 ∧ Int32.toInt n5 ≤ 0 := zr_lt_l 0 c56_ (zbnd n5) (show 1 ≤ Int32.toInt 1 ∧ Int32.toInt 1 ≤ 1 from (by decide)) (by decide)
                    show PW 210 d (39, [some (pvR 0), some (pvI n1), some (pvI n2), some (pvI n3), some (pvI n4), some (pvI n5), none], [pvI 0], M) _
                    refine pw_ifn hT (c := 0 = 0) rfl rfl (fun c58_ => absurd (by decide) c58_) (fun c58_ => ?_)
                    refine pw_blk hT 1 (S' := (44, [some (pvR 0), some (pvI n1), some (pvI n2), some (pvI n3), some (pvI n4), some (pvI n5), none], [pvI (-2)], M)) rfl ⟨trivial, trivial⟩ ?_
                    exact pw_ret hT rfl (r := some (pvI (-2))) (M' := M) ⟨rfl, rfl⟩ ⟨⟨_, rfl, (zr_wide (show (-2) ≤ Int32.toInt (-2) ∧ Int32.toInt (-2) ≤ (-2) from (by decide)) (by decide) (by decide))⟩, hok, pvfr_0⟩
                  · refine pw_eqI (if_neg c56_) ?_
                    have b59_ : 1 ≤ Int32.toInt n5 ∧ Int32.toInt n5 ≤ 2147483647 := zr_nlt_l 1 c56_ (zbnd n5) (show 1 ≤ Int32.toInt 1 ∧ Int32.toInt 1 ≤ 1 from (by decide)) (by decide)
                    by_cases c60_ : 9 < n5
                    · refine pw_eqI (if_pos c60_) ?_
                      have b61_ : 10 ≤ Int32.toInt n5 ∧ Int32.toInt n5 ≤ 2147483647 := zr_lt_r 10 c60_ b59_ (show 9 ≤ Int32.toInt 9 ∧ Int32.toInt 9 ≤ 9 from (by decide)) (by decide)
                      show PW 210 d (39, [some (pvR 0), some (pvI n1), some (pvI n2), some (pvI n3), some (pvI n4), some (pvI n5), none], [pvI 0], M) _
                      refine pw_ifn hT (c := 0 = 0) rfl rfl (fun c62_ => absurd (by decide) c62_) (fun c62_ => ?_)
                      refine pw_blk hT 1 (S' := (44, [some (pvR 0), some (pvI n1), some (pvI n2), some (pvI n3), some (pvI n4), some (pvI n5), none], [pvI (-2)], M)) rfl ⟨trivial, trivial⟩ ?_
                      exact pw_ret hT rfl (r := some (pvI (-2))) (M' := M) ⟨rfl, rfl⟩ ⟨⟨_, rfl, (zr_wide (show (-2) ≤ Int32.toInt (-2) ∧ Int32.toInt (-2) ≤ (-2) from (by decide)) (by decide) (by decide))⟩, hok, pvfr_0⟩
                    · refine pw_eqI (if_neg c60_) ?_
                      have b63_ : 1 ≤ Int32.toInt n5 ∧ Int32.toInt n5 ≤ 9 := zr_nlt_r 9 c60_ b59_ (show 9 ≤ Int32.toInt 9 ∧ Int32.toInt 9 ≤ 9 from (by decide)) (by decide)
                      show PW 210 d (39, [some (pvR 0), some (pvI n1), some (pvI n2), some (pvI n3), some (pvI n4), some (pvI n5), none], [pvI 1], M) _
                      refine pw_ifn hT (c := 1 = 0) rfl rfl (fun c64_ => ?_) (fun c64_ => absurd c64_ (by decide))
                      have b65_ : 0 ≤ Int32.toInt (M.1 8 1) ∧ Int32.toInt (M.1 8 1) ≤ 7 := pvok_r hok 8 1 rfl
                      refine pw_blk hT 4 (S' := (54, [some (pvR 0), some (pvI n1), some (pvI n2), some (pvI n3), some (pvI n4), some (pvI n5), none], [pvI 7, pvI (M.1 8 1)], M)) rfl ⟨trivial, rfl, rfl, trivial, trivial⟩ ?_
                      refine pw_ic hT (c := (M.1 8 1) < 7) rfl rfl (fun c66_ => ?_) (fun c66_ => ?_)
                      · have b67_ : 0 ≤ Int32.toInt (M.1 8 1) ∧ Int32.toInt (M.1 8 1) ≤ 6 := zr_lt_l 6 c66_ b65_ (show 7 ≤ Int32.toInt 7 ∧ Int32.toInt 7 ≤ 7 from (by decide)) (by decide)
                        obtain ⟨q69_, b68_⟩ : (Int32.toInt ((M.1 8 1) + 1) = Int32.toInt (M.1 8 1) + Int32.toInt 1) ∧ (1 ≤ Int32.toInt ((M.1 8 1) + 1) ∧ Int32.toInt ((M.1 8 1) + 1) ≤ 7) := zadd_r (M.1 8 1) 1 1 7 b67_ (show 1 ≤ Int32.toInt 1 ∧ Int32.toInt 1 ≤ 1 from (by decide)) (by decide) (by decide) (by decide) (by decide)
                        have u70_ : Int32.toInt 1 = 1 := by decide
                        refine pw_blkw hT 8 (pc := 74) (lo := [some (pvR 0), some (pvI n1), some (pvI n2), some (pvI n3), some (pvI n4), some (pvI n5), none]) (st := [pvI (M.1 8 1)]) (M := pvu M 8 1 ((M.1 8 1) + 1)) rfl ⟨trivial, rfl, trivial, rfl, trivial, trivial, trivial, rfl, trivial⟩ (fun M71_ e72_ => ?_)
                        have o73_ : pvOk M71_ := pvok_u2 e72_ hok rfl (zr_wide b68_ (by decide) (by decide))
                        have f74_ : pvFr fp_X9_window_0_x_x_x_x_x M M71_ := pvfr_u e72_ pvfr_0 rfl
                        refine pw_blkr hT 6 (pc := 86) (lo := [some (pvR 0), some (pvI n1), some (pvI n2), some (pvI n3), some (pvI n4), some (pvI n5), some (pvI (M.1 8 1))]) (st := []) (M := M71_) (z := (pvbs 10 + Int32.toNatClampNeg (M.1 8 1))) rfl ⟨trivial, trivial, rfl, rfl, trivial, ⟨rfl, (zr_in (n := 7) b67_ (by decide) (by decide))⟩, trivial⟩ (fun q75_ e77_ => ?_)
                        have k76_ : pvkl q75_ = 3 := pvel_10 (zr_in (n := 7) b67_ (by decide) (by decide)) e77_
                        refine pw_blk hT 5 (S' := (93, [some (pvR 0), some (pvI n1), some (pvI n2), some (pvI n3), some (pvI n4), some (pvI n5), some (pvI (M.1 8 1))], [pvI n5, pvI n4, pvI n3, pvI n2, pvI n1, pvR q75_], M71_)) rfl ⟨trivial, trivial, trivial, trivial, trivial, trivial⟩ ?_
                        refine pw_callV hT (as := [pvR q75_, pvI n1, pvI n2, pvI n3, pvI n4, pvI n5]) (lo1 := [some (pvR q75_), some (pvI n1), some (pvI n2), some (pvI n3), some (pvI n4), some (pvI n5), none]) (d1 := d) (rest := []) rfl rfl rfl rfl rfl (fun _ => k76_) (Nat.zero_le _) rfl rfl rfl (sf_X4_becomeNew_x_x_x_x_x_x M71_ o73_ q75_ n1 n2 n3 n4 n5 k76_ b13_ b27_ b41_ b49_ (zr_wide b63_ (by decide) (by decide)) d) (fun M79_ o81_ g82_ => ?_)
                        have f83_ : pvFr fp_X9_window_0_x_x_x_x_x M M79_ := pvfr_t g82_ f74_ fp_X9_window_0_x_x_x_x_x_fp_X4_becomeNew_x_x_x_x_x_x
                        refine pw_blk hT 2 (S' := (100, [some (pvR 0), some (pvI n1), some (pvI n2), some (pvI n3), some (pvI n4), some (pvI n5), some (pvI (M.1 8 1))], [pvR 5], M79_)) rfl ⟨trivial, rfl, trivial⟩ ?_
                        refine pw_callV hT (as := [pvR 5]) (lo1 := [some (pvR 5), none]) (d1 := d) (rest := []) rfl rfl rfl rfl rfl (fun _ => rfl) (Nat.zero_le _) rfl rfl rfl (sf_X1_forget_5 M79_ o81_ d) (fun M85_ o87_ g88_ => ?_)
                        have f89_ : pvFr fp_X9_window_0_x_x_x_x_x M M85_ := pvfr_t g88_ f83_ fp_X9_window_0_x_x_x_x_x_fp_X1_forget_5
                        refine pw_blk hT 1 (S' := (105, [some (pvR 0), some (pvI n1), some (pvI n2), some (pvI n3), some (pvI n4), some (pvI n5), some (pvI (M.1 8 1))], [pvI (M.1 8 1)], M85_)) rfl ⟨trivial, trivial⟩ ?_
                        exact pw_ret hT rfl (r := some (pvI (M.1 8 1))) (M' := M85_) ⟨rfl, rfl⟩ ⟨⟨_, rfl, (zr_wide b67_ (by decide) (by decide))⟩, o87_, f89_⟩
                      · have b90_ : 7 ≤ Int32.toInt (M.1 8 1) ∧ Int32.toInt (M.1 8 1) ≤ 7 := zr_nlt_l 7 c66_ b65_ (show 7 ≤ Int32.toInt 7 ∧ Int32.toInt 7 ≤ 7 from (by decide)) (by decide)
                        refine pw_blk hT 1 (S' := (59, [some (pvR 0), some (pvI n1), some (pvI n2), some (pvI n3), some (pvI n4), some (pvI n5), none], [pvI (-4)], M)) rfl ⟨trivial, trivial⟩ ?_
                        exact pw_ret hT rfl (r := some (pvI (-4))) (M' := M) ⟨rfl, rfl⟩ ⟨⟨_, rfl, (zr_wide (show (-4) ≤ Int32.toInt (-4) ∧ Int32.toInt (-4) ≤ (-4) from (by decide)) (by decide) (by decide))⟩, hok, pvfr_0⟩
def fpL_X9_worth_0_x : List (Nat × Nat × Nat) := [(0, 12, 0), (0, 13, 0), (0, 14, 0), (0, 5, 2), (0, 5, 3), (1, 112, 0)]
def fp_X9_worth_0_x (q k : Nat) : Bool := pvfp fpL_X9_worth_0_x q k
theorem fp_X9_worth_0_x_fp_X1_beginFromNow_5 (a b : Nat) (h : fp_X1_beginFromNow_5 a b = true) : fp_X9_worth_0_x a b = true := pvfp_sub (l1 := fpL_X1_beginFromNow_5) (l2 := fpL_X9_worth_0_x) (by decide) a b h
set_option maxHeartbeats 4000000 in
set_option maxRecDepth 10000 in
theorem sf_X9_worth_0_x (M : pvM) (hok : pvOk M) (n1 : Int32) (d : Nat) : PW 212 d (0, [some (pvR 0), some (pvI n1), none], [], M) (fun r X => (∃ x : Int32, r = some (pvI x) ∧ (-35000000) ≤ Int32.toInt x ∧ Int32.toInt x ≤ 35000000) ∧ pvOk X ∧ pvFr fp_X9_worth_0_x M X) := by
  have hT : pvdom 212 = pvD_212 := rfl
  refine pw_blk hT 3 (S' := (5, [some (pvR 0), some (pvI n1), none], [pvI n1, pvR 8], M)) rfl ⟨trivial, rfl, trivial, trivial⟩ ?_
  refine pw_callT hT (as := [pvR 8, pvI n1]) (lo1 := [some (pvR 8), some (pvI n1)]) (d1 := d) (rest := []) rfl rfl rfl rfl rfl (fun _ => rfl) (Nat.zero_le _) rfl rfl rfl (sf_X7_has_8_x M hok n1 d) ?_
  by_cases c6_ : n1 < 0
  · refine pw_eqI (if_pos c6_) ?_
    have b7_ : (-2147483648) ≤ Int32.toInt n1 ∧ Int32.toInt n1 ≤ (-1) := zr_lt_l (-1) c6_ (zbnd n1) (show 0 ≤ Int32.toInt 0 ∧ Int32.toInt 0 ≤ 0 from (by decide)) (by decide)
    show PW 212 d (8, [some (pvR 0), some (pvI n1), none], [pvI 0], M) _
    refine pw_ifn hT (c := 0 = 0) rfl rfl (fun c8_ => absurd (by decide) c8_) (fun c8_ => ?_)
    refine pw_blk hT 1 (S' := (12, [some (pvR 0), some (pvI n1), none], [pvI (-1)], M)) rfl ⟨trivial, trivial⟩ ?_
    exact pw_ret hT rfl (r := some (pvI (-1))) (M' := M) ⟨rfl, rfl⟩ ⟨⟨_, rfl, (zr_wide (show (-1) ≤ Int32.toInt (-1) ∧ Int32.toInt (-1) ≤ (-1) from (by decide)) (by decide) (by decide))⟩, hok, pvfr_0⟩
  · refine pw_eqI (if_neg c6_) ?_
    have b9_ : 0 ≤ Int32.toInt n1 ∧ Int32.toInt n1 ≤ 2147483647 := zr_nlt_l 0 c6_ (zbnd n1) (show 0 ≤ Int32.toInt 0 ∧ Int32.toInt 0 ≤ 0 from (by decide)) (by decide)
    have b10_ : 0 ≤ Int32.toInt (M.1 8 1) ∧ Int32.toInt (M.1 8 1) ≤ 7 := pvok_r hok 8 1 rfl
    by_cases c11_ : (M.1 8 1) ≤ n1
    · refine pw_eqI (if_pos c11_) ?_
      have d12_ : Int32.toInt (M.1 8 1) ≤ Int32.toInt n1 := (zi_le _ _).mp c11_
      show PW 212 d (8, [some (pvR 0), some (pvI n1), none], [pvI 0], M) _
      refine pw_ifn hT (c := 0 = 0) rfl rfl (fun c13_ => absurd (by decide) c13_) (fun c13_ => ?_)
      refine pw_blk hT 1 (S' := (12, [some (pvR 0), some (pvI n1), none], [pvI (-1)], M)) rfl ⟨trivial, trivial⟩ ?_
      exact pw_ret hT rfl (r := some (pvI (-1))) (M' := M) ⟨rfl, rfl⟩ ⟨⟨_, rfl, (zr_wide (show (-1) ≤ Int32.toInt (-1) ∧ Int32.toInt (-1) ≤ (-1) from (by decide)) (by decide) (by decide))⟩, hok, pvfr_0⟩
    · refine pw_eqI (if_neg c11_) ?_
      have b14_ : 1 ≤ Int32.toInt (M.1 8 1) ∧ Int32.toInt (M.1 8 1) ≤ 7 := zr_nle_l 1 c11_ b10_ b9_ (by decide)
      have b15_ : 0 ≤ Int32.toInt n1 ∧ Int32.toInt n1 ≤ 6 := zr_nle_r 6 c11_ b9_ b14_ (by decide)
      have d16_ : Int32.toInt (M.1 8 1) > Int32.toInt n1 := Int.not_le.mp ((not_congr (zi_le _ _)).mp c11_)
      show PW 212 d (8, [some (pvR 0), some (pvI n1), none], [pvI 1], M) _
      refine pw_ifn hT (c := 1 = 0) rfl rfl (fun c17_ => ?_) (fun c17_ => absurd c17_ (by decide))
      refine pw_blk hT 2 (S' := (17, [some (pvR 0), some (pvI n1), none], [pvR 5], M)) rfl ⟨trivial, rfl, trivial⟩ ?_
      refine pw_callV hT (as := [pvR 5]) (lo1 := [some (pvR 5)]) (d1 := d) (rest := []) rfl rfl rfl rfl rfl (fun _ => rfl) (Nat.zero_le _) rfl rfl rfl (sf_X1_beginFromNow_5 M hok d) (fun M19_ o21_ g22_ => ?_)
      have f23_ : pvFr fp_X9_worth_0_x M M19_ := pvfr_t g22_ pvfr_0 fp_X9_worth_0_x_fp_X1_beginFromNow_5
      refine pw_blk hT 2 (S' := (24, [some (pvR 0), some (pvI n1), none], [pvR 5], M19_)) rfl ⟨trivial, rfl, trivial⟩ ?_
      refine pw_callGp hT (as := [pvR 5]) (lo1 := [some (pvR 5)]) (d1 := d) (rest := []) rfl rfl rfl rfl rfl (fun _ => rfl) (Nat.zero_le _) rfl rfl rfl (sf_X1_cost_5 M19_ o21_ d) (fun x24_ b26_ => ?_)
      refine pw_blkw hT 7 (pc := 38) (lo := [some (pvR 0), some (pvI n1), some (pvI x24_)]) (st := []) (M := pvu M19_ 12 (Int32.toNatClampNeg n1) 0) rfl ⟨trivial, trivial, rfl, rfl, trivial, trivial, ⟨rfl, (zr_in (n := 7) b15_ (by decide) (by decide))⟩, trivial⟩ (fun M29_ e30_ => ?_)
      have o31_ : pvOk M29_ := pvok_u2 e30_ o21_ rfl (zr_wide (show 0 ≤ Int32.toInt 0 ∧ Int32.toInt 0 ≤ 0 from (by decide)) (by decide) (by decide))
      have f32_ : pvFr fp_X9_worth_0_x M M29_ := pvfr_u e30_ f23_ rfl
      refine pw_blk hT 3 (S' := (43, [some (pvR 0), some (pvI n1), some (pvI x24_)], [pvR 5, pvI x24_], M29_)) rfl ⟨trivial, trivial, rfl, trivial⟩ ?_
      refine pw_callGp hT (as := [pvR 5]) (lo1 := [some (pvR 5)]) (d1 := d) (rest := [pvI x24_]) rfl rfl rfl rfl rfl (fun _ => rfl) (Nat.zero_le _) rfl rfl rfl (sf_X1_cost_5 M29_ o31_ d) (fun x33_ b35_ => ?_)
      obtain ⟨q39_, b38_⟩ : (Int32.toInt (x24_ - x33_) = Int32.toInt x24_ - Int32.toInt x33_) ∧ ((-35000000) ≤ Int32.toInt (x24_ - x33_) ∧ Int32.toInt (x24_ - x33_) ≤ 35000000) := zsub_r x24_ x33_ (-35000000) 35000000 b26_ b35_ (by decide) (by decide) (by decide) (by decide)
      refine pw_blk hT 1 (S' := (47, [some (pvR 0), some (pvI n1), some (pvI x24_)], [pvI (x24_ - x33_)], M29_)) rfl ⟨trivial, trivial⟩ ?_
      exact pw_ret hT rfl (r := some (pvI (x24_ - x33_))) (M' := M29_) ⟨rfl, rfl⟩ ⟨⟨_, rfl, b38_⟩, o31_, f32_⟩
