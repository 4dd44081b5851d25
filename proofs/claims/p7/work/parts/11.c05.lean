def fpL_X4_becomeAs_x_x : List (Nat × Nat × Nat) := [(1, 113, 0), (1, 3, 1), (1, 3, 2), (1, 3, 3), (1, 3, 4), (1, 3, 5), (1, 3, 6)]
def fp_X4_becomeAs_x_x (q k : Nat) : Bool := pvfp fpL_X4_becomeAs_x_x q k
theorem fp_X4_becomeAs_x_x_fp_X4_becomeNew_x_x_x_x_x_x (a b : Nat) (h : fp_X4_becomeNew_x_x_x_x_x_x a b = true) : fp_X4_becomeAs_x_x a b = true := pvfp_sub (l1 := fpL_X4_becomeNew_x_x_x_x_x_x) (l2 := fpL_X4_becomeAs_x_x) (by decide) a b h
set_option maxHeartbeats 4000000 in
set_option maxRecDepth 10000 in
theorem sf_X4_becomeAs_x_x (M : pvM) (hok : pvOk M) (q0 : Nat) (q1 : Nat) (hq0 : pvkl q0 = 3) (hq1 : pvkl q1 = 3) (d : Nat) : PW 133 d (0, [some (pvR q0), some (pvR q1)], [], M) (fun r X => r = none ∧ pvOk X ∧ pvFr fp_X4_becomeAs_x_x M X) := by
  have hT : pvdom 133 = pvD_133 := rfl
  have b1_ : 0 ≤ Int32.toInt (M.1 q1 0) ∧ Int32.toInt (M.1 q1 0) ≤ 6 := pvok_r hok q1 0 ((pvrg_o 0 hq1 (by decide) (by decide)).trans rfl)
  have b2_ : 0 ≤ Int32.toInt (M.1 q1 1) ∧ Int32.toInt (M.1 q1 1) ≤ 9 := pvok_r hok q1 1 ((pvrg_o 1 hq1 (by decide) (by decide)).trans rfl)
  have b3_ : 0 ≤ Int32.toInt (M.1 q1 2) ∧ Int32.toInt (M.1 q1 2) ≤ 3 := pvok_r hok q1 2 ((pvrg_o 2 hq1 (by decide) (by decide)).trans rfl)
  have b4_ : 0 ≤ Int32.toInt (M.1 q1 3) ∧ Int32.toInt (M.1 q1 3) ≤ 4 := pvok_r hok q1 3 ((pvrg_o 3 hq1 (by decide) (by decide)).trans rfl)
  have b5_ : 0 ≤ Int32.toInt (M.1 q1 4) ∧ Int32.toInt (M.1 q1 4) ≤ 9 := pvok_r hok q1 4 ((pvrg_o 4 hq1 (by decide) (by decide)).trans rfl)
  refine pw_blk hT 11 (S' := (21, [some (pvR q0), some (pvR q1)], [pvI (M.1 q1 4), pvI (M.1 q1 3), pvI (M.1 q1 2), pvI (M.1 q1 1), pvI (M.1 q1 0), pvR q0], M)) rfl ⟨trivial, trivial, hq1, trivial, hq1, trivial, hq1, trivial, hq1, trivial, hq1, trivial⟩ ?_
  refine pw_callV hT (as := [pvR q0, pvI (M.1 q1 0), pvI (M.1 q1 1), pvI (M.1 q1 2), pvI (M.1 q1 3), pvI (M.1 q1 4)]) (lo1 := [some (pvR q0), some (pvI (M.1 q1 0)), some (pvI (M.1 q1 1)), some (pvI (M.1 q1 2)), some (pvI (M.1 q1 3)), some (pvI (M.1 q1 4)), none]) (d1 := d) (rest := []) rfl rfl rfl rfl rfl (fun _ => hq0) (Nat.zero_le _) rfl rfl rfl (sf_X4_becomeNew_x_x_x_x_x_x M hok q0 (M.1 q1 0) (M.1 q1 1) (M.1 q1 2) (M.1 q1 3) (M.1 q1 4) hq0 b1_ b2_ b3_ b4_ b5_ d) (fun M7_ o9_ g10_ => ?_)
  have f11_ : pvFr fp_X4_becomeAs_x_x M M7_ := pvfr_t g10_ pvfr_0 fp_X4_becomeAs_x_x_fp_X4_becomeNew_x_x_x_x_x_x
  have b12_ : 0 ≤ Int32.toInt (M7_.1 q1 5) ∧ Int32.toInt (M7_.1 q1 5) ≤ 1 := pvok_r o9_ q1 5 ((pvrg_o 5 hq1 (by decide) (by decide)).trans rfl)
  refine pw_blkw hT 4 (pc := 32) (lo := [some (pvR q0), some (pvR q1)]) (st := []) (M := pvu M7_ q0 5 (M7_.1 q1 5)) rfl ⟨trivial, trivial, hq1, ⟨hq0, pv01 b12_⟩, trivial⟩ (fun M13_ e14_ => ?_)
  have o15_ : pvOk M13_ := pvok_u2 e14_ o9_ ((pvrg_o 5 hq0 (by decide) (by decide)).trans rfl) b12_
  have f16_ : pvFr fp_X4_becomeAs_x_x M M13_ := pvfr_u e14_ f11_ (pvfp_r (l := fpL_X4_becomeAs_x_x) (pvowr_3 hq0) (kk := 6) (by decide) (Or.inr rfl))
  refine pw_blkw hT 8 (pc := 46) (lo := [some (pvR q0), some (pvR q1)]) (st := []) (M := pvr M13_ (q0 + 7) (va_cpy (M13_.1 (q1 + 7)) (M13_.1 (q0 + 7)) (Int32.toNatClampNeg 0) (Int32.toNatClampNeg 0) (Int32.toNatClampNeg 4))) rfl ⟨trivial, hq1, trivial, trivial, hq0, trivial, trivial, ⟨(pvow_3_7 hq1).1, (pvow_3_7 hq0).1, (pvnneg (show 0 ≤ Int32.toInt 0 ∧ Int32.toInt 0 ≤ 0 from (by decide))), (pvnneg (show 0 ≤ Int32.toInt 0 ∧ Int32.toInt 0 ≤ 0 from (by decide))), (pvnneg (zr_wide (show 4 ≤ Int32.toInt 4 ∧ Int32.toInt 4 ≤ 4 from (by decide)) (by decide) (by decide))), (by have u0 := (show 0 ≤ Int32.toInt 0 ∧ Int32.toInt 0 ≤ 0 from (by decide)); have u1 := (show 4 ≤ Int32.toInt 4 ∧ Int32.toInt 4 ≤ 4 from (by decide)); have u2 := ztn 0 (by omega); have u3 := ztn 4 (by omega); rw [(pvow_3_7 hq1).2.1]; omega), (by have u0 := (show 0 ≤ Int32.toInt 0 ∧ Int32.toInt 0 ≤ 0 from (by decide)); have u1 := (show 4 ≤ Int32.toInt 4 ∧ Int32.toInt 4 ≤ 4 from (by decide)); have u2 := ztn 0 (by omega); have u3 := ztn 4 (by omega); rw [(pvow_3_7 hq0).2.1]; omega), Nat.le_of_ble_eq_true rfl⟩, trivial⟩ (fun M17_ e18_ => ?_)
  have o19_ : pvOk M17_ := pvok_rr e18_ o15_ (fun _ => ((pvrg_a _ (by rw [(pvow_3_7 hq0).1]; decide)).trans (pvow_3_7 hq0).2.2.2)) (pvcpy_r (fun k => pvok_r o15_ (q1 + 7) k ((pvrg_a _ (by rw [(pvow_3_7 hq1).1]; decide)).trans (pvow_3_7 hq1).2.2.2)) (fun k => pvok_r o15_ (q0 + 7) k ((pvrg_a _ (by rw [(pvow_3_7 hq0).1]; decide)).trans (pvow_3_7 hq0).2.2.2)))
  have f20_ : pvFr fp_X4_becomeAs_x_x M M17_ := pvfr_rr e18_ f16_ (fun _ => (pvfp_r (l := fpL_X4_becomeAs_x_x) (pvow_3_7 hq0).2.2.1 (kk := 0) (by decide) (Or.inl rfl)))
  exact pw_ret hT rfl (r := none) (M' := M17_) ⟨rfl, rfl⟩ ⟨rfl, o19_, f20_⟩
def fpL_X7_becomeAs_9_8 : List (Nat × Nat × Nat) := [(0, 101, 1), (0, 103, 1), (0, 105, 1), (0, 109, 0), (0, 111, 0), (0, 113, 0), (0, 117, 0), (0, 119, 0), (0, 121, 0), (0, 9, 2), (0, 9, 3), (0, 9, 4), (0, 9, 5), (0, 9, 6), (0, 9, 7), (0, 9, 8), (0, 9, 9), (1, 113, 0), (1, 3, 1), (1, 3, 2), (1, 3, 3), (1, 3, 4), (1, 3, 5), (1, 3, 6)]
def fp_X7_becomeAs_9_8 (q k : Nat) : Bool := pvfp fpL_X7_becomeAs_9_8 q k
theorem fp_X7_becomeAs_9_8_fp_X4_becomeAs_x_x (a b : Nat) (h : fp_X4_becomeAs_x_x a b = true) : fp_X7_becomeAs_9_8 a b = true := pvfp_sub (l1 := fpL_X4_becomeAs_x_x) (l2 := fpL_X7_becomeAs_9_8) (by decide) a b h
theorem fp_X7_becomeAs_9_8_fp_X6_becomeAs_101_100 (a b : Nat) (h : fp_X6_becomeAs_101_100 a b = true) : fp_X7_becomeAs_9_8 a b = true := pvfp_sub (l1 := fpL_X6_becomeAs_101_100) (l2 := fpL_X7_becomeAs_9_8) (by decide) a b h
theorem fp_X7_becomeAs_9_8_fp_X6_becomeAs_103_102 (a b : Nat) (h : fp_X6_becomeAs_103_102 a b = true) : fp_X7_becomeAs_9_8 a b = true := pvfp_sub (l1 := fpL_X6_becomeAs_103_102) (l2 := fpL_X7_becomeAs_9_8) (by decide) a b h
theorem fp_X7_becomeAs_9_8_fp_X6_becomeAs_105_104 (a b : Nat) (h : fp_X6_becomeAs_105_104 a b = true) : fp_X7_becomeAs_9_8 a b = true := pvfp_sub (l1 := fpL_X6_becomeAs_105_104) (l2 := fpL_X7_becomeAs_9_8) (by decide) a b h
set_option maxHeartbeats 4000000 in
set_option maxRecDepth 10000 in
theorem sf_X7_becomeAs_9_8 (M : pvM) (hok : pvOk M) (d : Nat) : PW 158 d (0, [some (pvR 9), some (pvR 8), none], [], M) (fun r X => r = none ∧ pvOk X ∧ pvFr fp_X7_becomeAs_9_8 M X) := by
  have hT : pvdom 158 = pvD_158 := rfl
  have b1_ : 0 ≤ Int32.toInt (M.1 8 1) ∧ Int32.toInt (M.1 8 1) ≤ 7 := pvok_r hok 8 1 rfl
  refine pw_blkw hT 4 (pc := 8) (lo := [some (pvR 9), some (pvR 8), none]) (st := []) (M := pvu M 9 1 (M.1 8 1)) rfl ⟨trivial, trivial, rfl, rfl, trivial⟩ (fun M2_ e3_ => ?_)
  have o4_ : pvOk M2_ := pvok_u2 e3_ hok rfl b1_
  have f5_ : pvFr fp_X7_becomeAs_9_8 M M2_ := pvfr_u e3_ pvfr_0 rfl
  refine pw_blk hT 2 (S' := (10, [some (pvR 9), some (pvR 8), some (pvI 0)], [], M2_)) rfl ⟨trivial, trivial, trivial⟩ ?_
  have hlz318_ : ∀ (nz318_ : Nat) (i2z318_ : Int32) (Mz318_ : pvM), (pvOk Mz318_) → (pvFr fp_X7_becomeAs_9_8 M Mz318_) → (0 ≤ Int32.toInt i2z318_ ∧ Int32.toInt i2z318_ ≤ 7) → ((8 - Int32.toInt i2z318_).toNat < nz318_) → PW 158 d (10, [some (pvR 9), some (pvR 8), some (pvI i2z318_)], [], Mz318_) (fun r X => r = none ∧ pvOk X ∧ pvFr fp_X7_becomeAs_9_8 M X) := by
    intro nz318_
    induction nz318_ with
    | zero => intro i2z318_ Mz318_ oz318_ fz318_ h2z318_ hmz318_; exact absurd hmz318_ (Nat.not_lt_zero _)
    | succ nz318_ ihz318_ =>
      intro i2z318_ Mz318_ oz318_ fz318_ h2z318_ hmz318_
      have b319_ : 0 ≤ Int32.toInt (Mz318_.1 9 1) ∧ Int32.toInt (Mz318_.1 9 1) ≤ 7 := pvok_r oz318_ 9 1 rfl
      refine pw_blk hT 3 (S' := (15, [some (pvR 9), some (pvR 8), some (pvI i2z318_)], [pvI (Mz318_.1 9 1), pvI i2z318_], Mz318_)) rfl ⟨trivial, trivial, rfl, trivial⟩ ?_
      refine pw_ic hT (c := (Mz318_.1 9 1) ≤ i2z318_) rfl rfl (fun c320_ => ?_) (fun c320_ => ?_)
      · have d321_ : Int32.toInt (Mz318_.1 9 1) ≤ Int32.toInt i2z318_ := (zi_le _ _).mp c320_
        have b322_ : 0 ≤ Int32.toInt (Mz318_.1 8 2) ∧ Int32.toInt (Mz318_.1 8 2) ≤ 99 := pvok_r oz318_ 8 2 rfl
        refine pw_blkw hT 4 (pc := 47) (lo := [some (pvR 9), some (pvR 8), some (pvI i2z318_)]) (st := []) (M := pvu Mz318_ 9 2 (Mz318_.1 8 2)) rfl ⟨trivial, trivial, rfl, rfl, trivial⟩ (fun M323_ e324_ => ?_)
        have o325_ : pvOk M323_ := pvok_u2 e324_ oz318_ rfl b322_
        have f326_ : pvFr fp_X7_becomeAs_9_8 M M323_ := pvfr_u e324_ fz318_ rfl
        have b327_ : 0 ≤ Int32.toInt (M323_.1 8 3) ∧ Int32.toInt (M323_.1 8 3) ≤ 3 := pvok_r o325_ 8 3 rfl
        refine pw_blkw hT 4 (pc := 55) (lo := [some (pvR 9), some (pvR 8), some (pvI i2z318_)]) (st := []) (M := pvu M323_ 9 3 (M323_.1 8 3)) rfl ⟨trivial, trivial, rfl, rfl, trivial⟩ (fun M328_ e329_ => ?_)
        have o330_ : pvOk M328_ := pvok_u2 e329_ o325_ rfl b327_
        have f331_ : pvFr fp_X7_becomeAs_9_8 M M328_ := pvfr_u e329_ f326_ rfl
        have b332_ : 0 ≤ Int32.toInt (M328_.1 8 4) ∧ Int32.toInt (M328_.1 8 4) ≤ 9999 := pvok_r o330_ 8 4 rfl
        refine pw_blkw hT 4 (pc := 63) (lo := [some (pvR 9), some (pvR 8), some (pvI i2z318_)]) (st := []) (M := pvu M328_ 9 4 (M328_.1 8 4)) rfl ⟨trivial, trivial, rfl, rfl, trivial⟩ (fun M333_ e334_ => ?_)
        have o335_ : pvOk M333_ := pvok_u2 e334_ o330_ rfl b332_
        have f336_ : pvFr fp_X7_becomeAs_9_8 M M333_ := pvfr_u e334_ f331_ rfl
        have b337_ : 0 ≤ Int32.toInt (M333_.1 8 5) ∧ Int32.toInt (M333_.1 8 5) ≤ 999999 := pvok_r o335_ 8 5 rfl
        refine pw_blkw hT 4 (pc := 71) (lo := [some (pvR 9), some (pvR 8), some (pvI i2z318_)]) (st := []) (M := pvu M333_ 9 5 (M333_.1 8 5)) rfl ⟨trivial, trivial, rfl, rfl, trivial⟩ (fun M338_ e339_ => ?_)
        have o340_ : pvOk M338_ := pvok_u2 e339_ o335_ rfl b337_
        have f341_ : pvFr fp_X7_becomeAs_9_8 M M338_ := pvfr_u e339_ f336_ rfl
        have b342_ : 0 ≤ Int32.toInt (M338_.1 8 6) ∧ Int32.toInt (M338_.1 8 6) ≤ 3 := pvok_r o340_ 8 6 rfl
        refine pw_blkw hT 4 (pc := 79) (lo := [some (pvR 9), some (pvR 8), some (pvI i2z318_)]) (st := []) (M := pvu M338_ 9 6 (M338_.1 8 6)) rfl ⟨trivial, trivial, rfl, rfl, trivial⟩ (fun M343_ e344_ => ?_)
        have o345_ : pvOk M343_ := pvok_u2 e344_ o340_ rfl b342_
        have f346_ : pvFr fp_X7_becomeAs_9_8 M M343_ := pvfr_u e344_ f341_ rfl
        have b347_ : 0 ≤ Int32.toInt (M343_.1 8 7) ∧ Int32.toInt (M343_.1 8 7) ≤ 4 := pvok_r o345_ 8 7 rfl
        refine pw_blkw hT 4 (pc := 87) (lo := [some (pvR 9), some (pvR 8), some (pvI i2z318_)]) (st := []) (M := pvu M343_ 9 7 (M343_.1 8 7)) rfl ⟨trivial, trivial, rfl, rfl, trivial⟩ (fun M348_ e349_ => ?_)
        have o350_ : pvOk M348_ := pvok_u2 e349_ o345_ rfl b347_
        have f351_ : pvFr fp_X7_becomeAs_9_8 M M348_ := pvfr_u e349_ f346_ rfl
        have b352_ : 15 ≤ Int32.toInt (M348_.1 8 8) ∧ Int32.toInt (M348_.1 8 8) ≤ 23 := pvok_r o350_ 8 8 rfl
        refine pw_blkr hT 3 (pc := 92) (lo := [some (pvR 9), some (pvR 8), some (pvI i2z318_)]) (st := [pvR 9]) (M := M348_) (z := (pvhp (M348_.1 8 8))) rfl ⟨trivial, trivial, rfl, trivial⟩ (fun q353_ e355_ => ?_)
        have k354_ : pvkl q353_ = 2 := pvhp_k b352_ e355_
        refine pw_blkw hT 1 (pc := 95) (lo := [some (pvR 9), some (pvR 8), some (pvI i2z318_)]) (st := []) (M := pvu M348_ 9 8 (nI q353_)) rfl ⟨⟨rfl, k354_⟩, trivial⟩ (fun M356_ e357_ => ?_)
        have o358_ : pvOk M356_ := pvok_u2 e357_ o350_ rfl (pvhp_r k354_)
        have f359_ : pvFr fp_X7_becomeAs_9_8 M M356_ := pvfr_u e357_ f351_ rfl
        refine pw_blk hT 4 (S' := (103, [some (pvR 9), some (pvR 8), some (pvI i2z318_)], [pvR 100, pvR 101], M356_)) rfl ⟨trivial, rfl, trivial, rfl, trivial⟩ ?_
        refine pw_callV hT (as := [pvR 101, pvR 100]) (lo1 := [some (pvR 101), some (pvR 100), none]) (d1 := d) (rest := []) rfl rfl rfl rfl rfl (fun _ => rfl) (Nat.zero_le _) rfl rfl rfl (sf_X6_becomeAs_101_100 M356_ o358_ d) (fun M361_ o363_ g364_ => ?_)
        have f365_ : pvFr fp_X7_becomeAs_9_8 M M361_ := pvfr_t g364_ f359_ fp_X7_becomeAs_9_8_fp_X6_becomeAs_101_100
        refine pw_blk hT 4 (S' := (114, [some (pvR 9), some (pvR 8), some (pvI i2z318_)], [pvR 102, pvR 103], M361_)) rfl ⟨trivial, rfl, trivial, rfl, trivial⟩ ?_
        refine pw_callV hT (as := [pvR 103, pvR 102]) (lo1 := [some (pvR 103), some (pvR 102), none]) (d1 := d) (rest := []) rfl rfl rfl rfl rfl (fun _ => rfl) (Nat.zero_le _) rfl rfl rfl (sf_X6_becomeAs_103_102 M361_ o363_ d) (fun M367_ o369_ g370_ => ?_)
        have f371_ : pvFr fp_X7_becomeAs_9_8 M M367_ := pvfr_t g370_ f365_ fp_X7_becomeAs_9_8_fp_X6_becomeAs_103_102
        refine pw_blk hT 4 (S' := (125, [some (pvR 9), some (pvR 8), some (pvI i2z318_)], [pvR 104, pvR 105], M367_)) rfl ⟨trivial, rfl, trivial, rfl, trivial⟩ ?_
        refine pw_callV hT (as := [pvR 105, pvR 104]) (lo1 := [some (pvR 105), some (pvR 104), none]) (d1 := d) (rest := []) rfl rfl rfl rfl rfl (fun _ => rfl) (Nat.zero_le _) rfl rfl rfl (sf_X6_becomeAs_105_104 M367_ o369_ d) (fun M373_ o375_ g376_ => ?_)
        have f377_ : pvFr fp_X7_becomeAs_9_8 M M373_ := pvfr_t g376_ f371_ fp_X7_becomeAs_9_8_fp_X6_becomeAs_105_104
        exact pw_ret hT rfl (r := none) (M' := M373_) ⟨rfl, rfl⟩ ⟨rfl, o375_, f377_⟩
      · have b378_ : 1 ≤ Int32.toInt (Mz318_.1 9 1) ∧ Int32.toInt (Mz318_.1 9 1) ≤ 7 := zr_nle_l 1 c320_ b319_ h2z318_ (by decide)
        have b379_ : 0 ≤ Int32.toInt i2z318_ ∧ Int32.toInt i2z318_ ≤ 6 := zr_nle_r 6 c320_ h2z318_ b378_ (by decide)
        have d380_ : Int32.toInt (Mz318_.1 9 1) > Int32.toInt i2z318_ := Int.not_le.mp ((not_congr (zi_le _ _)).mp c320_)
        refine pw_blkr hT 4 (pc := 24) (lo := [some (pvR 9), some (pvR 8), some (pvI i2z318_)]) (st := []) (M := Mz318_) (z := (pvbs 11 + Int32.toNatClampNeg i2z318_)) rfl ⟨trivial, rfl, trivial, ⟨rfl, (zr_in (n := 7) b379_ (by decide) (by decide))⟩, trivial⟩ (fun q381_ e383_ => ?_)
        have k382_ : pvkl q381_ = 3 := pvel_11 (zr_in (n := 7) b379_ (by decide) (by decide)) e383_
        refine pw_blkr hT 4 (pc := 30) (lo := [some (pvR 9), some (pvR 8), some (pvI i2z318_)]) (st := [pvR q381_]) (M := Mz318_) (z := (pvbs 10 + Int32.toNatClampNeg i2z318_)) rfl ⟨trivial, rfl, trivial, ⟨rfl, (zr_in (n := 7) b379_ (by decide) (by decide))⟩, trivial⟩ (fun q384_ e386_ => ?_)
        have k385_ : pvkl q384_ = 3 := pvel_10 (zr_in (n := 7) b379_ (by decide) (by decide)) e386_
        refine pw_callV hT (as := [pvR q381_, pvR q384_]) (lo1 := [some (pvR q381_), some (pvR q384_)]) (d1 := d) (rest := []) rfl rfl rfl rfl rfl (fun _ => k382_) (Nat.zero_le _) rfl rfl rfl (sf_X4_becomeAs_x_x Mz318_ oz318_ q381_ q384_ k382_ k385_ d) (fun M388_ o390_ g391_ => ?_)
        have f392_ : pvFr fp_X7_becomeAs_9_8 M M388_ := pvfr_t g391_ fz318_ fp_X7_becomeAs_9_8_fp_X4_becomeAs_x_x
        obtain ⟨q394_, b393_⟩ : (Int32.toInt (i2z318_ + 1) = Int32.toInt i2z318_ + Int32.toInt 1) ∧ (1 ≤ Int32.toInt (i2z318_ + 1) ∧ Int32.toInt (i2z318_ + 1) ≤ 7) := zadd_r i2z318_ 1 1 7 b379_ (show 1 ≤ Int32.toInt 1 ∧ Int32.toInt 1 ≤ 1 from (by decide)) (by decide) (by decide) (by decide) (by decide)
        have u395_ : Int32.toInt 1 = 1 := by decide
        refine pw_blk hT 2 (S' := (10, [some (pvR 9), some (pvR 8), some (pvI (i2z318_ + 1))], [], M388_)) rfl ⟨trivial, trivial, trivial⟩ ?_
        exact ihz318_ (i2z318_ + 1) M388_ o390_ f392_ (zr_wide b393_ (by decide) (by decide)) (by omega)
  exact hlz318_ _ 0 M2_ o4_ f5_ (zr_wide (show 0 ≤ Int32.toInt 0 ∧ Int32.toInt 0 ≤ 0 from (by decide)) (by decide) (by decide)) (Nat.lt_succ_self _)
def fpL_X9_image_0 : List (Nat × Nat × Nat) := [(0, 0, 6), (0, 101, 1), (0, 103, 1), (0, 105, 1), (0, 109, 0), (0, 111, 0), (0, 113, 0), (0, 117, 0), (0, 119, 0), (0, 121, 0), (0, 9, 2), (0, 9, 3), (0, 9, 4), (0, 9, 5), (0, 9, 6), (0, 9, 7), (0, 9, 8), (0, 9, 9), (1, 113, 0), (1, 3, 1), (1, 3, 2), (1, 3, 3), (1, 3, 4), (1, 3, 5), (1, 3, 6)]
def fp_X9_image_0 (q k : Nat) : Bool := pvfp fpL_X9_image_0 q k
theorem fp_X9_image_0_fp_X7_becomeAs_9_8 (a b : Nat) (h : fp_X7_becomeAs_9_8 a b = true) : fp_X9_image_0 a b = true := pvfp_sub (l1 := fpL_X7_becomeAs_9_8) (l2 := fpL_X9_image_0) (by decide) a b h
set_option maxHeartbeats 4000000 in
set_option maxRecDepth 10000 in
theorem sf_X9_image_0 (M : pvM) (hok : pvOk M) (d : Nat) : PW 178 d (0, [some (pvR 0)], [], M) (fun r X => (∃ x : Int32, r = some (pvI x) ∧ 0 ≤ Int32.toInt x ∧ Int32.toInt x ≤ 7) ∧ pvOk X ∧ pvFr fp_X9_image_0 M X) := by
  have hT : pvdom 178 = pvD_178 := rfl
  refine pw_blk hT 4 (S' := (8, [some (pvR 0)], [pvR 8, pvR 9], M)) rfl ⟨trivial, rfl, trivial, rfl, trivial⟩ ?_
  refine pw_callV hT (as := [pvR 9, pvR 8]) (lo1 := [some (pvR 9), some (pvR 8), none]) (d1 := d) (rest := []) rfl rfl rfl rfl rfl (fun _ => rfl) (Nat.zero_le _) rfl rfl rfl (sf_X7_becomeAs_9_8 M hok d) (fun M2_ o4_ g5_ => ?_)
  have f6_ : pvFr fp_X9_image_0 M M2_ := pvfr_t g5_ pvfr_0 fp_X9_image_0_fp_X7_becomeAs_9_8
  refine pw_blkw hT 3 (pc := 16) (lo := [some (pvR 0)]) (st := []) (M := pvu M2_ 0 5 1) rfl ⟨trivial, trivial, ⟨rfl, Or.inr rfl⟩, trivial⟩ (fun M7_ e8_ => ?_)
  have o9_ : pvOk M7_ := pvok_u2 e8_ o4_ rfl (zr_wide (show 1 ≤ Int32.toInt 1 ∧ Int32.toInt 1 ≤ 1 from (by decide)) (by decide) (by decide))
  have f10_ : pvFr fp_X9_image_0 M M7_ := pvfr_u e8_ f6_ rfl
  have b11_ : 0 ≤ Int32.toInt (M7_.1 8 1) ∧ Int32.toInt (M7_.1 8 1) ≤ 7 := pvok_r o9_ 8 1 rfl
  refine pw_blk hT 3 (S' := (23, [some (pvR 0)], [pvI (M7_.1 8 1)], M7_)) rfl ⟨trivial, rfl, rfl, trivial⟩ ?_
  exact pw_ret hT rfl (r := some (pvI (M7_.1 8 1))) (M' := M7_) ⟨rfl, rfl⟩ ⟨⟨_, rfl, b11_⟩, o9_, f10_⟩
set_option maxHeartbeats 4000000 in
set_option maxRecDepth 10000 in
theorem sf_X9_isPlace_x_x (M : pvM) (hok : pvOk M) (n0 : Int32) (n1 : Int32) (d : Nat) : PW 179 d (0, [some (pvI n0), some (pvI n1)], [], M) (fun r X => r = some (pvI ((if n0 < 0 then 0 else (if 3 < n0 then 0 else (if n1 < 0 then 0 else (if 4 < n1 then 0 else 1)))))) ∧ X = M) := by
  have hT : pvdom 179 = pvD_179 := rfl
  refine pw_blk hT 3 (S' := (3, [some (pvI n0), some (pvI n1)], [pvI 3, pvI 0, pvI n0], M)) rfl ⟨trivial, trivial, trivial, trivial⟩ ?_
  refine pw_callT hT (as := [pvI n0, pvI 0, pvI 3]) (lo1 := [some (pvI n0), some (pvI 0), some (pvI 3)]) (d1 := d) (rest := []) rfl rfl rfl rfl rfl (fun h => absurd h (by decide)) (Nat.zero_le _) rfl rfl rfl (sf_X9_within_x_x_x M hok n0 0 3 d) ?_
  by_cases c6_ : n0 < 0
  · refine pw_eqI (if_pos c6_) ?_
    have b7_ : (-2147483648) ≤ Int32.toInt n0 ∧ Int32.toInt n0 ≤ (-1) := zr_lt_l (-1) c6_ (zbnd n0) (show 0 ≤ Int32.toInt 0 ∧ Int32.toInt 0 ≤ 0 from (by decide)) (by decide)
    show PW 179 d (6, [some (pvI n0), some (pvI n1)], [pvI 0], M) _
    refine pw_if hT (c := 0 = 0) rfl rfl (fun c8_ => ?_) (fun c8_ => absurd (by decide) c8_)
    refine pw_blk hT 1 (S' := (23, [some (pvI n0), some (pvI n1)], [pvI 0], M)) rfl ⟨trivial, trivial⟩ ?_
    exact pw_ret hT rfl (r := some (pvI 0)) (M' := M) ⟨Or.inl rfl, rfl, rfl⟩ ⟨(by rw [if_pos c6_]), rfl⟩
  · refine pw_eqI (if_neg c6_) ?_
    have b9_ : 0 ≤ Int32.toInt n0 ∧ Int32.toInt n0 ≤ 2147483647 := zr_nlt_l 0 c6_ (zbnd n0) (show 0 ≤ Int32.toInt 0 ∧ Int32.toInt 0 ≤ 0 from (by decide)) (by decide)
    by_cases c10_ : 3 < n0
    · refine pw_eqI (if_pos c10_) ?_
      have b11_ : 4 ≤ Int32.toInt n0 ∧ Int32.toInt n0 ≤ 2147483647 := zr_lt_r 4 c10_ b9_ (show 3 ≤ Int32.toInt 3 ∧ Int32.toInt 3 ≤ 3 from (by decide)) (by decide)
      show PW 179 d (6, [some (pvI n0), some (pvI n1)], [pvI 0], M) _
      refine pw_if hT (c := 0 = 0) rfl rfl (fun c12_ => ?_) (fun c12_ => absurd (by decide) c12_)
      refine pw_blk hT 1 (S' := (23, [some (pvI n0), some (pvI n1)], [pvI 0], M)) rfl ⟨trivial, trivial⟩ ?_
      exact pw_ret hT rfl (r := some (pvI 0)) (M' := M) ⟨Or.inl rfl, rfl, rfl⟩ ⟨(by rw [if_neg c6_, if_pos c10_]), rfl⟩
    · refine pw_eqI (if_neg c10_) ?_
      have b13_ : 0 ≤ Int32.toInt n0 ∧ Int32.toInt n0 ≤ 3 := zr_nlt_r 3 c10_ b9_ (show 3 ≤ Int32.toInt 3 ∧ Int32.toInt 3 ≤ 3 from (by decide)) (by decide)
      show PW 179 d (6, [some (pvI n0), some (pvI n1)], [pvI 1], M) _
      refine pw_if hT (c := 1 = 0) rfl rfl (fun c14_ => absurd c14_ (by decide)) (fun c14_ => ?_)
      refine pw_blk hT 3 (S' := (12, [some (pvI n0), some (pvI n1)], [pvI 4, pvI 0, pvI n1], M)) rfl ⟨trivial, trivial, trivial, trivial⟩ ?_
      refine pw_callT hT (as := [pvI n1, pvI 0, pvI 4]) (lo1 := [some (pvI n1), some (pvI 0), some (pvI 4)]) (d1 := d) (rest := []) rfl rfl rfl rfl rfl (fun h => absurd h (by decide)) (Nat.zero_le _) rfl rfl rfl (sf_X9_within_x_x_x M hok n1 0 4 d) ?_
      by_cases c20_ : n1 < 0
      · refine pw_eqI (if_pos c20_) ?_
        have b21_ : (-2147483648) ≤ Int32.toInt n1 ∧ Int32.toInt n1 ≤ (-1) := zr_lt_l (-1) c20_ (zbnd n1) (show 0 ≤ Int32.toInt 0 ∧ Int32.toInt 0 ≤ 0 from (by decide)) (by decide)
        show PW 179 d (15, [some (pvI n0), some (pvI n1)], [pvI 0], M) _
        refine pw_if hT (c := 0 = 0) rfl rfl (fun c22_ => ?_) (fun c22_ => absurd (by decide) c22_)
        refine pw_blk hT 1 (S' := (23, [some (pvI n0), some (pvI n1)], [pvI 0], M)) rfl ⟨trivial, trivial⟩ ?_
        exact pw_ret hT rfl (r := some (pvI 0)) (M' := M) ⟨Or.inl rfl, rfl, rfl⟩ ⟨(by rw [if_neg c6_, if_neg c10_, if_pos c20_]), rfl⟩
      · refine pw_eqI (if_neg c20_) ?_
        have b23_ : 0 ≤ Int32.toInt n1 ∧ Int32.toInt n1 ≤ 2147483647 := zr_nlt_l 0 c20_ (zbnd n1) (show 0 ≤ Int32.toInt 0 ∧ Int32.toInt 0 ≤ 0 from (by decide)) (by decide)
        by_cases c24_ : 4 < n1
        · refine pw_eqI (if_pos c24_) ?_
          have b25_ : 5 ≤ Int32.toInt n1 ∧ Int32.toInt n1 ≤ 2147483647 := zr_lt_r 5 c24_ b23_ (show 4 ≤ Int32.toInt 4 ∧ Int32.toInt 4 ≤ 4 from (by decide)) (by decide)
          show PW 179 d (15, [some (pvI n0), some (pvI n1)], [pvI 0], M) _
          refine pw_if hT (c := 0 = 0) rfl rfl (fun c26_ => ?_) (fun c26_ => absurd (by decide) c26_)
          refine pw_blk hT 1 (S' := (23, [some (pvI n0), some (pvI n1)], [pvI 0], M)) rfl ⟨trivial, trivial⟩ ?_
          exact pw_ret hT rfl (r := some (pvI 0)) (M' := M) ⟨Or.inl rfl, rfl, rfl⟩ ⟨(by rw [if_neg c6_, if_neg c10_, if_neg c20_, if_pos c24_]), rfl⟩
        · refine pw_eqI (if_neg c24_) ?_
          have b27_ : 0 ≤ Int32.toInt n1 ∧ Int32.toInt n1 ≤ 4 := zr_nlt_r 4 c24_ b23_ (show 4 ≤ Int32.toInt 4 ∧ Int32.toInt 4 ≤ 4 from (by decide)) (by decide)
          show PW 179 d (15, [some (pvI n0), some (pvI n1)], [pvI 1], M) _
          refine pw_if hT (c := 1 = 0) rfl rfl (fun c28_ => absurd c28_ (by decide)) (fun c28_ => ?_)
          refine pw_blk hT 2 (S' := (23, [some (pvI n0), some (pvI n1)], [pvI 1], M)) rfl ⟨trivial, trivial, trivial⟩ ?_
          exact pw_ret hT rfl (r := some (pvI 1)) (M' := M) ⟨Or.inr rfl, rfl, rfl⟩ ⟨(by rw [if_neg c6_, if_neg c10_, if_neg c20_, if_neg c24_]), rfl⟩
set_option maxHeartbeats 4000000 in
set_option maxRecDepth 10000 in
theorem sf_X9_isTape_x (M : pvM) (hok : pvOk M) (n0 : Int32) (d : Nat) : PW 180 d (0, [some (pvI n0)], [], M) (fun r X => r = some (pvI ((if n0 < 0 then 0 else (if 5 < n0 then 0 else 1)))) ∧ X = M) := by
  have hT : pvdom 180 = pvD_180 := rfl
  refine pw_blk hT 3 (S' := (3, [some (pvI n0)], [pvI 5, pvI 0, pvI n0], M)) rfl ⟨trivial, trivial, trivial, trivial⟩ ?_
  refine pw_callT hT (as := [pvI n0, pvI 0, pvI 5]) (lo1 := [some (pvI n0), some (pvI 0), some (pvI 5)]) (d1 := d) (rest := []) rfl rfl rfl rfl rfl (fun h => absurd h (by decide)) (Nat.zero_le _) rfl rfl rfl (sf_X9_within_x_x_x M hok n0 0 5 d) ?_
  by_cases c6_ : n0 < 0
  · refine pw_eqI (if_pos c6_) ?_
    have b7_ : (-2147483648) ≤ Int32.toInt n0 ∧ Int32.toInt n0 ≤ (-1) := zr_lt_l (-1) c6_ (zbnd n0) (show 0 ≤ Int32.toInt 0 ∧ Int32.toInt 0 ≤ 0 from (by decide)) (by decide)
    show PW 180 d (6, [some (pvI n0)], [pvI 0], M) _
    exact pw_ret hT rfl (r := some (pvI 0)) (M' := M) ⟨Or.inl rfl, rfl, rfl⟩ ⟨(by rw [if_pos c6_]), rfl⟩
  · refine pw_eqI (if_neg c6_) ?_
    have b8_ : 0 ≤ Int32.toInt n0 ∧ Int32.toInt n0 ≤ 2147483647 := zr_nlt_l 0 c6_ (zbnd n0) (show 0 ≤ Int32.toInt 0 ∧ Int32.toInt 0 ≤ 0 from (by decide)) (by decide)
    by_cases c9_ : 5 < n0
    · refine pw_eqI (if_pos c9_) ?_
      have b10_ : 6 ≤ Int32.toInt n0 ∧ Int32.toInt n0 ≤ 2147483647 := zr_lt_r 6 c9_ b8_ (show 5 ≤ Int32.toInt 5 ∧ Int32.toInt 5 ≤ 5 from (by decide)) (by decide)
      show PW 180 d (6, [some (pvI n0)], [pvI 0], M) _
      exact pw_ret hT rfl (r := some (pvI 0)) (M' := M) ⟨Or.inl rfl, rfl, rfl⟩ ⟨(by rw [if_neg c6_, if_pos c9_]), rfl⟩
    · refine pw_eqI (if_neg c9_) ?_
      have b11_ : 0 ≤ Int32.toInt n0 ∧ Int32.toInt n0 ≤ 5 := zr_nlt_r 5 c9_ b8_ (show 5 ≤ Int32.toInt 5 ∧ Int32.toInt 5 ≤ 5 from (by decide)) (by decide)
      show PW 180 d (6, [some (pvI n0)], [pvI 1], M) _
      exact pw_ret hT rfl (r := some (pvI 1)) (M' := M) ⟨Or.inr rfl, rfl, rfl⟩ ⟨(by rw [if_neg c6_, if_neg c9_]), rfl⟩
set_option maxHeartbeats 4000000 in
set_option maxRecDepth 10000 in
theorem sf_X8_isNothing_x (M : pvM) (hok : pvOk M) (q0 : Nat) (hq0 : pvkl q0 = 7) (d : Nat) : PW 165 d (0, [some (pvR q0)], [], M) (fun r X => r = some (pvI ((if (M.1 q0 0) = (-1) then 1 else 0))) ∧ X = M) := by
  have hT : pvdom 165 = pvD_165 := rfl
  have b1_ : (-1) ≤ Int32.toInt (M.1 q0 0) ∧ Int32.toInt (M.1 q0 0) ≤ 4 := pvok_r hok q0 0 ((pvrg_o 0 hq0 (by decide) (by decide)).trans rfl)
  refine pw_blk hT 3 (S' := (5, [some (pvR q0)], [pvI (-1), pvI (M.1 q0 0)], M)) rfl ⟨trivial, hq0, trivial, trivial⟩ ?_
  refine pw_icn hT (c := (M.1 q0 0) = (-1)) rfl rfl (fun c2_ => ?_) (fun c2_ => ?_)
  · have b3_ : 0 ≤ Int32.toInt (M.1 q0 0) ∧ Int32.toInt (M.1 q0 0) ≤ 4 := (by have u0 := b1_; have u1 := (not_congr (zi_eq _ _)).mp c2_; have u2 := (show (-1) ≤ Int32.toInt (-1) ∧ Int32.toInt (-1) ≤ (-1) from (by decide)); omega)
    refine pw_blk hT 1 (S' := (13, [some (pvR q0)], [pvI 0], M)) rfl ⟨trivial, trivial⟩ ?_
    exact pw_ret hT rfl (r := some (pvI 0)) (M' := M) ⟨Or.inl rfl, rfl, rfl⟩ ⟨(by rw [if_neg c2_]), rfl⟩
  · have b4_ : (-1) ≤ Int32.toInt (M.1 q0 0) ∧ Int32.toInt (M.1 q0 0) ≤ (-1) := (by have u0 := b1_; have u1 := (zi_eq _ _).mp c2_; have u2 := (show (-1) ≤ Int32.toInt (-1) ∧ Int32.toInt (-1) ≤ (-1) from (by decide)); omega)
    refine pw_blk hT 2 (S' := (13, [some (pvR q0)], [pvI 1], M)) rfl ⟨trivial, trivial, trivial⟩ ?_
    exact pw_ret hT rfl (r := some (pvI 1)) (M' := M) ⟨Or.inr rfl, rfl, rfl⟩ ⟨(by rw [if_pos c2_]), rfl⟩
set_option maxHeartbeats 4000000 in
set_option maxRecDepth 10000 in
theorem sf_X8_hasPlace_x_x (M : pvM) (hok : pvOk M) (q0 : Nat) (n1 : Int32) (hq0 : pvkl q0 = 7) (d : Nat) : PW 163 d (0, [some (pvR q0), some (pvI n1)], [], M) (fun r X => r = some (pvI ((if n1 < 0 then 0 else (if (M.1 q0 1) ≤ n1 then 0 else 1)))) ∧ X = M) := by
  have hT : pvdom 163 = pvD_163 := rfl
  refine pw_blk hT 1 (S' := (1, [some (pvR q0), some (pvI n1)], [pvI n1], M)) rfl ⟨trivial, trivial⟩ ?_
  refine pw_if hT (c := n1 < 0) rfl rfl (fun c1_ => ?_) (fun c1_ => ?_)
  · have b2_ : (-2147483648) ≤ Int32.toInt n1 ∧ Int32.toInt n1 ≤ (-1) := zr_lt_l (-1) c1_ (zbnd n1) (show 0 ≤ Int32.toInt 0 ∧ Int32.toInt 0 ≤ 0 from (by decide)) (by decide)
    refine pw_blk hT 1 (S' := (17, [some (pvR q0), some (pvI n1)], [pvI 0], M)) rfl ⟨trivial, trivial⟩ ?_
    exact pw_ret hT rfl (r := some (pvI 0)) (M' := M) ⟨Or.inl rfl, rfl, rfl⟩ ⟨(by rw [if_pos c1_]), rfl⟩
  · have b3_ : 0 ≤ Int32.toInt n1 ∧ Int32.toInt n1 ≤ 2147483647 := zr_nlt_l 0 c1_ (zbnd n1) (show 0 ≤ Int32.toInt 0 ∧ Int32.toInt 0 ≤ 0 from (by decide)) (by decide)
    have b4_ : 0 ≤ Int32.toInt (M.1 q0 1) ∧ Int32.toInt (M.1 q0 1) ≤ 60 := pvok_r hok q0 1 ((pvrg_o 1 hq0 (by decide) (by decide)).trans rfl)
    refine pw_blk hT 3 (S' := (9, [some (pvR q0), some (pvI n1)], [pvI (M.1 q0 1), pvI n1], M)) rfl ⟨trivial, trivial, hq0, trivial⟩ ?_
    refine pw_ic hT (c := (M.1 q0 1) ≤ n1) rfl rfl (fun c5_ => ?_) (fun c5_ => ?_)
    · have d6_ : Int32.toInt (M.1 q0 1) ≤ Int32.toInt n1 := (zi_le _ _).mp c5_
      refine pw_blk hT 1 (S' := (17, [some (pvR q0), some (pvI n1)], [pvI 0], M)) rfl ⟨trivial, trivial⟩ ?_
      exact pw_ret hT rfl (r := some (pvI 0)) (M' := M) ⟨Or.inl rfl, rfl, rfl⟩ ⟨(by rw [if_neg c1_, if_pos c5_]), rfl⟩
    · have b7_ : 1 ≤ Int32.toInt (M.1 q0 1) ∧ Int32.toInt (M.1 q0 1) ≤ 60 := zr_nle_l 1 c5_ b4_ b3_ (by decide)
      have b8_ : 0 ≤ Int32.toInt n1 ∧ Int32.toInt n1 ≤ 59 := zr_nle_r 59 c5_ b3_ b7_ (by decide)
      have d9_ : Int32.toInt (M.1 q0 1) > Int32.toInt n1 := Int.not_le.mp ((not_congr (zi_le _ _)).mp c5_)
      refine pw_blk hT 2 (S' := (17, [some (pvR q0), some (pvI n1)], [pvI 1], M)) rfl ⟨trivial, trivial, trivial⟩ ?_
      exact pw_ret hT rfl (r := some (pvI 1)) (M' := M) ⟨Or.inr rfl, rfl, rfl⟩ ⟨(by rw [if_neg c1_, if_neg c5_]), rfl⟩
set_option maxHeartbeats 4000000 in
set_option maxRecDepth 10000 in
theorem sf_X8_asItem_x_x (M : pvM) (hok : pvOk M) (q0 : Nat) (n1 : Int64) (hq0 : pvkl q0 = 7) (d : Nat) : PW 161 d (0, [some (pvR q0), some (pvJ n1), none], [], M) (fun r X => (∃ x : Int64, r = some (pvJ x)) ∧ X = M) := by
  have hT : pvdom 161 = pvD_161 := rfl
  have b1_ : (-1) ≤ Int32.toInt (M.1 q0 0) ∧ Int32.toInt (M.1 q0 0) ≤ 4 := pvok_r hok q0 0 ((pvrg_o 0 hq0 (by decide) (by decide)).trans rfl)
  refine pw_blk hT 2 (S' := (4, [some (pvR q0), some (pvJ n1), none], [pvI (M.1 q0 0)], M)) rfl ⟨trivial, hq0, trivial⟩ ?_
  refine pw_sw hT rfl rfl ?_
  refine And.intro (fun c2_ => ?_) (fun c2_ => ?_)
  · show PW 161 d (40, [some (pvR q0), some (pvJ n1), none], [], M) _
    have b3_ : 0 ≤ Int32.toInt (M.1 q0 0) ∧ Int32.toInt (M.1 q0 0) ≤ 0 := (by have u0 := b1_; have u1 := (zi_eq _ _).mp c2_; have u2 := (show 0 ≤ Int32.toInt 0 ∧ Int32.toInt 0 ≤ 0 from (by decide)); omega)
    refine pw_blk hT 4 (S' := (44, [some (pvR q0), some (pvJ n1), none], [pvJ (Int32.toInt64 (Int8.toInt32 (Int32.toInt8 (Int64.toInt32 n1))))], M)) rfl ⟨trivial, trivial, trivial, trivial, trivial⟩ ?_
    exact pw_ret hT rfl (r := some (pvJ (Int32.toInt64 (Int8.toInt32 (Int32.toInt8 (Int64.toInt32 n1)))))) (M' := M) ⟨rfl, rfl⟩ ⟨⟨_, rfl⟩, rfl⟩
  · refine And.intro (fun c4_ => ?_) (fun c4_ => ?_)
    · show PW 161 d (45, [some (pvR q0), some (pvJ n1), none], [], M) _
      have b5_ : 1 ≤ Int32.toInt (M.1 q0 0) ∧ Int32.toInt (M.1 q0 0) ≤ 1 := (by have u0 := b1_; have u1 := (zi_eq _ _).mp c4_; have u2 := (show 1 ≤ Int32.toInt 1 ∧ Int32.toInt 1 ≤ 1 from (by decide)); omega)
      refine pw_blk hT 4 (S' := (49, [some (pvR q0), some (pvJ n1), none], [pvJ (Int32.toInt64 (Int16.toInt32 (Int32.toInt16 (Int64.toInt32 n1))))], M)) rfl ⟨trivial, trivial, trivial, trivial, trivial⟩ ?_
      exact pw_ret hT rfl (r := some (pvJ (Int32.toInt64 (Int16.toInt32 (Int32.toInt16 (Int64.toInt32 n1)))))) (M' := M) ⟨rfl, rfl⟩ ⟨⟨_, rfl⟩, rfl⟩
    · refine And.intro (fun c6_ => ?_) (fun c6_ => ?_)
      · show PW 161 d (50, [some (pvR q0), some (pvJ n1), none], [], M) _
        have b7_ : 2 ≤ Int32.toInt (M.1 q0 0) ∧ Int32.toInt (M.1 q0 0) ≤ 2 := (by have u0 := b1_; have u1 := (zi_eq _ _).mp c6_; have u2 := (show 2 ≤ Int32.toInt 2 ∧ Int32.toInt 2 ≤ 2 from (by decide)); omega)
        refine pw_blk hT 3 (S' := (53, [some (pvR q0), some (pvJ n1), none], [pvJ (Int32.toInt64 (Int64.toInt32 n1))], M)) rfl ⟨trivial, trivial, trivial, trivial⟩ ?_
        exact pw_ret hT rfl (r := some (pvJ (Int32.toInt64 (Int64.toInt32 n1)))) (M' := M) ⟨rfl, rfl⟩ ⟨⟨_, rfl⟩, rfl⟩
      · refine And.intro (fun c8_ => ?_) (fun c8_ => ?_)
        · show PW 161 d (66, [some (pvR q0), some (pvJ n1), none], [], M) _
          have b9_ : 3 ≤ Int32.toInt (M.1 q0 0) ∧ Int32.toInt (M.1 q0 0) ≤ 3 := (by have u0 := b1_; have u1 := (zi_eq _ _).mp c8_; have u2 := (show 3 ≤ Int32.toInt 3 ∧ Int32.toInt 3 ≤ 3 from (by decide)); omega)
          refine pw_blk hT 1 (S' := (67, [some (pvR q0), some (pvJ n1), none], [pvJ n1], M)) rfl ⟨trivial, trivial⟩ ?_
          exact pw_ret hT rfl (r := some (pvJ n1)) (M' := M) ⟨rfl, rfl⟩ ⟨⟨_, rfl⟩, rfl⟩
        · refine And.intro (fun c10_ => ?_) (fun c10_ => ?_)
          · show PW 161 d (54, [some (pvR q0), some (pvJ n1), none], [], M) _
            have b11_ : 4 ≤ Int32.toInt (M.1 q0 0) ∧ Int32.toInt (M.1 q0 0) ≤ 4 := (by have u0 := b1_; have u1 := (zi_eq _ _).mp c10_; have u2 := (show 4 ≤ Int32.toInt 4 ∧ Int32.toInt 4 ≤ 4 from (by decide)); omega)
            refine pw_blk hT 3 (S' := (57, [some (pvR q0), some (pvJ n1), none], [pvI (lg_cmp n1 0)], M)) rfl ⟨trivial, trivial, trivial, trivial⟩ ?_
            refine pw_if hT (c := (lg_cmp n1 0) = 0) rfl rfl (fun c12_ => ?_) (fun c12_ => ?_)
            · have b13_ : 0 ≤ Int32.toInt (lg_cmp n1 0) ∧ Int32.toInt (lg_cmp n1 0) ≤ 0 := (by have u0 := (zbnd (lg_cmp n1 0)); have u1 := (zi_eq _ _).mp c12_; have u2 := (show 0 ≤ Int32.toInt 0 ∧ Int32.toInt 0 ≤ 0 from (by decide)); omega)
              refine pw_blk hT 1 (S' := (65, [some (pvR q0), some (pvJ n1), none], [pvJ 0], M)) rfl ⟨trivial, trivial⟩ ?_
              exact pw_ret hT rfl (r := some (pvJ 0)) (M' := M) ⟨rfl, rfl⟩ ⟨⟨_, rfl⟩, rfl⟩
            · refine pw_blk hT 2 (S' := (65, [some (pvR q0), some (pvJ n1), none], [pvJ 1], M)) rfl ⟨trivial, trivial, trivial⟩ ?_
              exact pw_ret hT rfl (r := some (pvJ 1)) (M' := M) ⟨rfl, rfl⟩ ⟨⟨_, rfl⟩, rfl⟩
          · have b14_ : (-1) ≤ Int32.toInt (M.1 q0 0) ∧ Int32.toInt (M.1 q0 0) ≤ (-1) := (by have u0 := b1_; have u9 := (show _ ∧ _ from ⟨(not_congr (zi_eq _ _)).mp c10_, (show 4 ≤ Int32.toInt 4 ∧ Int32.toInt 4 ≤ 4 from (by decide))⟩); have v1 := (not_congr (zi_eq _ _)).mp c8_; have w1 : (3 : Int32).toInt = 3 := (by decide); have v2 := (not_congr (zi_eq _ _)).mp c6_; have w2 : (2 : Int32).toInt = 2 := (by decide); have v3 := (not_congr (zi_eq _ _)).mp c4_; have w3 : (1 : Int32).toInt = 1 := (by decide); have v4 := (not_congr (zi_eq _ _)).mp c2_; have w4 : (0 : Int32).toInt = 0 := (by decide); omega)
            show PW 161 d (66, [some (pvR q0), some (pvJ n1), none], [], M) _
            refine pw_blk hT 1 (S' := (67, [some (pvR q0), some (pvJ n1), none], [pvJ n1], M)) rfl ⟨trivial, trivial⟩ ?_
            exact pw_ret hT rfl (r := some (pvJ n1)) (M' := M) ⟨rfl, rfl⟩ ⟨⟨_, rfl⟩, rfl⟩
def fpL_X9_item_0_x_x_x : List (Nat × Nat × Nat) := []
def fp_X9_item_0_x_x_x (q k : Nat) : Bool := pvfp fpL_X9_item_0_x_x_x q k
set_option maxHeartbeats 4000000 in
set_option maxRecDepth 10000 in
theorem sf_X9_item_0_x_x_x (M : pvM) (hok : pvOk M) (n1 : Int32) (n2 : Int32) (n3 : Int64) (d : Nat) : PW 181 d (0, [some (pvR 0), some (pvI n1), some (pvI n2), some (pvJ n3), none, none], [], M) (fun r X => (∃ x : Int32, r = some (pvI x) ∧ (-13) ≤ Int32.toInt x ∧ Int32.toInt x ≤ 1) ∧ pvOk X ∧ pvFr fp_X9_item_0_x_x_x M X) := by
  have hT : pvdom 181 = pvD_181 := rfl
  refine pw_blk hT 1 (S' := (1, [some (pvR 0), some (pvI n1), some (pvI n2), some (pvJ n3), none, none], [pvI n1], M)) rfl ⟨trivial, trivial⟩ ?_
  refine pw_callT hT (as := [pvI n1]) (lo1 := [some (pvI n1)]) (d1 := d) (rest := []) rfl rfl rfl rfl rfl (fun h => absurd h (by decide)) (Nat.zero_le _) rfl rfl rfl (sf_X9_isTape_x M hok n1 d) ?_
  by_cases c6_ : n1 < 0
  · refine pw_eqI (if_pos c6_) ?_
    have b7_ : (-2147483648) ≤ Int32.toInt n1 ∧ Int32.toInt n1 ≤ (-1) := zr_lt_l (-1) c6_ (zbnd n1) (show 0 ≤ Int32.toInt 0 ∧ Int32.toInt 0 ≤ 0 from (by decide)) (by decide)
    show PW 181 d (4, [some (pvR 0), some (pvI n1), some (pvI n2), some (pvJ n3), none, none], [pvI 0], M) _
    refine pw_ifn hT (c := 0 = 0) rfl rfl (fun c8_ => absurd (by decide) c8_) (fun c8_ => ?_)
    refine pw_blk hT 1 (S' := (8, [some (pvR 0), some (pvI n1), some (pvI n2), some (pvJ n3), none, none], [pvI (-1)], M)) rfl ⟨trivial, trivial⟩ ?_
    exact pw_ret hT rfl (r := some (pvI (-1))) (M' := M) ⟨rfl, rfl⟩ ⟨⟨_, rfl, (zr_wide (show (-1) ≤ Int32.toInt (-1) ∧ Int32.toInt (-1) ≤ (-1) from (by decide)) (by decide) (by decide))⟩, hok, pvfr_0⟩
  · refine pw_eqI (if_neg c6_) ?_
    have b9_ : 0 ≤ Int32.toInt n1 ∧ Int32.toInt n1 ≤ 2147483647 := zr_nlt_l 0 c6_ (zbnd n1) (show 0 ≤ Int32.toInt 0 ∧ Int32.toInt 0 ≤ 0 from (by decide)) (by decide)
    by_cases c10_ : 5 < n1
    · refine pw_eqI (if_pos c10_) ?_
      have b11_ : 6 ≤ Int32.toInt n1 ∧ Int32.toInt n1 ≤ 2147483647 := zr_lt_r 6 c10_ b9_ (show 5 ≤ Int32.toInt 5 ∧ Int32.toInt 5 ≤ 5 from (by decide)) (by decide)
      show PW 181 d (4, [some (pvR 0), some (pvI n1), some (pvI n2), some (pvJ n3), none, none], [pvI 0], M) _
      refine pw_ifn hT (c := 0 = 0) rfl rfl (fun c12_ => absurd (by decide) c12_) (fun c12_ => ?_)
      refine pw_blk hT 1 (S' := (8, [some (pvR 0), some (pvI n1), some (pvI n2), some (pvJ n3), none, none], [pvI (-1)], M)) rfl ⟨trivial, trivial⟩ ?_
      exact pw_ret hT rfl (r := some (pvI (-1))) (M' := M) ⟨rfl, rfl⟩ ⟨⟨_, rfl, (zr_wide (show (-1) ≤ Int32.toInt (-1) ∧ Int32.toInt (-1) ≤ (-1) from (by decide)) (by decide) (by decide))⟩, hok, pvfr_0⟩
    · refine pw_eqI (if_neg c10_) ?_
      have b13_ : 0 ≤ Int32.toInt n1 ∧ Int32.toInt n1 ≤ 5 := zr_nlt_r 5 c10_ b9_ (show 5 ≤ Int32.toInt 5 ∧ Int32.toInt 5 ≤ 5 from (by decide)) (by decide)
      show PW 181 d (4, [some (pvR 0), some (pvI n1), some (pvI n2), some (pvJ n3), none, none], [pvI 1], M) _
      refine pw_ifn hT (c := 1 = 0) rfl rfl (fun c14_ => ?_) (fun c14_ => absurd c14_ (by decide))
      refine pw_blkr hT 4 (pc := 15) (lo := [some (pvR 0), some (pvI n1), some (pvI n2), some (pvJ n3), none, none]) (st := []) (M := M) (z := (pvbs 2 + Int32.toNatClampNeg n1)) rfl ⟨trivial, rfl, trivial, ⟨rfl, (zr_in (n := 6) b13_ (by decide) (by decide))⟩, trivial⟩ (fun q15_ e17_ => ?_)
      have k16_ : pvkl q15_ = 7 := pvel_2 (zr_in (n := 6) b13_ (by decide) (by decide)) e17_
      refine pw_blk hT 2 (S' := (19, [some (pvR 0), some (pvI n1), some (pvI n2), some (pvJ n3), none, some (pvR q15_)], [pvR q15_], M)) rfl ⟨trivial, trivial, trivial⟩ ?_
      refine pw_callT hT (as := [pvR q15_]) (lo1 := [some (pvR q15_)]) (d1 := d) (rest := []) rfl rfl rfl rfl rfl (fun _ => k16_) (Nat.zero_le _) rfl rfl rfl (sf_X8_isNothing_x M hok q15_ k16_ d) ?_
      have b23_ : (-1) ≤ Int32.toInt (M.1 q15_ 0) ∧ Int32.toInt (M.1 q15_ 0) ≤ 4 := pvok_r hok q15_ 0 ((pvrg_o 0 k16_ (by decide) (by decide)).trans rfl)
      by_cases c24_ : (M.1 q15_ 0) = (-1)
      · refine pw_eqI (if_pos c24_) ?_
        have b25_ : (-1) ≤ Int32.toInt (M.1 q15_ 0) ∧ Int32.toInt (M.1 q15_ 0) ≤ (-1) := (by have u0 := b23_; have u1 := (zi_eq _ _).mp c24_; have u2 := (show (-1) ≤ Int32.toInt (-1) ∧ Int32.toInt (-1) ≤ (-1) from (by decide)); omega)
        show PW 181 d (22, [some (pvR 0), some (pvI n1), some (pvI n2), some (pvJ n3), none, some (pvR q15_)], [pvI 1], M) _
        refine pw_if hT (c := 1 = 0) rfl rfl (fun c26_ => absurd c26_ (by decide)) (fun c26_ => ?_)
        refine pw_blk hT 1 (S' := (27, [some (pvR 0), some (pvI n1), some (pvI n2), some (pvJ n3), none, some (pvR q15_)], [pvI (-11)], M)) rfl ⟨trivial, trivial⟩ ?_
        exact pw_ret hT rfl (r := some (pvI (-11))) (M' := M) ⟨rfl, rfl⟩ ⟨⟨_, rfl, (zr_wide (show (-11) ≤ Int32.toInt (-11) ∧ Int32.toInt (-11) ≤ (-11) from (by decide)) (by decide) (by decide))⟩, hok, pvfr_0⟩
      · refine pw_eqI (if_neg c24_) ?_
        have b27_ : 0 ≤ Int32.toInt (M.1 q15_ 0) ∧ Int32.toInt (M.1 q15_ 0) ≤ 4 := (by have u0 := b23_; have u1 := (not_congr (zi_eq _ _)).mp c24_; have u2 := (show (-1) ≤ Int32.toInt (-1) ∧ Int32.toInt (-1) ≤ (-1) from (by decide)); omega)
        show PW 181 d (22, [some (pvR 0), some (pvI n1), some (pvI n2), some (pvJ n3), none, some (pvR q15_)], [pvI 0], M) _
        refine pw_if hT (c := 0 = 0) rfl rfl (fun c28_ => ?_) (fun c28_ => absurd (by decide) c28_)
        refine pw_blk hT 2 (S' := (31, [some (pvR 0), some (pvI n1), some (pvI n2), some (pvJ n3), none, some (pvR q15_)], [pvI n2, pvR q15_], M)) rfl ⟨trivial, trivial, trivial⟩ ?_
        refine pw_callT hT (as := [pvR q15_, pvI n2]) (lo1 := [some (pvR q15_), some (pvI n2)]) (d1 := d) (rest := []) rfl rfl rfl rfl rfl (fun _ => k16_) (Nat.zero_le _) rfl rfl rfl (sf_X8_hasPlace_x_x M hok q15_ n2 k16_ d) ?_
        by_cases c34_ : n2 < 0
        · refine pw_eqI (if_pos c34_) ?_
          have b35_ : (-2147483648) ≤ Int32.toInt n2 ∧ Int32.toInt n2 ≤ (-1) := zr_lt_l (-1) c34_ (zbnd n2) (show 0 ≤ Int32.toInt 0 ∧ Int32.toInt 0 ≤ 0 from (by decide)) (by decide)
          show PW 181 d (34, [some (pvR 0), some (pvI n1), some (pvI n2), some (pvJ n3), none, some (pvR q15_)], [pvI 0], M) _
          refine pw_ifn hT (c := 0 = 0) rfl rfl (fun c36_ => absurd (by decide) c36_) (fun c36_ => ?_)
          refine pw_blk hT 1 (S' := (39, [some (pvR 0), some (pvI n1), some (pvI n2), some (pvJ n3), none, some (pvR q15_)], [pvI (-13)], M)) rfl ⟨trivial, trivial⟩ ?_
          exact pw_ret hT rfl (r := some (pvI (-13))) (M' := M) ⟨rfl, rfl⟩ ⟨⟨_, rfl, (zr_wide (show (-13) ≤ Int32.toInt (-13) ∧ Int32.toInt (-13) ≤ (-13) from (by decide)) (by decide) (by decide))⟩, hok, pvfr_0⟩
        · refine pw_eqI (if_neg c34_) ?_
          have b37_ : 0 ≤ Int32.toInt n2 ∧ Int32.toInt n2 ≤ 2147483647 := zr_nlt_l 0 c34_ (zbnd n2) (show 0 ≤ Int32.toInt 0 ∧ Int32.toInt 0 ≤ 0 from (by decide)) (by decide)
          have b38_ : 0 ≤ Int32.toInt (M.1 q15_ 1) ∧ Int32.toInt (M.1 q15_ 1) ≤ 60 := pvok_r hok q15_ 1 ((pvrg_o 1 k16_ (by decide) (by decide)).trans rfl)
          by_cases c39_ : (M.1 q15_ 1) ≤ n2
          · refine pw_eqI (if_pos c39_) ?_
            have d40_ : Int32.toInt (M.1 q15_ 1) ≤ Int32.toInt n2 := (zi_le _ _).mp c39_
            show PW 181 d (34, [some (pvR 0), some (pvI n1), some (pvI n2), some (pvJ n3), none, some (pvR q15_)], [pvI 0], M) _
            refine pw_ifn hT (c := 0 = 0) rfl rfl (fun c41_ => absurd (by decide) c41_) (fun c41_ => ?_)
            refine pw_blk hT 1 (S' := (39, [some (pvR 0), some (pvI n1), some (pvI n2), some (pvJ n3), none, some (pvR q15_)], [pvI (-13)], M)) rfl ⟨trivial, trivial⟩ ?_
            exact pw_ret hT rfl (r := some (pvI (-13))) (M' := M) ⟨rfl, rfl⟩ ⟨⟨_, rfl, (zr_wide (show (-13) ≤ Int32.toInt (-13) ∧ Int32.toInt (-13) ≤ (-13) from (by decide)) (by decide) (by decide))⟩, hok, pvfr_0⟩
          · refine pw_eqI (if_neg c39_) ?_
            have b42_ : 1 ≤ Int32.toInt (M.1 q15_ 1) ∧ Int32.toInt (M.1 q15_ 1) ≤ 60 := zr_nle_l 1 c39_ b38_ b37_ (by decide)
            have b43_ : 0 ≤ Int32.toInt n2 ∧ Int32.toInt n2 ≤ 59 := zr_nle_r 59 c39_ b37_ b42_ (by decide)
            have d44_ : Int32.toInt (M.1 q15_ 1) > Int32.toInt n2 := Int.not_le.mp ((not_congr (zi_le _ _)).mp c39_)
            show PW 181 d (34, [some (pvR 0), some (pvI n1), some (pvI n2), some (pvJ n3), none, some (pvR q15_)], [pvI 1], M) _
            refine pw_ifn hT (c := 1 = 0) rfl rfl (fun c45_ => ?_) (fun c45_ => absurd c45_ (by decide))
            refine pw_blk hT 5 (S' := (49, [some (pvR 0), some (pvI n1), some (pvI n2), some (pvJ n3), none, some (pvR q15_)], [pvJ n3, pvR q15_, pvI n2, pvR (q15_ + 6)], M)) rfl ⟨trivial, k16_, trivial, trivial, trivial, trivial⟩ ?_
            refine pw_callJp hT (as := [pvR q15_, pvJ n3]) (lo1 := [some (pvR q15_), some (pvJ n3), none]) (d1 := d) (rest := [pvI n2, pvR (q15_ + 6)]) rfl rfl rfl rfl rfl (fun _ => k16_) (Nat.zero_le _) rfl rfl rfl (sf_X8_asItem_x_x M hok q15_ n3 k16_ d) (fun x46_ b48_ => ?_)
            refine pw_blkw hT 1 (pc := 53) (lo := [some (pvR 0), some (pvI n1), some (pvI n2), some (pvJ n3), none, some (pvR q15_)]) (st := []) (M := pvw M (q15_ + 6) (Int32.toNatClampNeg n2) x46_) rfl ⟨⟨(pvow_7_6 k16_).1, (by rw [(pvow_7_6 k16_).2.1]; exact (zr_in (n := 60) b43_ (by decide) (by decide)))⟩, trivial⟩ (fun M51_ e52_ => ?_)
            have o53_ : pvOk M51_ := pvok_w e52_ hok
            have f54_ : pvFr fp_X9_item_0_x_x_x M M51_ := pvfr_w e52_ pvfr_0
            refine pw_blk hT 1 (S' := (54, [some (pvR 0), some (pvI n1), some (pvI n2), some (pvJ n3), none, some (pvR q15_)], [pvI 1], M51_)) rfl ⟨trivial, trivial⟩ ?_
            exact pw_ret hT rfl (r := some (pvI 1)) (M' := M51_) ⟨rfl, rfl⟩ ⟨⟨_, rfl, (zr_wide (show 1 ≤ Int32.toInt 1 ∧ Int32.toInt 1 ≤ 1 from (by decide)) (by decide) (by decide))⟩, o53_, f54_⟩
set_option maxHeartbeats 4000000 in
set_option maxRecDepth 10000 in
theorem sf_X9_judge_0_x_x (M : pvM) (hok : pvOk M) (n1 : Int32) (n2 : Int32) (d : Nat) : PW 182 d (0, [some (pvR 0), some (pvI n1), some (pvI n2), none, none, none], [], M) (fun r X => (∃ x : Int32, r = some (pvI x) ∧ (-12) ≤ Int32.toInt x ∧ Int32.toInt x ≤ 106) ∧ X = M) := by
  have hT : pvdom 182 = pvD_182 := rfl
  refine pw_blk hT 1 (S' := (1, [some (pvR 0), some (pvI n1), some (pvI n2), none, none, none], [pvI n1], M)) rfl ⟨trivial, trivial⟩ ?_
  refine pw_callT hT (as := [pvI n1]) (lo1 := [some (pvI n1)]) (d1 := d) (rest := []) rfl rfl rfl rfl rfl (fun h => absurd h (by decide)) (Nat.zero_le _) rfl rfl rfl (sf_X9_isTape_x M hok n1 d) ?_
  by_cases c6_ : n1 < 0
  · refine pw_eqI (if_pos c6_) ?_
    have b7_ : (-2147483648) ≤ Int32.toInt n1 ∧ Int32.toInt n1 ≤ (-1) := zr_lt_l (-1) c6_ (zbnd n1) (show 0 ≤ Int32.toInt 0 ∧ Int32.toInt 0 ≤ 0 from (by decide)) (by decide)
    show PW 182 d (4, [some (pvR 0), some (pvI n1), some (pvI n2), none, none, none], [pvI 0], M) _
    refine pw_ifn hT (c := 0 = 0) rfl rfl (fun c8_ => absurd (by decide) c8_) (fun c8_ => ?_)
    refine pw_blk hT 1 (S' := (8, [some (pvR 0), some (pvI n1), some (pvI n2), none, none, none], [pvI (-1)], M)) rfl ⟨trivial, trivial⟩ ?_
    exact pw_ret hT rfl (r := some (pvI (-1))) (M' := M) ⟨rfl, rfl⟩ ⟨⟨_, rfl, (zr_wide (show (-1) ≤ Int32.toInt (-1) ∧ Int32.toInt (-1) ≤ (-1) from (by decide)) (by decide) (by decide))⟩, rfl⟩
  · refine pw_eqI (if_neg c6_) ?_
    have b9_ : 0 ≤ Int32.toInt n1 ∧ Int32.toInt n1 ≤ 2147483647 := zr_nlt_l 0 c6_ (zbnd n1) (show 0 ≤ Int32.toInt 0 ∧ Int32.toInt 0 ≤ 0 from (by decide)) (by decide)
    by_cases c10_ : 5 < n1
    · refine pw_eqI (if_pos c10_) ?_
      have b11_ : 6 ≤ Int32.toInt n1 ∧ Int32.toInt n1 ≤ 2147483647 := zr_lt_r 6 c10_ b9_ (show 5 ≤ Int32.toInt 5 ∧ Int32.toInt 5 ≤ 5 from (by decide)) (by decide)
      show PW 182 d (4, [some (pvR 0), some (pvI n1), some (pvI n2), none, none, none], [pvI 0], M) _
      refine pw_ifn hT (c := 0 = 0) rfl rfl (fun c12_ => absurd (by decide) c12_) (fun c12_ => ?_)
      refine pw_blk hT 1 (S' := (8, [some (pvR 0), some (pvI n1), some (pvI n2), none, none, none], [pvI (-1)], M)) rfl ⟨trivial, trivial⟩ ?_
      exact pw_ret hT rfl (r := some (pvI (-1))) (M' := M) ⟨rfl, rfl⟩ ⟨⟨_, rfl, (zr_wide (show (-1) ≤ Int32.toInt (-1) ∧ Int32.toInt (-1) ≤ (-1) from (by decide)) (by decide) (by decide))⟩, rfl⟩
    · refine pw_eqI (if_neg c10_) ?_
      have b13_ : 0 ≤ Int32.toInt n1 ∧ Int32.toInt n1 ≤ 5 := zr_nlt_r 5 c10_ b9_ (show 5 ≤ Int32.toInt 5 ∧ Int32.toInt 5 ≤ 5 from (by decide)) (by decide)
      show PW 182 d (4, [some (pvR 0), some (pvI n1), some (pvI n2), none, none, none], [pvI 1], M) _
      refine pw_ifn hT (c := 1 = 0) rfl rfl (fun c14_ => ?_) (fun c14_ => absurd c14_ (by decide))
      refine pw_blkr hT 4 (pc := 15) (lo := [some (pvR 0), some (pvI n1), some (pvI n2), none, none, none]) (st := []) (M := M) (z := (pvbs 2 + Int32.toNatClampNeg n1)) rfl ⟨trivial, rfl, trivial, ⟨rfl, (zr_in (n := 6) b13_ (by decide) (by decide))⟩, trivial⟩ (fun q15_ e17_ => ?_)
      have k16_ : pvkl q15_ = 7 := pvel_2 (zr_in (n := 6) b13_ (by decide) (by decide)) e17_
      refine pw_blk hT 2 (S' := (17, [some (pvR 0), some (pvI n1), some (pvI n2), some (pvR q15_), none, none], [pvR q15_], M)) rfl ⟨trivial, trivial, trivial⟩ ?_
      refine pw_callT hT (as := [pvR q15_]) (lo1 := [some (pvR q15_)]) (d1 := d) (rest := []) rfl rfl rfl rfl rfl (fun _ => k16_) (Nat.zero_le _) rfl rfl rfl (sf_X8_isNothing_x M hok q15_ k16_ d) ?_
      have b23_ : (-1) ≤ Int32.toInt (M.1 q15_ 0) ∧ Int32.toInt (M.1 q15_ 0) ≤ 4 := pvok_r hok q15_ 0 ((pvrg_o 0 k16_ (by decide) (by decide)).trans rfl)
      by_cases c24_ : (M.1 q15_ 0) = (-1)
      · refine pw_eqI (if_pos c24_) ?_
        have b25_ : (-1) ≤ Int32.toInt (M.1 q15_ 0) ∧ Int32.toInt (M.1 q15_ 0) ≤ (-1) := (by have u0 := b23_; have u1 := (zi_eq _ _).mp c24_; have u2 := (show (-1) ≤ Int32.toInt (-1) ∧ Int32.toInt (-1) ≤ (-1) from (by decide)); omega)
        show PW 182 d (20, [some (pvR 0), some (pvI n1), some (pvI n2), some (pvR q15_), none, none], [pvI 1], M) _
        refine pw_ifn hT (c := 1 = 0) rfl rfl (fun c26_ => ?_) (fun c26_ => absurd c26_ (by decide))
        refine pw_blk hT 2 (S' := (37, [some (pvR 0), some (pvI n1), some (pvI n2), some (pvR q15_), some (pvI 0), none], [], M)) rfl ⟨trivial, trivial, trivial⟩ ?_
        have hlz171_ : ∀ (nz171_ : Nat) (i4z171_ : Int32) (v5z171_ : Option pvV), (0 ≤ Int32.toInt i4z171_ ∧ Int32.toInt i4z171_ ≤ 7) → ((8 - Int32.toInt i4z171_).toNat < nz171_) → PW 182 d (37, [some (pvR 0), some (pvI n1), some (pvI n2), some (pvR q15_), some (pvI i4z171_), v5z171_], [], M) (fun r X => (∃ x : Int32, r = some (pvI x) ∧ (-12) ≤ Int32.toInt x ∧ Int32.toInt x ≤ 106) ∧ X = M) := by
          intro nz171_
          induction nz171_ with
          | zero => intro i4z171_ v5z171_ h4z171_ hmz171_; exact absurd hmz171_ (Nat.not_lt_zero _)
          | succ nz171_ ihz171_ =>
            intro i4z171_ v5z171_ h4z171_ hmz171_
            have b172_ : 0 ≤ Int32.toInt (M.1 8 1) ∧ Int32.toInt (M.1 8 1) ≤ 7 := pvok_r hok 8 1 rfl
            refine pw_blk hT 4 (S' := (46, [some (pvR 0), some (pvI n1), some (pvI n2), some (pvR q15_), some (pvI i4z171_), v5z171_], [pvI (M.1 8 1), pvI i4z171_], M)) rfl ⟨trivial, trivial, rfl, rfl, trivial⟩ ?_
            refine pw_ic hT (c := (M.1 8 1) ≤ i4z171_) rfl rfl (fun c173_ => ?_) (fun c173_ => ?_)
            · have d174_ : Int32.toInt (M.1 8 1) ≤ Int32.toInt i4z171_ := (zi_le _ _).mp c173_
              refine pw_blk hT 1 (S' := (120, [some (pvR 0), some (pvI n1), some (pvI n2), some (pvR q15_), some (pvI i4z171_), v5z171_], [pvI (-5)], M)) rfl ⟨trivial, trivial⟩ ?_
              exact pw_ret hT rfl (r := some (pvI (-5))) (M' := M) ⟨rfl, rfl⟩ ⟨⟨_, rfl, (zr_wide (show (-5) ≤ Int32.toInt (-5) ∧ Int32.toInt (-5) ≤ (-5) from (by decide)) (by decide) (by decide))⟩, rfl⟩
            · have b175_ : 1 ≤ Int32.toInt (M.1 8 1) ∧ Int32.toInt (M.1 8 1) ≤ 7 := zr_nle_l 1 c173_ b172_ h4z171_ (by decide)
              have b176_ : 0 ≤ Int32.toInt i4z171_ ∧ Int32.toInt i4z171_ ≤ 6 := zr_nle_r 6 c173_ h4z171_ b175_ (by decide)
              have d177_ : Int32.toInt (M.1 8 1) > Int32.toInt i4z171_ := Int.not_le.mp ((not_congr (zi_le _ _)).mp c173_)
              refine pw_blk hT 1 (S' := (50, [some (pvR 0), some (pvI n1), some (pvI n2), some (pvR q15_), some (pvI i4z171_), v5z171_], [pvI n2], M)) rfl ⟨trivial, trivial⟩ ?_
              refine pw_if hT (c := n2 < 0) rfl rfl (fun c178_ => ?_) (fun c178_ => ?_)
              · have b179_ : (-2147483648) ≤ Int32.toInt n2 ∧ Int32.toInt n2 ≤ (-1) := zr_lt_l (-1) c178_ (zbnd n2) (show 0 ≤ Int32.toInt 0 ∧ Int32.toInt 0 ≤ 0 from (by decide)) (by decide)
                obtain ⟨q181_, b180_⟩ : (Int32.toInt (100 + i4z171_) = Int32.toInt 100 + Int32.toInt i4z171_) ∧ (100 ≤ Int32.toInt (100 + i4z171_) ∧ Int32.toInt (100 + i4z171_) ≤ 106) := zadd_r 100 i4z171_ 100 106 (show 100 ≤ Int32.toInt 100 ∧ Int32.toInt 100 ≤ 100 from (by decide)) b176_ (by decide) (by decide) (by decide) (by decide)
                have u182_ : Int32.toInt 100 = 100 := by decide
                refine pw_blk hT 3 (S' := (69, [some (pvR 0), some (pvI n1), some (pvI n2), some (pvR q15_), some (pvI i4z171_), v5z171_], [pvI (100 + i4z171_)], M)) rfl ⟨trivial, trivial, trivial, trivial⟩ ?_
                exact pw_ret hT rfl (r := some (pvI (100 + i4z171_))) (M' := M) ⟨rfl, rfl⟩ ⟨⟨_, rfl, (zr_wide b180_ (by decide) (by decide))⟩, rfl⟩
              · have b183_ : 0 ≤ Int32.toInt n2 ∧ Int32.toInt n2 ≤ 2147483647 := zr_nlt_l 0 c178_ (zbnd n2) (show 0 ≤ Int32.toInt 0 ∧ Int32.toInt 0 ≤ 0 from (by decide)) (by decide)
                have b184_ : 0 ≤ Int32.toInt (M.1 q15_ 1) ∧ Int32.toInt (M.1 q15_ 1) ≤ 60 := pvok_r hok q15_ 1 ((pvrg_o 1 k16_ (by decide) (by decide)).trans rfl)
                obtain ⟨q186_, b185_⟩ : (Int32.toInt ((M.1 q15_ 1) - i4z171_) = Int32.toInt (M.1 q15_ 1) - Int32.toInt i4z171_) ∧ ((-6) ≤ Int32.toInt ((M.1 q15_ 1) - i4z171_) ∧ Int32.toInt ((M.1 q15_ 1) - i4z171_) ≤ 60) := zsub_r (M.1 q15_ 1) i4z171_ (-6) 60 b184_ b176_ (by decide) (by decide) (by decide) (by decide)
                refine pw_blk hT 5 (S' := (61, [some (pvR 0), some (pvI n1), some (pvI n2), some (pvR q15_), some (pvI i4z171_), v5z171_], [pvI ((M.1 q15_ 1) - i4z171_), pvI n2], M)) rfl ⟨trivial, trivial, k16_, trivial, trivial, trivial⟩ ?_
                refine pw_ic hT (c := n2 < ((M.1 q15_ 1) - i4z171_)) rfl rfl (fun c187_ => ?_) (fun c187_ => ?_)
                · have b188_ : 0 ≤ Int32.toInt n2 ∧ Int32.toInt n2 ≤ 59 := zr_lt_l 59 c187_ b183_ b185_ (by decide)
                  have b189_ : 1 ≤ Int32.toInt ((M.1 q15_ 1) - i4z171_) ∧ Int32.toInt ((M.1 q15_ 1) - i4z171_) ≤ 60 := zr_lt_r 1 c187_ b185_ b188_ (by decide)
                  have d190_ : Int32.toInt n2 < Int32.toInt ((M.1 q15_ 1) - i4z171_) := (zi_lt _ _).mp c187_
                  obtain ⟨q192_, b191_⟩ : (Int32.toInt (n2 + i4z171_) = Int32.toInt n2 + Int32.toInt i4z171_) ∧ (0 ≤ Int32.toInt (n2 + i4z171_) ∧ Int32.toInt (n2 + i4z171_) ≤ 65) := zadd_r n2 i4z171_ 0 65 b188_ b176_ (by decide) (by decide) (by decide) (by decide)
                  refine pw_blk hT 8 (S' := (81, [some (pvR 0), some (pvI n1), some (pvI n2), some (pvR q15_), some (pvI i4z171_), v5z171_], [pvI (lg_cmp (M.2 (q15_ + 6) (Int32.toNatClampNeg (n2 + i4z171_))) 0)], M)) rfl ⟨trivial, k16_, trivial, trivial, trivial, ⟨(pvow_7_6 k16_).1, (by rw [(pvow_7_6 k16_).2.1]; exact (vp_in_iff.mpr (show 0 ≤ Int32.toInt (n2 + i4z171_) ∧ Int32.toInt (n2 + i4z171_) < ((60 : Nat) : Int) from (by have u0 := b191_; omega))))⟩, trivial, trivial, trivial⟩ ?_
                  refine pw_if hT (c := (lg_cmp (M.2 (q15_ + 6) (Int32.toNatClampNeg (n2 + i4z171_))) 0) = 0) rfl rfl (fun c193_ => ?_) (fun c193_ => ?_)
                  · have b194_ : 0 ≤ Int32.toInt (lg_cmp (M.2 (q15_ + 6) (Int32.toNatClampNeg (n2 + i4z171_))) 0) ∧ Int32.toInt (lg_cmp (M.2 (q15_ + 6) (Int32.toNatClampNeg (n2 + i4z171_))) 0) ≤ 0 := (by have u0 := (zbnd (lg_cmp (M.2 (q15_ + 6) (Int32.toNatClampNeg (n2 + i4z171_))) 0)); have u1 := (zi_eq _ _).mp c193_; have u2 := (show 0 ≤ Int32.toInt 0 ∧ Int32.toInt 0 ≤ 0 from (by decide)); omega)
                    refine pw_blkr hT 8 (pc := 103) (lo := [some (pvR 0), some (pvI n1), some (pvI n2), some (pvR q15_), some (pvI i4z171_), some (pvI 0)]) (st := [pvI 0]) (M := M) (z := (pvbs 10 + Int32.toNatClampNeg i4z171_)) rfl ⟨trivial, trivial, trivial, trivial, rfl, rfl, trivial, ⟨rfl, (zr_in (n := 7) b176_ (by decide) (by decide))⟩, trivial⟩ (fun q195_ e197_ => ?_)
                    have k196_ : pvkl q195_ = 3 := pvel_10 (zr_in (n := 7) b176_ (by decide) (by decide)) e197_
                    have b198_ : 0 ≤ Int32.toInt (M.1 q195_ 5) ∧ Int32.toInt (M.1 q195_ 5) ≤ 1 := pvok_r hok q195_ 5 ((pvrg_o 5 k196_ (by decide) (by decide)).trans rfl)
                    refine pw_blk hT 1 (S' := (106, [some (pvR 0), some (pvI n1), some (pvI n2), some (pvR q15_), some (pvI i4z171_), some (pvI 0)], [pvI (M.1 q195_ 5), pvI 0], M)) rfl ⟨k196_, trivial⟩ ?_
                    refine pw_ic hT (c := 0 = (M.1 q195_ 5)) rfl rfl (fun c199_ => ?_) (fun c199_ => ?_)
                    · have b200_ : 0 ≤ Int32.toInt (M.1 q195_ 5) ∧ Int32.toInt (M.1 q195_ 5) ≤ 0 := (by have u0 := b198_; have u1 := (zi_eq _ _).mp c199_; have u2 := (show 0 ≤ Int32.toInt 0 ∧ Int32.toInt 0 ≤ 0 from (by decide)); omega)
                      obtain ⟨q202_, b201_⟩ : (Int32.toInt (i4z171_ + 1) = Int32.toInt i4z171_ + Int32.toInt 1) ∧ (1 ≤ Int32.toInt (i4z171_ + 1) ∧ Int32.toInt (i4z171_ + 1) ≤ 7) := zadd_r i4z171_ 1 1 7 b176_ (show 1 ≤ Int32.toInt 1 ∧ Int32.toInt 1 ≤ 1 from (by decide)) (by decide) (by decide) (by decide) (by decide)
                      have u203_ : Int32.toInt 1 = 1 := by decide
                      refine pw_blk hT 2 (S' := (37, [some (pvR 0), some (pvI n1), some (pvI n2), some (pvR q15_), some (pvI (i4z171_ + 1)), some (pvI 0)], [], M)) rfl ⟨trivial, trivial, trivial⟩ ?_
                      exact ihz171_ (i4z171_ + 1) (some (pvI 0)) (zr_wide b201_ (by decide) (by decide)) (by omega)
                    · have b204_ : 1 ≤ Int32.toInt (M.1 q195_ 5) ∧ Int32.toInt (M.1 q195_ 5) ≤ 1 := (by have u0 := b198_; have u1 := (not_congr (zi_eq _ _)).mp c199_; have u2 := (show 0 ≤ Int32.toInt 0 ∧ Int32.toInt 0 ≤ 0 from (by decide)); omega)
                      refine pw_blk hT 1 (S' := (111, [some (pvR 0), some (pvI n1), some (pvI n2), some (pvR q15_), some (pvI i4z171_), some (pvI 0)], [pvI i4z171_], M)) rfl ⟨trivial, trivial⟩ ?_
                      exact pw_ret hT rfl (r := some (pvI i4z171_)) (M' := M) ⟨rfl, rfl⟩ ⟨⟨_, rfl, (zr_wide b176_ (by decide) (by decide))⟩, rfl⟩
                  · refine pw_blkr hT 9 (pc := 103) (lo := [some (pvR 0), some (pvI n1), some (pvI n2), some (pvR q15_), some (pvI i4z171_), some (pvI 1)]) (st := [pvI 1]) (M := M) (z := (pvbs 10 + Int32.toNatClampNeg i4z171_)) rfl ⟨trivial, trivial, trivial, trivial, trivial, rfl, rfl, trivial, ⟨rfl, (zr_in (n := 7) b176_ (by decide) (by decide))⟩, trivial⟩ (fun q205_ e207_ => ?_)
                    have k206_ : pvkl q205_ = 3 := pvel_10 (zr_in (n := 7) b176_ (by decide) (by decide)) e207_
                    have b208_ : 0 ≤ Int32.toInt (M.1 q205_ 5) ∧ Int32.toInt (M.1 q205_ 5) ≤ 1 := pvok_r hok q205_ 5 ((pvrg_o 5 k206_ (by decide) (by decide)).trans rfl)
                    refine pw_blk hT 1 (S' := (106, [some (pvR 0), some (pvI n1), some (pvI n2), some (pvR q15_), some (pvI i4z171_), some (pvI 1)], [pvI (M.1 q205_ 5), pvI 1], M)) rfl ⟨k206_, trivial⟩ ?_
                    refine pw_ic hT (c := 1 = (M.1 q205_ 5)) rfl rfl (fun c209_ => ?_) (fun c209_ => ?_)
                    · have b210_ : 1 ≤ Int32.toInt (M.1 q205_ 5) ∧ Int32.toInt (M.1 q205_ 5) ≤ 1 := (by have u0 := b208_; have u1 := (zi_eq _ _).mp c209_; have u2 := (show 1 ≤ Int32.toInt 1 ∧ Int32.toInt 1 ≤ 1 from (by decide)); omega)
                      obtain ⟨q212_, b211_⟩ : (Int32.toInt (i4z171_ + 1) = Int32.toInt i4z171_ + Int32.toInt 1) ∧ (1 ≤ Int32.toInt (i4z171_ + 1) ∧ Int32.toInt (i4z171_ + 1) ≤ 7) := zadd_r i4z171_ 1 1 7 b176_ (show 1 ≤ Int32.toInt 1 ∧ Int32.toInt 1 ≤ 1 from (by decide)) (by decide) (by decide) (by decide) (by decide)
                      have u213_ : Int32.toInt 1 = 1 := by decide
                      refine pw_blk hT 2 (S' := (37, [some (pvR 0), some (pvI n1), some (pvI n2), some (pvR q15_), some (pvI (i4z171_ + 1)), some (pvI 1)], [], M)) rfl ⟨trivial, trivial, trivial⟩ ?_
                      exact ihz171_ (i4z171_ + 1) (some (pvI 1)) (zr_wide b211_ (by decide) (by decide)) (by omega)
                    · have b214_ : 0 ≤ Int32.toInt (M.1 q205_ 5) ∧ Int32.toInt (M.1 q205_ 5) ≤ 0 := (by have u0 := b208_; have u1 := (not_congr (zi_eq _ _)).mp c209_; have u2 := (show 1 ≤ Int32.toInt 1 ∧ Int32.toInt 1 ≤ 1 from (by decide)); omega)
                      refine pw_blk hT 1 (S' := (111, [some (pvR 0), some (pvI n1), some (pvI n2), some (pvR q15_), some (pvI i4z171_), some (pvI 1)], [pvI i4z171_], M)) rfl ⟨trivial, trivial⟩ ?_
                      exact pw_ret hT rfl (r := some (pvI i4z171_)) (M' := M) ⟨rfl, rfl⟩ ⟨⟨_, rfl, (zr_wide b176_ (by decide) (by decide))⟩, rfl⟩
                · have d215_ : Int32.toInt n2 ≥ Int32.toInt ((M.1 q15_ 1) - i4z171_) := Int.not_lt.mp ((not_congr (zi_lt _ _)).mp c187_)
                  obtain ⟨q217_, b216_⟩ : (Int32.toInt (100 + i4z171_) = Int32.toInt 100 + Int32.toInt i4z171_) ∧ (100 ≤ Int32.toInt (100 + i4z171_) ∧ Int32.toInt (100 + i4z171_) ≤ 106) := zadd_r 100 i4z171_ 100 106 (show 100 ≤ Int32.toInt 100 ∧ Int32.toInt 100 ≤ 100 from (by decide)) b176_ (by decide) (by decide) (by decide) (by decide)
                  have u218_ : Int32.toInt 100 = 100 := by decide
                  refine pw_blk hT 3 (S' := (69, [some (pvR 0), some (pvI n1), some (pvI n2), some (pvR q15_), some (pvI i4z171_), v5z171_], [pvI (100 + i4z171_)], M)) rfl ⟨trivial, trivial, trivial, trivial⟩ ?_
                  exact pw_ret hT rfl (r := some (pvI (100 + i4z171_))) (M' := M) ⟨rfl, rfl⟩ ⟨⟨_, rfl, (zr_wide b216_ (by decide) (by decide))⟩, rfl⟩
        exact hlz171_ _ 0 none (zr_wide (show 0 ≤ Int32.toInt 0 ∧ Int32.toInt 0 ≤ 0 from (by decide)) (by decide) (by decide)) (Nat.lt_succ_self _)
      · refine pw_eqI (if_neg c24_) ?_
        have b219_ : 0 ≤ Int32.toInt (M.1 q15_ 0) ∧ Int32.toInt (M.1 q15_ 0) ≤ 4 := (by have u0 := b23_; have u1 := (not_congr (zi_eq _ _)).mp c24_; have u2 := (show (-1) ≤ Int32.toInt (-1) ∧ Int32.toInt (-1) ≤ (-1) from (by decide)); omega)
        show PW 182 d (20, [some (pvR 0), some (pvI n1), some (pvI n2), some (pvR q15_), none, none], [pvI 0], M) _
        refine pw_ifn hT (c := 0 = 0) rfl rfl (fun c220_ => absurd (by decide) c220_) (fun c220_ => ?_)
        refine pw_blk hT 3 (S' := (28, [some (pvR 0), some (pvI n1), some (pvI n2), some (pvR q15_), none, none], [pvI 4, pvI (M.1 q15_ 0)], M)) rfl ⟨trivial, k16_, trivial, trivial⟩ ?_
        refine pw_ic hT (c := (M.1 q15_ 0) = 4) rfl rfl (fun c221_ => ?_) (fun c221_ => ?_)
        · have b222_ : 4 ≤ Int32.toInt (M.1 q15_ 0) ∧ Int32.toInt (M.1 q15_ 0) ≤ 4 := (by have u0 := b219_; have u1 := (zi_eq _ _).mp c221_; have u2 := (show 4 ≤ Int32.toInt 4 ∧ Int32.toInt 4 ≤ 4 from (by decide)); omega)
          refine pw_blk hT 2 (S' := (37, [some (pvR 0), some (pvI n1), some (pvI n2), some (pvR q15_), some (pvI 0), none], [], M)) rfl ⟨trivial, trivial, trivial⟩ ?_
          have hlz367_ : ∀ (nz367_ : Nat) (i4z367_ : Int32) (v5z367_ : Option pvV), (0 ≤ Int32.toInt i4z367_ ∧ Int32.toInt i4z367_ ≤ 7) → ((8 - Int32.toInt i4z367_).toNat < nz367_) → PW 182 d (37, [some (pvR 0), some (pvI n1), some (pvI n2), some (pvR q15_), some (pvI i4z367_), v5z367_], [], M) (fun r X => (∃ x : Int32, r = some (pvI x) ∧ (-12) ≤ Int32.toInt x ∧ Int32.toInt x ≤ 106) ∧ X = M) := by
            intro nz367_
            induction nz367_ with
            | zero => intro i4z367_ v5z367_ h4z367_ hmz367_; exact absurd hmz367_ (Nat.not_lt_zero _)
            | succ nz367_ ihz367_ =>
              intro i4z367_ v5z367_ h4z367_ hmz367_
              have b368_ : 0 ≤ Int32.toInt (M.1 8 1) ∧ Int32.toInt (M.1 8 1) ≤ 7 := pvok_r hok 8 1 rfl
              refine pw_blk hT 4 (S' := (46, [some (pvR 0), some (pvI n1), some (pvI n2), some (pvR q15_), some (pvI i4z367_), v5z367_], [pvI (M.1 8 1), pvI i4z367_], M)) rfl ⟨trivial, trivial, rfl, rfl, trivial⟩ ?_
              refine pw_ic hT (c := (M.1 8 1) ≤ i4z367_) rfl rfl (fun c369_ => ?_) (fun c369_ => ?_)
              · have d370_ : Int32.toInt (M.1 8 1) ≤ Int32.toInt i4z367_ := (zi_le _ _).mp c369_
                refine pw_blk hT 1 (S' := (120, [some (pvR 0), some (pvI n1), some (pvI n2), some (pvR q15_), some (pvI i4z367_), v5z367_], [pvI (-5)], M)) rfl ⟨trivial, trivial⟩ ?_
                exact pw_ret hT rfl (r := some (pvI (-5))) (M' := M) ⟨rfl, rfl⟩ ⟨⟨_, rfl, (zr_wide (show (-5) ≤ Int32.toInt (-5) ∧ Int32.toInt (-5) ≤ (-5) from (by decide)) (by decide) (by decide))⟩, rfl⟩
              · have b371_ : 1 ≤ Int32.toInt (M.1 8 1) ∧ Int32.toInt (M.1 8 1) ≤ 7 := zr_nle_l 1 c369_ b368_ h4z367_ (by decide)
                have b372_ : 0 ≤ Int32.toInt i4z367_ ∧ Int32.toInt i4z367_ ≤ 6 := zr_nle_r 6 c369_ h4z367_ b371_ (by decide)
                have d373_ : Int32.toInt (M.1 8 1) > Int32.toInt i4z367_ := Int.not_le.mp ((not_congr (zi_le _ _)).mp c369_)
                refine pw_blk hT 1 (S' := (50, [some (pvR 0), some (pvI n1), some (pvI n2), some (pvR q15_), some (pvI i4z367_), v5z367_], [pvI n2], M)) rfl ⟨trivial, trivial⟩ ?_
                refine pw_if hT (c := n2 < 0) rfl rfl (fun c374_ => ?_) (fun c374_ => ?_)
                · have b375_ : (-2147483648) ≤ Int32.toInt n2 ∧ Int32.toInt n2 ≤ (-1) := zr_lt_l (-1) c374_ (zbnd n2) (show 0 ≤ Int32.toInt 0 ∧ Int32.toInt 0 ≤ 0 from (by decide)) (by decide)
                  obtain ⟨q377_, b376_⟩ : (Int32.toInt (100 + i4z367_) = Int32.toInt 100 + Int32.toInt i4z367_) ∧ (100 ≤ Int32.toInt (100 + i4z367_) ∧ Int32.toInt (100 + i4z367_) ≤ 106) := zadd_r 100 i4z367_ 100 106 (show 100 ≤ Int32.toInt 100 ∧ Int32.toInt 100 ≤ 100 from (by decide)) b372_ (by decide) (by decide) (by decide) (by decide)
                  have u378_ : Int32.toInt 100 = 100 := by decide
                  refine pw_blk hT 3 (S' := (69, [some (pvR 0), some (pvI n1), some (pvI n2), some (pvR q15_), some (pvI i4z367_), v5z367_], [pvI (100 + i4z367_)], M)) rfl ⟨trivial, trivial, trivial, trivial⟩ ?_
                  exact pw_ret hT rfl (r := some (pvI (100 + i4z367_))) (M' := M) ⟨rfl, rfl⟩ ⟨⟨_, rfl, (zr_wide b376_ (by decide) (by decide))⟩, rfl⟩
                · have b379_ : 0 ≤ Int32.toInt n2 ∧ Int32.toInt n2 ≤ 2147483647 := zr_nlt_l 0 c374_ (zbnd n2) (show 0 ≤ Int32.toInt 0 ∧ Int32.toInt 0 ≤ 0 from (by decide)) (by decide)
                  have b380_ : 0 ≤ Int32.toInt (M.1 q15_ 1) ∧ Int32.toInt (M.1 q15_ 1) ≤ 60 := pvok_r hok q15_ 1 ((pvrg_o 1 k16_ (by decide) (by decide)).trans rfl)
                  obtain ⟨q382_, b381_⟩ : (Int32.toInt ((M.1 q15_ 1) - i4z367_) = Int32.toInt (M.1 q15_ 1) - Int32.toInt i4z367_) ∧ ((-6) ≤ Int32.toInt ((M.1 q15_ 1) - i4z367_) ∧ Int32.toInt ((M.1 q15_ 1) - i4z367_) ≤ 60) := zsub_r (M.1 q15_ 1) i4z367_ (-6) 60 b380_ b372_ (by decide) (by decide) (by decide) (by decide)
                  refine pw_blk hT 5 (S' := (61, [some (pvR 0), some (pvI n1), some (pvI n2), some (pvR q15_), some (pvI i4z367_), v5z367_], [pvI ((M.1 q15_ 1) - i4z367_), pvI n2], M)) rfl ⟨trivial, trivial, k16_, trivial, trivial, trivial⟩ ?_
                  refine pw_ic hT (c := n2 < ((M.1 q15_ 1) - i4z367_)) rfl rfl (fun c383_ => ?_) (fun c383_ => ?_)
                  · have b384_ : 0 ≤ Int32.toInt n2 ∧ Int32.toInt n2 ≤ 59 := zr_lt_l 59 c383_ b379_ b381_ (by decide)
                    have b385_ : 1 ≤ Int32.toInt ((M.1 q15_ 1) - i4z367_) ∧ Int32.toInt ((M.1 q15_ 1) - i4z367_) ≤ 60 := zr_lt_r 1 c383_ b381_ b384_ (by decide)
                    have d386_ : Int32.toInt n2 < Int32.toInt ((M.1 q15_ 1) - i4z367_) := (zi_lt _ _).mp c383_
                    obtain ⟨q388_, b387_⟩ : (Int32.toInt (n2 + i4z367_) = Int32.toInt n2 + Int32.toInt i4z367_) ∧ (0 ≤ Int32.toInt (n2 + i4z367_) ∧ Int32.toInt (n2 + i4z367_) ≤ 65) := zadd_r n2 i4z367_ 0 65 b384_ b372_ (by decide) (by decide) (by decide) (by decide)
                    refine pw_blk hT 8 (S' := (81, [some (pvR 0), some (pvI n1), some (pvI n2), some (pvR q15_), some (pvI i4z367_), v5z367_], [pvI (lg_cmp (M.2 (q15_ + 6) (Int32.toNatClampNeg (n2 + i4z367_))) 0)], M)) rfl ⟨trivial, k16_, trivial, trivial, trivial, ⟨(pvow_7_6 k16_).1, (by rw [(pvow_7_6 k16_).2.1]; exact (vp_in_iff.mpr (show 0 ≤ Int32.toInt (n2 + i4z367_) ∧ Int32.toInt (n2 + i4z367_) < ((60 : Nat) : Int) from (by have u0 := b387_; omega))))⟩, trivial, trivial, trivial⟩ ?_
                    refine pw_if hT (c := (lg_cmp (M.2 (q15_ + 6) (Int32.toNatClampNeg (n2 + i4z367_))) 0) = 0) rfl rfl (fun c389_ => ?_) (fun c389_ => ?_)
                    · have b390_ : 0 ≤ Int32.toInt (lg_cmp (M.2 (q15_ + 6) (Int32.toNatClampNeg (n2 + i4z367_))) 0) ∧ Int32.toInt (lg_cmp (M.2 (q15_ + 6) (Int32.toNatClampNeg (n2 + i4z367_))) 0) ≤ 0 := (by have u0 := (zbnd (lg_cmp (M.2 (q15_ + 6) (Int32.toNatClampNeg (n2 + i4z367_))) 0)); have u1 := (zi_eq _ _).mp c389_; have u2 := (show 0 ≤ Int32.toInt 0 ∧ Int32.toInt 0 ≤ 0 from (by decide)); omega)
                      refine pw_blkr hT 8 (pc := 103) (lo := [some (pvR 0), some (pvI n1), some (pvI n2), some (pvR q15_), some (pvI i4z367_), some (pvI 0)]) (st := [pvI 0]) (M := M) (z := (pvbs 10 + Int32.toNatClampNeg i4z367_)) rfl ⟨trivial, trivial, trivial, trivial, rfl, rfl, trivial, ⟨rfl, (zr_in (n := 7) b372_ (by decide) (by decide))⟩, trivial⟩ (fun q391_ e393_ => ?_)
                      have k392_ : pvkl q391_ = 3 := pvel_10 (zr_in (n := 7) b372_ (by decide) (by decide)) e393_
                      have b394_ : 0 ≤ Int32.toInt (M.1 q391_ 5) ∧ Int32.toInt (M.1 q391_ 5) ≤ 1 := pvok_r hok q391_ 5 ((pvrg_o 5 k392_ (by decide) (by decide)).trans rfl)
                      refine pw_blk hT 1 (S' := (106, [some (pvR 0), some (pvI n1), some (pvI n2), some (pvR q15_), some (pvI i4z367_), some (pvI 0)], [pvI (M.1 q391_ 5), pvI 0], M)) rfl ⟨k392_, trivial⟩ ?_
                      refine pw_ic hT (c := 0 = (M.1 q391_ 5)) rfl rfl (fun c395_ => ?_) (fun c395_ => ?_)
                      · have b396_ : 0 ≤ Int32.toInt (M.1 q391_ 5) ∧ Int32.toInt (M.1 q391_ 5) ≤ 0 := (by have u0 := b394_; have u1 := (zi_eq _ _).mp c395_; have u2 := (show 0 ≤ Int32.toInt 0 ∧ Int32.toInt 0 ≤ 0 from (by decide)); omega)
                        obtain ⟨q398_, b397_⟩ : (Int32.toInt (i4z367_ + 1) = Int32.toInt i4z367_ + Int32.toInt 1) ∧ (1 ≤ Int32.toInt (i4z367_ + 1) ∧ Int32.toInt (i4z367_ + 1) ≤ 7) := zadd_r i4z367_ 1 1 7 b372_ (show 1 ≤ Int32.toInt 1 ∧ Int32.toInt 1 ≤ 1 from (by decide)) (by decide) (by decide) (by decide) (by decide)
                        have u399_ : Int32.toInt 1 = 1 := by decide
                        refine pw_blk hT 2 (S' := (37, [some (pvR 0), some (pvI n1), some (pvI n2), some (pvR q15_), some (pvI (i4z367_ + 1)), some (pvI 0)], [], M)) rfl ⟨trivial, trivial, trivial⟩ ?_
                        exact ihz367_ (i4z367_ + 1) (some (pvI 0)) (zr_wide b397_ (by decide) (by decide)) (by omega)
                      · have b400_ : 1 ≤ Int32.toInt (M.1 q391_ 5) ∧ Int32.toInt (M.1 q391_ 5) ≤ 1 := (by have u0 := b394_; have u1 := (not_congr (zi_eq _ _)).mp c395_; have u2 := (show 0 ≤ Int32.toInt 0 ∧ Int32.toInt 0 ≤ 0 from (by decide)); omega)
                        refine pw_blk hT 1 (S' := (111, [some (pvR 0), some (pvI n1), some (pvI n2), some (pvR q15_), some (pvI i4z367_), some (pvI 0)], [pvI i4z367_], M)) rfl ⟨trivial, trivial⟩ ?_
                        exact pw_ret hT rfl (r := some (pvI i4z367_)) (M' := M) ⟨rfl, rfl⟩ ⟨⟨_, rfl, (zr_wide b372_ (by decide) (by decide))⟩, rfl⟩
                    · refine pw_blkr hT 9 (pc := 103) (lo := [some (pvR 0), some (pvI n1), some (pvI n2), some (pvR q15_), some (pvI i4z367_), some (pvI 1)]) (st := [pvI 1]) (M := M) (z := (pvbs 10 + Int32.toNatClampNeg i4z367_)) rfl ⟨trivial, trivial, trivial, trivial, trivial, rfl, rfl, trivial, ⟨rfl, (zr_in (n := 7) b372_ (by decide) (by decide))⟩, trivial⟩ (fun q401_ e403_ => ?_)
                      have k402_ : pvkl q401_ = 3 := pvel_10 (zr_in (n := 7) b372_ (by decide) (by decide)) e403_
                      have b404_ : 0 ≤ Int32.toInt (M.1 q401_ 5) ∧ Int32.toInt (M.1 q401_ 5) ≤ 1 := pvok_r hok q401_ 5 ((pvrg_o 5 k402_ (by decide) (by decide)).trans rfl)
                      refine pw_blk hT 1 (S' := (106, [some (pvR 0), some (pvI n1), some (pvI n2), some (pvR q15_), some (pvI i4z367_), some (pvI 1)], [pvI (M.1 q401_ 5), pvI 1], M)) rfl ⟨k402_, trivial⟩ ?_
                      refine pw_ic hT (c := 1 = (M.1 q401_ 5)) rfl rfl (fun c405_ => ?_) (fun c405_ => ?_)
                      · have b406_ : 1 ≤ Int32.toInt (M.1 q401_ 5) ∧ Int32.toInt (M.1 q401_ 5) ≤ 1 := (by have u0 := b404_; have u1 := (zi_eq _ _).mp c405_; have u2 := (show 1 ≤ Int32.toInt 1 ∧ Int32.toInt 1 ≤ 1 from (by decide)); omega)
                        obtain ⟨q408_, b407_⟩ : (Int32.toInt (i4z367_ + 1) = Int32.toInt i4z367_ + Int32.toInt 1) ∧ (1 ≤ Int32.toInt (i4z367_ + 1) ∧ Int32.toInt (i4z367_ + 1) ≤ 7) := zadd_r i4z367_ 1 1 7 b372_ (show 1 ≤ Int32.toInt 1 ∧ Int32.toInt 1 ≤ 1 from (by decide)) (by decide) (by decide) (by decide) (by decide)
                        have u409_ : Int32.toInt 1 = 1 := by decide
                        refine pw_blk hT 2 (S' := (37, [some (pvR 0), some (pvI n1), some (pvI n2), some (pvR q15_), some (pvI (i4z367_ + 1)), some (pvI 1)], [], M)) rfl ⟨trivial, trivial, trivial⟩ ?_
                        exact ihz367_ (i4z367_ + 1) (some (pvI 1)) (zr_wide b407_ (by decide) (by decide)) (by omega)
                      · have b410_ : 0 ≤ Int32.toInt (M.1 q401_ 5) ∧ Int32.toInt (M.1 q401_ 5) ≤ 0 := (by have u0 := b404_; have u1 := (not_congr (zi_eq _ _)).mp c405_; have u2 := (show 1 ≤ Int32.toInt 1 ∧ Int32.toInt 1 ≤ 1 from (by decide)); omega)
                        refine pw_blk hT 1 (S' := (111, [some (pvR 0), some (pvI n1), some (pvI n2), some (pvR q15_), some (pvI i4z367_), some (pvI 1)], [pvI i4z367_], M)) rfl ⟨trivial, trivial⟩ ?_
                        exact pw_ret hT rfl (r := some (pvI i4z367_)) (M' := M) ⟨rfl, rfl⟩ ⟨⟨_, rfl, (zr_wide b372_ (by decide) (by decide))⟩, rfl⟩
                  · have d411_ : Int32.toInt n2 ≥ Int32.toInt ((M.1 q15_ 1) - i4z367_) := Int.not_lt.mp ((not_congr (zi_lt _ _)).mp c383_)
                    obtain ⟨q413_, b412_⟩ : (Int32.toInt (100 + i4z367_) = Int32.toInt 100 + Int32.toInt i4z367_) ∧ (100 ≤ Int32.toInt (100 + i4z367_) ∧ Int32.toInt (100 + i4z367_) ≤ 106) := zadd_r 100 i4z367_ 100 106 (show 100 ≤ Int32.toInt 100 ∧ Int32.toInt 100 ≤ 100 from (by decide)) b372_ (by decide) (by decide) (by decide) (by decide)
                    have u414_ : Int32.toInt 100 = 100 := by decide
                    refine pw_blk hT 3 (S' := (69, [some (pvR 0), some (pvI n1), some (pvI n2), some (pvR q15_), some (pvI i4z367_), v5z367_], [pvI (100 + i4z367_)], M)) rfl ⟨trivial, trivial, trivial, trivial⟩ ?_
                    exact pw_ret hT rfl (r := some (pvI (100 + i4z367_))) (M' := M) ⟨rfl, rfl⟩ ⟨⟨_, rfl, (zr_wide b412_ (by decide) (by decide))⟩, rfl⟩
          exact hlz367_ _ 0 none (zr_wide (show 0 ≤ Int32.toInt 0 ∧ Int32.toInt 0 ≤ 0 from (by decide)) (by decide) (by decide)) (Nat.lt_succ_self _)
        · have b415_ : 0 ≤ Int32.toInt (M.1 q15_ 0) ∧ Int32.toInt (M.1 q15_ 0) ≤ 3 := (by have u0 := b219_; have u1 := (not_congr (zi_eq _ _)).mp c221_; have u2 := (show 4 ≤ Int32.toInt 4 ∧ Int32.toInt 4 ≤ 4 from (by decide)); omega)
          refine pw_blk hT 1 (S' := (33, [some (pvR 0), some (pvI n1), some (pvI n2), some (pvR q15_), none, none], [pvI (-12)], M)) rfl ⟨trivial, trivial⟩ ?_
          exact pw_ret hT rfl (r := some (pvI (-12))) (M' := M) ⟨rfl, rfl⟩ ⟨⟨_, rfl, (zr_wide (show (-12) ≤ Int32.toInt (-12) ∧ Int32.toInt (-12) ≤ (-12) from (by decide)) (by decide) (by decide))⟩, rfl⟩
def fpL_X1_costOfRound_5_x : List (Nat × Nat × Nat) := [(0, 12, 0)]
def fp_X1_costOfRound_5_x (q k : Nat) : Bool := pvfp fpL_X1_costOfRound_5_x q k
theorem fp_X1_costOfRound_5_x_fp_X1_goRound_5_x (a b : Nat) (h : fp_X1_goRound_5_x a b = true) : fp_X1_costOfRound_5_x a b = true := pvfp_sub (l1 := fpL_X1_goRound_5_x) (l2 := fpL_X1_costOfRound_5_x) (by decide) a b h
theorem fp_X1_costOfRound_5_x_fp_X1_nobodyShuts_5 (a b : Nat) (h : fp_X1_nobodyShuts_5 a b = true) : fp_X1_costOfRound_5_x a b = true := pvfp_sub (l1 := fpL_X1_nobodyShuts_5) (l2 := fpL_X1_costOfRound_5_x) (by decide) a b h
set_option maxHeartbeats 4000000 in
set_option maxRecDepth 10000 in
theorem sf_X1_costOfRound_5_x (M : pvM) (hok : pvOk M) (n1 : Int32) (hn1 : 0 ≤ Int32.toInt n1 ∧ Int32.toInt n1 ≤ 60) (d : Nat) : PW 105 d (0, [some (pvR 5), some (pvI n1)], [], M) (fun r X => (∃ x : Int32, r = some (pvI x) ∧ 0 ≤ Int32.toInt x ∧ Int32.toInt x ≤ 35000000) ∧ pvOk X ∧ pvFr fp_X1_costOfRound_5_x M X) := by
  have hT : pvdom 105 = pvD_105 := rfl
  refine pw_blk hT 1 (S' := (1, [some (pvR 5), some (pvI n1)], [pvR 5], M)) rfl ⟨trivial, trivial⟩ ?_
  refine pw_callV hT (as := [pvR 5]) (lo1 := [some (pvR 5), none]) (d1 := d) (rest := []) rfl rfl rfl rfl rfl (fun _ => rfl) (Nat.zero_le _) rfl rfl rfl (sf_X1_nobodyShuts_5 M hok d) (fun M2_ o4_ g5_ => ?_)
  have f6_ : pvFr fp_X1_costOfRound_5_x M M2_ := pvfr_t g5_ pvfr_0 fp_X1_costOfRound_5_x_fp_X1_nobodyShuts_5
  refine pw_blk hT 2 (S' := (6, [some (pvR 5), some (pvI n1)], [pvI n1, pvR 5], M2_)) rfl ⟨trivial, trivial, trivial⟩ ?_
  refine pw_callG hT (as := [pvR 5, pvI n1]) (lo1 := [some (pvR 5), some (pvI n1)]) (d1 := d) (rest := []) rfl rfl rfl rfl rfl (fun _ => rfl) (Nat.zero_le _) rfl rfl rfl (sf_X1_goRound_5_x M2_ o4_ n1 hn1 d) (fun x7_ M8_ b9_ o10_ g11_ => ?_)
  have f12_ : pvFr fp_X1_costOfRound_5_x M M8_ := pvfr_t g11_ f6_ fp_X1_costOfRound_5_x_fp_X1_goRound_5_x
  refine pw_blk hT 2 (S' := (11, [some (pvR 5), some (pvI n1)], [pvR 5], M8_)) rfl ⟨trivial, trivial, trivial⟩ ?_
  refine pw_callGp hT (as := [pvR 5]) (lo1 := [some (pvR 5)]) (d1 := d) (rest := []) rfl rfl rfl rfl rfl (fun _ => rfl) (Nat.zero_le _) rfl rfl rfl (sf_X1_cost_5 M8_ o10_ d) (fun x13_ b15_ => ?_)
  exact pw_ret hT rfl (r := some (pvI x13_)) (M' := M8_) ⟨rfl, rfl⟩ ⟨⟨_, rfl, b15_⟩, o10_, f12_⟩
def fpL_X9_late_0_x : List (Nat × Nat × Nat) := [(0, 12, 0), (0, 13, 0), (0, 14, 0), (0, 5, 2), (0, 5, 3), (1, 112, 0)]
def fp_X9_late_0_x (q k : Nat) : Bool := pvfp fpL_X9_late_0_x q k
theorem fp_X9_late_0_x_fp_X1_beginFromNow_5 (a b : Nat) (h : fp_X1_beginFromNow_5 a b = true) : fp_X9_late_0_x a b = true := pvfp_sub (l1 := fpL_X1_beginFromNow_5) (l2 := fpL_X9_late_0_x) (by decide) a b h
theorem fp_X9_late_0_x_fp_X1_costOfRound_5_x (a b : Nat) (h : fp_X1_costOfRound_5_x a b = true) : fp_X9_late_0_x a b = true := pvfp_sub (l1 := fpL_X1_costOfRound_5_x) (l2 := fpL_X9_late_0_x) (by decide) a b h
set_option maxHeartbeats 4000000 in
set_option maxRecDepth 10000 in
theorem sf_X9_late_0_x (M : pvM) (hok : pvOk M) (n1 : Int32) (d : Nat) : PW 183 d (0, [some (pvR 0), some (pvI n1), none], [], M) (fun r X => (∃ x : Int32, r = some (pvI x) ∧ (-5) ≤ Int32.toInt x ∧ Int32.toInt x ≤ 60) ∧ pvOk X ∧ pvFr fp_X9_late_0_x M X) := by
  have hT : pvdom 183 = pvD_183 := rfl
  refine pw_blk hT 3 (S' := (4, [some (pvR 0), some (pvI n1), none], [pvI 99999, pvI 0, pvI n1], M)) rfl ⟨trivial, trivial, trivial, trivial⟩ ?_
  refine pw_callT hT (as := [pvI n1, pvI 0, pvI 99999]) (lo1 := [some (pvI n1), some (pvI 0), some (pvI 99999)]) (d1 := d) (rest := []) rfl rfl rfl rfl rfl (fun h => absurd h (by decide)) (Nat.zero_le _) rfl rfl rfl (sf_X9_within_x_x_x M hok n1 0 99999 d) ?_
  by_cases c6_ : n1 < 0
  · refine pw_eqI (if_pos c6_) ?_
    have b7_ : (-2147483648) ≤ Int32.toInt n1 ∧ Int32.toInt n1 ≤ (-1) := zr_lt_l (-1) c6_ (zbnd n1) (show 0 ≤ Int32.toInt 0 ∧ Int32.toInt 0 ≤ 0 from (by decide)) (by decide)
    show PW 183 d (7, [some (pvR 0), some (pvI n1), none], [pvI 0], M) _
    refine pw_ifn hT (c := 0 = 0) rfl rfl (fun c8_ => absurd (by decide) c8_) (fun c8_ => ?_)
    refine pw_blk hT 1 (S' := (12, [some (pvR 0), some (pvI n1), none], [pvI (-2)], M)) rfl ⟨trivial, trivial⟩ ?_
    exact pw_ret hT rfl (r := some (pvI (-2))) (M' := M) ⟨rfl, rfl⟩ ⟨⟨_, rfl, (zr_wide (show (-2) ≤ Int32.toInt (-2) ∧ Int32.toInt (-2) ≤ (-2) from (by decide)) (by decide) (by decide))⟩, hok, pvfr_0⟩
  · refine pw_eqI (if_neg c6_) ?_
    have b9_ : 0 ≤ Int32.toInt n1 ∧ Int32.toInt n1 ≤ 2147483647 := zr_nlt_l 0 c6_ (zbnd n1) (show 0 ≤ Int32.toInt 0 ∧ Int32.toInt 0 ≤ 0 from (by decide)) (by decide)
    by_cases c10_ : 99999 < n1
    · refine pw_eqI (if_pos c10_) ?_
      have b11_ : 100000 ≤ Int32.toInt n1 ∧ Int32.toInt n1 ≤ 2147483647 := zr_lt_r 100000 c10_ b9_ (show 99999 ≤ Int32.toInt 99999 ∧ Int32.toInt 99999 ≤ 99999 from (by decide)) (by decide)
      show PW 183 d (7, [some (pvR 0), some (pvI n1), none], [pvI 0], M) _
      refine pw_ifn hT (c := 0 = 0) rfl rfl (fun c12_ => absurd (by decide) c12_) (fun c12_ => ?_)
      refine pw_blk hT 1 (S' := (12, [some (pvR 0), some (pvI n1), none], [pvI (-2)], M)) rfl ⟨trivial, trivial⟩ ?_
      exact pw_ret hT rfl (r := some (pvI (-2))) (M' := M) ⟨rfl, rfl⟩ ⟨⟨_, rfl, (zr_wide (show (-2) ≤ Int32.toInt (-2) ∧ Int32.toInt (-2) ≤ (-2) from (by decide)) (by decide) (by decide))⟩, hok, pvfr_0⟩
    · refine pw_eqI (if_neg c10_) ?_
      have b13_ : 0 ≤ Int32.toInt n1 ∧ Int32.toInt n1 ≤ 99999 := zr_nlt_r 99999 c10_ b9_ (show 99999 ≤ Int32.toInt 99999 ∧ Int32.toInt 99999 ≤ 99999 from (by decide)) (by decide)
      show PW 183 d (7, [some (pvR 0), some (pvI n1), none], [pvI 1], M) _
      refine pw_ifn hT (c := 1 = 0) rfl rfl (fun c14_ => ?_) (fun c14_ => absurd c14_ (by decide))
      refine pw_blk hT 2 (S' := (17, [some (pvR 0), some (pvI n1), none], [pvR 5], M)) rfl ⟨trivial, rfl, trivial⟩ ?_
      refine pw_callV hT (as := [pvR 5]) (lo1 := [some (pvR 5)]) (d1 := d) (rest := []) rfl rfl rfl rfl rfl (fun _ => rfl) (Nat.zero_le _) rfl rfl rfl (sf_X1_beginFromNow_5 M hok d) (fun M16_ o18_ g19_ => ?_)
      have f20_ : pvFr fp_X9_late_0_x M M16_ := pvfr_t g19_ pvfr_0 fp_X9_late_0_x_fp_X1_beginFromNow_5
      refine pw_blk hT 2 (S' := (23, [some (pvR 0), some (pvI n1), some (pvI 60)], [], M16_)) rfl ⟨trivial, trivial, trivial⟩ ?_
      have hlz91_ : ∀ (nz91_ : Nat) (i2z91_ : Int32) (Mz91_ : pvM), (pvOk Mz91_) → (pvFr fp_X9_late_0_x M Mz91_) → ((-1) ≤ Int32.toInt i2z91_ ∧ Int32.toInt i2z91_ ≤ 60) → ((Int32.toInt i2z91_ - (-2)).toNat < nz91_) → PW 183 d (23, [some (pvR 0), some (pvI n1), some (pvI i2z91_)], [], Mz91_) (fun r X => (∃ x : Int32, r = some (pvI x) ∧ (-5) ≤ Int32.toInt x ∧ Int32.toInt x ≤ 60) ∧ pvOk X ∧ pvFr fp_X9_late_0_x M X) := by
        intro nz91_
        induction nz91_ with
        | zero => intro i2z91_ Mz91_ oz91_ fz91_ h2z91_ hmz91_; exact absurd hmz91_ (Nat.not_lt_zero _)
        | succ nz91_ ihz91_ =>
          intro i2z91_ Mz91_ oz91_ fz91_ h2z91_ hmz91_
          refine pw_blk hT 1 (S' := (24, [some (pvR 0), some (pvI n1), some (pvI i2z91_)], [pvI i2z91_], Mz91_)) rfl ⟨trivial, trivial⟩ ?_
          refine pw_if hT (c := i2z91_ < 0) rfl rfl (fun c92_ => ?_) (fun c92_ => ?_)
          · have b93_ : (-1) ≤ Int32.toInt i2z91_ ∧ Int32.toInt i2z91_ ≤ (-1) := zr_lt_l (-1) c92_ h2z91_ (show 0 ≤ Int32.toInt 0 ∧ Int32.toInt 0 ≤ 0 from (by decide)) (by decide)
            refine pw_blk hT 1 (S' := (49, [some (pvR 0), some (pvI n1), some (pvI i2z91_)], [pvI (-5)], Mz91_)) rfl ⟨trivial, trivial⟩ ?_
            exact pw_ret hT rfl (r := some (pvI (-5))) (M' := Mz91_) ⟨rfl, rfl⟩ ⟨⟨_, rfl, (zr_wide (show (-5) ≤ Int32.toInt (-5) ∧ Int32.toInt (-5) ≤ (-5) from (by decide)) (by decide) (by decide))⟩, oz91_, fz91_⟩
          · have b94_ : 0 ≤ Int32.toInt i2z91_ ∧ Int32.toInt i2z91_ ≤ 60 := zr_nlt_l 0 c92_ h2z91_ (show 0 ≤ Int32.toInt 0 ∧ Int32.toInt 0 ≤ 0 from (by decide)) (by decide)
            refine pw_blk hT 3 (S' := (32, [some (pvR 0), some (pvI n1), some (pvI i2z91_)], [pvI i2z91_, pvR 5], Mz91_)) rfl ⟨trivial, rfl, trivial, trivial⟩ ?_
            refine pw_callG hT (as := [pvR 5, pvI i2z91_]) (lo1 := [some (pvR 5), some (pvI i2z91_)]) (d1 := d) (rest := []) rfl rfl rfl rfl rfl (fun _ => rfl) (Nat.zero_le _) rfl rfl rfl (sf_X1_costOfRound_5_x Mz91_ oz91_ i2z91_ b94_ d) (fun x95_ M96_ b97_ o98_ g99_ => ?_)
            have f100_ : pvFr fp_X9_late_0_x M M96_ := pvfr_t g99_ fz91_ fp_X9_late_0_x_fp_X1_costOfRound_5_x
            refine pw_blk hT 1 (S' := (36, [some (pvR 0), some (pvI n1), some (pvI i2z91_)], [pvI n1, pvI x95_], M96_)) rfl ⟨trivial, trivial⟩ ?_
            refine pw_ic hT (c := n1 < x95_) rfl rfl (fun c101_ => ?_) (fun c101_ => ?_)
            · have b102_ : 1 ≤ Int32.toInt x95_ ∧ Int32.toInt x95_ ≤ 35000000 := zr_lt_r 1 c101_ b97_ b13_ (by decide)
              have d103_ : Int32.toInt n1 < Int32.toInt x95_ := (zi_lt _ _).mp c101_
              obtain ⟨q105_, b104_⟩ : (Int32.toInt (i2z91_ + (-1)) = Int32.toInt i2z91_ + Int32.toInt (-1)) ∧ ((-1) ≤ Int32.toInt (i2z91_ + (-1)) ∧ Int32.toInt (i2z91_ + (-1)) ≤ 59) := zadd_r i2z91_ (-1) (-1) 59 b94_ (show (-1) ≤ Int32.toInt (-1) ∧ Int32.toInt (-1) ≤ (-1) from (by decide)) (by decide) (by decide) (by decide) (by decide)
              have u106_ : Int32.toInt (-1) = (-1) := by decide
              refine pw_blk hT 2 (S' := (23, [some (pvR 0), some (pvI n1), some (pvI (i2z91_ + (-1)))], [], M96_)) rfl ⟨trivial, trivial, trivial⟩ ?_
              exact ihz91_ (i2z91_ + (-1)) M96_ o98_ f100_ (zr_wide b104_ (by decide) (by decide)) (by omega)
            · have b107_ : 0 ≤ Int32.toInt x95_ ∧ Int32.toInt x95_ ≤ 99999 := zr_nlt_r 99999 c101_ b97_ b13_ (by decide)
              have d108_ : Int32.toInt n1 ≥ Int32.toInt x95_ := Int.not_lt.mp ((not_congr (zi_lt _ _)).mp c101_)
              refine pw_blk hT 1 (S' := (40, [some (pvR 0), some (pvI n1), some (pvI i2z91_)], [pvI i2z91_], M96_)) rfl ⟨trivial, trivial⟩ ?_
              exact pw_ret hT rfl (r := some (pvI i2z91_)) (M' := M96_) ⟨rfl, rfl⟩ ⟨⟨_, rfl, (zr_wide b94_ (by decide) (by decide))⟩, o98_, f100_⟩
      exact hlz91_ _ 60 M16_ o18_ f20_ (zr_wide (show 60 ≤ Int32.toInt 60 ∧ Int32.toInt 60 ≤ 60 from (by decide)) (by decide) (by decide)) (Nat.lt_succ_self _)
def fpL_X1_costWithout_5_x : List (Nat × Nat × Nat) := [(0, 106, 1), (0, 114, 0), (0, 12, 0), (0, 122, 0)]
def fp_X1_costWithout_5_x (q k : Nat) : Bool := pvfp fpL_X1_costWithout_5_x q k
theorem fp_X1_costWithout_5_x_fp_X1_costOfTried_5 (a b : Nat) (h : fp_X1_costOfTried_5 a b = true) : fp_X1_costWithout_5_x a b = true := pvfp_sub (l1 := fpL_X1_costOfTried_5) (l2 := fpL_X1_costWithout_5_x) (by decide) a b h
theorem fp_X1_costWithout_5_x_fp_X6_append_106_x_x (a b : Nat) (h : fp_X6_append_106_x_x a b = true) : fp_X1_costWithout_5_x a b = true := pvfp_sub (l1 := fpL_X6_append_106_x_x) (l2 := fpL_X1_costWithout_5_x) (by decide) a b h
theorem fp_X1_costWithout_5_x_fp_X6_clear_106 (a b : Nat) (h : fp_X6_clear_106 a b = true) : fp_X1_costWithout_5_x a b = true := pvfp_sub (l1 := fpL_X6_clear_106) (l2 := fpL_X1_costWithout_5_x) (by decide) a b h
set_option maxHeartbeats 4000000 in
set_option maxRecDepth 10000 in
theorem sf_X1_costWithout_5_x (M : pvM) (hok : pvOk M) (n1 : Int32) (hn1 : 0 ≤ Int32.toInt n1 ∧ Int32.toInt n1 ≤ 6) (d : Nat) : PW 107 d (0, [some (pvR 5), some (pvI n1), none], [], M) (fun r X => (∃ x : Int32, r = some (pvI x) ∧ 0 ≤ Int32.toInt x ∧ Int32.toInt x ≤ 35000000) ∧ pvOk X ∧ pvFr fp_X1_costWithout_5_x M X) := by
  have hT : pvdom 107 = pvD_107 := rfl
  refine pw_blk hT 2 (S' := (4, [some (pvR 5), some (pvI n1), none], [pvR 106], M)) rfl ⟨trivial, rfl, trivial⟩ ?_
  refine pw_callG hT (as := [pvR 106]) (lo1 := [some (pvR 106)]) (d1 := d) (rest := []) rfl rfl rfl rfl rfl (fun _ => rfl) (Nat.zero_le _) rfl rfl rfl (sf_X6_clear_106 M hok d) (fun x1_ M2_ b3_ o4_ g5_ => ?_)
  have f6_ : pvFr fp_X1_costWithout_5_x M M2_ := pvfr_t g5_ pvfr_0 fp_X1_costWithout_5_x_fp_X6_clear_106
  refine pw_blk hT 3 (S' := (10, [some (pvR 5), some (pvI n1), some (pvI 0)], [], M2_)) rfl ⟨trivial, trivial, trivial, trivial⟩ ?_
  have hlz123_ : ∀ (nz123_ : Nat) (i2z123_ : Int32) (Mz123_ : pvM), (pvOk Mz123_) → (pvFr fp_X1_costWithout_5_x M Mz123_) → (0 ≤ Int32.toInt i2z123_ ∧ Int32.toInt i2z123_ ≤ 7) → ((8 - Int32.toInt i2z123_).toNat < nz123_) → PW 107 d (10, [some (pvR 5), some (pvI n1), some (pvI i2z123_)], [], Mz123_) (fun r X => (∃ x : Int32, r = some (pvI x) ∧ 0 ≤ Int32.toInt x ∧ Int32.toInt x ≤ 35000000) ∧ pvOk X ∧ pvFr fp_X1_costWithout_5_x M X) := by
    intro nz123_
    induction nz123_ with
    | zero => intro i2z123_ Mz123_ oz123_ fz123_ h2z123_ hmz123_; exact absurd hmz123_ (Nat.not_lt_zero _)
    | succ nz123_ ihz123_ =>
      intro i2z123_ Mz123_ oz123_ fz123_ h2z123_ hmz123_
      have b124_ : 0 ≤ Int32.toInt (Mz123_.1 100 0) ∧ Int32.toInt (Mz123_.1 100 0) ≤ 7 := pvok_r oz123_ 100 0 rfl
      refine pw_blk hT 5 (S' := (21, [some (pvR 5), some (pvI n1), some (pvI i2z123_)], [pvI (Mz123_.1 100 0), pvI i2z123_], Mz123_)) rfl ⟨trivial, trivial, rfl, rfl, rfl, trivial⟩ ?_
      refine pw_ic hT (c := (Mz123_.1 100 0) ≤ i2z123_) rfl rfl (fun c125_ => ?_) (fun c125_ => ?_)
      · have d126_ : Int32.toInt (Mz123_.1 100 0) ≤ Int32.toInt i2z123_ := (zi_le _ _).mp c125_
        refine pw_blk hT 1 (S' := (57, [some (pvR 5), some (pvI n1), some (pvI i2z123_)], [pvR 5], Mz123_)) rfl ⟨trivial, trivial⟩ ?_
        refine pw_callG hT (as := [pvR 5]) (lo1 := [some (pvR 5)]) (d1 := d) (rest := []) rfl rfl rfl rfl rfl (fun _ => rfl) (Nat.zero_le _) rfl rfl rfl (sf_X1_costOfTried_5 Mz123_ oz123_ d) (fun x127_ M128_ b129_ o130_ g131_ => ?_)
        have f132_ : pvFr fp_X1_costWithout_5_x M M128_ := pvfr_t g131_ fz123_ fp_X1_costWithout_5_x_fp_X1_costOfTried_5
        exact pw_ret hT rfl (r := some (pvI x127_)) (M' := M128_) ⟨rfl, rfl⟩ ⟨⟨_, rfl, b129_⟩, o130_, f132_⟩
      · have b133_ : 1 ≤ Int32.toInt (Mz123_.1 100 0) ∧ Int32.toInt (Mz123_.1 100 0) ≤ 7 := zr_nle_l 1 c125_ b124_ h2z123_ (by decide)
        have b134_ : 0 ≤ Int32.toInt i2z123_ ∧ Int32.toInt i2z123_ ≤ 6 := zr_nle_r 6 c125_ h2z123_ b133_ (by decide)
        have d135_ : Int32.toInt (Mz123_.1 100 0) > Int32.toInt i2z123_ := Int.not_le.mp ((not_congr (zi_le _ _)).mp c125_)
        refine pw_blk hT 2 (S' := (26, [some (pvR 5), some (pvI n1), some (pvI i2z123_)], [pvI n1, pvI i2z123_], Mz123_)) rfl ⟨trivial, trivial, trivial⟩ ?_
        refine pw_ic hT (c := i2z123_ = n1) rfl rfl (fun c136_ => ?_) (fun c136_ => ?_)
        · have d137_ : Int32.toInt i2z123_ = Int32.toInt n1 := (zi_eq _ _).mp c136_
          obtain ⟨q139_, b138_⟩ : (Int32.toInt (i2z123_ + 1) = Int32.toInt i2z123_ + Int32.toInt 1) ∧ (1 ≤ Int32.toInt (i2z123_ + 1) ∧ Int32.toInt (i2z123_ + 1) ≤ 7) := zadd_r i2z123_ 1 1 7 b134_ (show 1 ≤ Int32.toInt 1 ∧ Int32.toInt 1 ≤ 1 from (by decide)) (by decide) (by decide) (by decide) (by decide)
          have u140_ : Int32.toInt 1 = 1 := by decide
          refine pw_blk hT 2 (S' := (10, [some (pvR 5), some (pvI n1), some (pvI (i2z123_ + 1))], [], Mz123_)) rfl ⟨trivial, trivial, trivial⟩ ?_
          exact ihz123_ (i2z123_ + 1) Mz123_ oz123_ fz123_ (zr_wide b138_ (by decide) (by decide)) (by omega)
        · have b141_ : 0 ≤ Int32.toInt (Mz123_.1 108 (Int32.toNatClampNeg i2z123_)) ∧ Int32.toInt (Mz123_.1 108 (Int32.toNatClampNeg i2z123_)) ≤ 6 := pvok_r oz123_ 108 (Int32.toNatClampNeg i2z123_) rfl
          refine pw_blk hT 9 (S' := (46, [some (pvR 5), some (pvI n1), some (pvI i2z123_)], [pvI 0, pvI (Mz123_.1 108 (Int32.toNatClampNeg i2z123_)), pvR 106], Mz123_)) rfl ⟨trivial, rfl, trivial, rfl, rfl, rfl, trivial, ⟨rfl, (zr_in (n := 7) b134_ (by decide) (by decide))⟩, trivial, trivial⟩ ?_
          refine pw_callG hT (as := [pvR 106, pvI (Mz123_.1 108 (Int32.toNatClampNeg i2z123_)), pvI 0]) (lo1 := [some (pvR 106), some (pvI (Mz123_.1 108 (Int32.toNatClampNeg i2z123_))), some (pvI 0)]) (d1 := d) (rest := []) rfl rfl rfl rfl rfl (fun _ => rfl) (Nat.zero_le _) rfl rfl rfl (sf_X6_append_106_x_x Mz123_ oz123_ (Mz123_.1 108 (Int32.toNatClampNeg i2z123_)) 0 b141_ (zr_wide (show 0 ≤ Int32.toInt 0 ∧ Int32.toInt 0 ≤ 0 from (by decide)) (by decide) (by decide)) d) (fun x142_ M143_ b144_ o145_ g146_ => ?_)
          have f147_ : pvFr fp_X1_costWithout_5_x M M143_ := pvfr_t g146_ fz123_ fp_X1_costWithout_5_x_fp_X6_append_106_x_x
          obtain ⟨q149_, b148_⟩ : (Int32.toInt (i2z123_ + 1) = Int32.toInt i2z123_ + Int32.toInt 1) ∧ (1 ≤ Int32.toInt (i2z123_ + 1) ∧ Int32.toInt (i2z123_ + 1) ≤ 7) := zadd_r i2z123_ 1 1 7 b134_ (show 1 ≤ Int32.toInt 1 ∧ Int32.toInt 1 ≤ 1 from (by decide)) (by decide) (by decide) (by decide) (by decide)
          have u150_ : Int32.toInt 1 = 1 := by decide
          refine pw_blk hT 3 (S' := (10, [some (pvR 5), some (pvI n1), some (pvI (i2z123_ + 1))], [], M143_)) rfl ⟨trivial, trivial, trivial, trivial⟩ ?_
          exact ihz123_ (i2z123_ + 1) M143_ o145_ f147_ (zr_wide b148_ (by decide) (by decide)) (by omega)
  exact hlz123_ _ 0 M2_ o4_ f6_ (zr_wide (show 0 ≤ Int32.toInt 0 ∧ Int32.toInt 0 ≤ 0 from (by decide)) (by decide) (by decide)) (Nat.lt_succ_self _)
