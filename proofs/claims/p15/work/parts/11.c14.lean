def fpL_X7_becomeAs_9_8 : List (Nat × Nat × Nat) := [(0, 101, 1), (0, 103, 1), (0, 105, 1), (0, 109, 0), (0, 111, 0), (0, 113, 0), (0, 117, 0), (0, 119, 0), (0, 121, 0), (0, 9, 2), (0, 9, 3), (0, 9, 4), (0, 9, 5), (0, 9, 6), (0, 9, 7), (0, 9, 8), (0, 9, 9), (1, 113, 0), (1, 3, 1), (1, 3, 2), (1, 3, 3), (1, 3, 4), (1, 3, 5), (1, 3, 6)]
def fp_X7_becomeAs_9_8 (q k : Nat) : Bool := pvfp fpL_X7_becomeAs_9_8 q k
theorem fp_X7_becomeAs_9_8_fp_X4_becomeAs_x_x (a b : Nat) (h : fp_X4_becomeAs_x_x a b = true) : fp_X7_becomeAs_9_8 a b = true := pvfp_sub (l1 := fpL_X4_becomeAs_x_x) (l2 := fpL_X7_becomeAs_9_8) (by decide) a b h
theorem fp_X7_becomeAs_9_8_fp_X6_becomeAs_101_100 (a b : Nat) (h : fp_X6_becomeAs_101_100 a b = true) : fp_X7_becomeAs_9_8 a b = true := pvfp_sub (l1 := fpL_X6_becomeAs_101_100) (l2 := fpL_X7_becomeAs_9_8) (by decide) a b h
theorem fp_X7_becomeAs_9_8_fp_X6_becomeAs_103_102 (a b : Nat) (h : fp_X6_becomeAs_103_102 a b = true) : fp_X7_becomeAs_9_8 a b = true := pvfp_sub (l1 := fpL_X6_becomeAs_103_102) (l2 := fpL_X7_becomeAs_9_8) (by decide) a b h
theorem fp_X7_becomeAs_9_8_fp_X6_becomeAs_105_104 (a b : Nat) (h : fp_X6_becomeAs_105_104 a b = true) : fp_X7_becomeAs_9_8 a b = true := pvfp_sub (l1 := fpL_X6_becomeAs_105_104) (l2 := fpL_X7_becomeAs_9_8) (by decide) a b h
set_option maxHeartbeats 4000000 in
set_option maxRecDepth 10000 in
theorem sf_X7_becomeAs_9_8 (M : pvM) (hok : pvOk M) (d : Nat) : PW 158 d (0, [some (pvR 9), some (pvR 8), none], [], M) (fun r X => r = none ∧ pvOk X ∧ pvFr fp_X7_becomeAs_9_8 M X) := by
  have hT : pvdom 158 = pvD_158 := rfl
  have b1_ : 0 ≤ Int32.toInt (M.1 8 1) ∧ Int32.toInt (M.1 8 1) ≤ 7 := pvok_r hok 8 1 rfl
  refine pw_blkw hT 4 (pc := 8) (lo := [some (pvR 9), some (pvR 8), none]) (st := []) (M := pvu M 9 1 (M.1 8 1)) rfl ⟨trivial, trivial, rfl, rfl, trivial⟩ (fun M2_ e3_ => ?_)
  have o4_ : pvOk M2_ := pvok_u2 e3_ hok rfl b1_
  have f5_ : pvFr fp_X7_becomeAs_9_8 M M2_ := pvfr_u e3_ pvfr_0 rfl
  refine pw_blk hT 2 (S' := (10, [some (pvR 9), some (pvR 8), some (pvI 0)], [], M2_)) rfl ⟨trivial, trivial, trivial⟩ ?_
  have hlz310_ : ∀ (nz310_ : Nat) (i2z310_ : Int32) (Mz310_ : pvM), (pvOk Mz310_) → (pvFr fp_X7_becomeAs_9_8 M Mz310_) → (0 ≤ Int32.toInt i2z310_ ∧ Int32.toInt i2z310_ ≤ 7) → (zhide ((8 - Int32.toInt i2z310_).toNat < nz310_)) → PW 158 d (10, [some (pvR 9), some (pvR 8), some (pvI i2z310_)], [], Mz310_) (fun r X => r = none ∧ pvOk X ∧ pvFr fp_X7_becomeAs_9_8 M X) := by
    intro nz310_
    induction nz310_ with
    | zero => intro i2z310_ Mz310_ oz310_ fz310_ h2z310_ hmz310_; exact absurd (zshow hmz310_) (Nat.not_lt_zero _)
    | succ nz310_ ihz310_ =>
      intro i2z310_ Mz310_ oz310_ fz310_ h2z310_ hmz310_
      have b311_ : 0 ≤ Int32.toInt (Mz310_.1 9 1) ∧ Int32.toInt (Mz310_.1 9 1) ≤ 7 := pvok_r oz310_ 9 1 rfl
      refine pw_blk hT 3 (S' := (15, [some (pvR 9), some (pvR 8), some (pvI i2z310_)], [pvI (Mz310_.1 9 1), pvI i2z310_], Mz310_)) rfl ⟨trivial, trivial, rfl, trivial⟩ ?_
      refine pw_ic hT (c := (Mz310_.1 9 1) ≤ i2z310_) rfl rfl (fun c312_ => ?_) (fun c312_ => ?_)
      · have d313_ : Int32.toInt (Mz310_.1 9 1) ≤ Int32.toInt i2z310_ := (zi_le _ _).mp c312_
        have b314_ : 0 ≤ Int32.toInt (Mz310_.1 8 2) ∧ Int32.toInt (Mz310_.1 8 2) ≤ 99 := pvok_r oz310_ 8 2 rfl
        refine pw_blkw hT 4 (pc := 47) (lo := [some (pvR 9), some (pvR 8), some (pvI i2z310_)]) (st := []) (M := pvu Mz310_ 9 2 (Mz310_.1 8 2)) rfl ⟨trivial, trivial, rfl, rfl, trivial⟩ (fun M315_ e316_ => ?_)
        have o317_ : pvOk M315_ := pvok_u2 e316_ oz310_ rfl b314_
        have f318_ : pvFr fp_X7_becomeAs_9_8 M M315_ := pvfr_u e316_ fz310_ rfl
        have b319_ : 0 ≤ Int32.toInt (M315_.1 8 3) ∧ Int32.toInt (M315_.1 8 3) ≤ 3 := pvok_r o317_ 8 3 rfl
        refine pw_blkw hT 4 (pc := 55) (lo := [some (pvR 9), some (pvR 8), some (pvI i2z310_)]) (st := []) (M := pvu M315_ 9 3 (M315_.1 8 3)) rfl ⟨trivial, trivial, rfl, rfl, trivial⟩ (fun M320_ e321_ => ?_)
        have o322_ : pvOk M320_ := pvok_u2 e321_ o317_ rfl b319_
        have f323_ : pvFr fp_X7_becomeAs_9_8 M M320_ := pvfr_u e321_ f318_ rfl
        have b324_ : 0 ≤ Int32.toInt (M320_.1 8 4) ∧ Int32.toInt (M320_.1 8 4) ≤ 9999 := pvok_r o322_ 8 4 rfl
        refine pw_blkw hT 4 (pc := 63) (lo := [some (pvR 9), some (pvR 8), some (pvI i2z310_)]) (st := []) (M := pvu M320_ 9 4 (M320_.1 8 4)) rfl ⟨trivial, trivial, rfl, rfl, trivial⟩ (fun M325_ e326_ => ?_)
        have o327_ : pvOk M325_ := pvok_u2 e326_ o322_ rfl b324_
        have f328_ : pvFr fp_X7_becomeAs_9_8 M M325_ := pvfr_u e326_ f323_ rfl
        refine pw_blkw hT 4 (pc := 71) (lo := [some (pvR 9), some (pvR 8), some (pvI i2z310_)]) (st := []) (M := pvu M325_ 9 5 (M325_.1 8 5)) rfl ⟨trivial, trivial, rfl, rfl, trivial⟩ (fun M329_ e330_ => ?_)
        have o331_ : pvOk M329_ := pvok_u2 e330_ o327_ rfl (zbnd (M325_.1 8 5))
        have f332_ : pvFr fp_X7_becomeAs_9_8 M M329_ := pvfr_u e330_ f328_ rfl
        have b333_ : 0 ≤ Int32.toInt (M329_.1 8 6) ∧ Int32.toInt (M329_.1 8 6) ≤ 3 := pvok_r o331_ 8 6 rfl
        refine pw_blkw hT 4 (pc := 79) (lo := [some (pvR 9), some (pvR 8), some (pvI i2z310_)]) (st := []) (M := pvu M329_ 9 6 (M329_.1 8 6)) rfl ⟨trivial, trivial, rfl, rfl, trivial⟩ (fun M334_ e335_ => ?_)
        have o336_ : pvOk M334_ := pvok_u2 e335_ o331_ rfl b333_
        have f337_ : pvFr fp_X7_becomeAs_9_8 M M334_ := pvfr_u e335_ f332_ rfl
        have b338_ : 0 ≤ Int32.toInt (M334_.1 8 7) ∧ Int32.toInt (M334_.1 8 7) ≤ 4 := pvok_r o336_ 8 7 rfl
        refine pw_blkw hT 4 (pc := 87) (lo := [some (pvR 9), some (pvR 8), some (pvI i2z310_)]) (st := []) (M := pvu M334_ 9 7 (M334_.1 8 7)) rfl ⟨trivial, trivial, rfl, rfl, trivial⟩ (fun M339_ e340_ => ?_)
        have o341_ : pvOk M339_ := pvok_u2 e340_ o336_ rfl b338_
        have f342_ : pvFr fp_X7_becomeAs_9_8 M M339_ := pvfr_u e340_ f337_ rfl
        have b343_ : 15 ≤ Int32.toInt (M339_.1 8 8) ∧ Int32.toInt (M339_.1 8 8) ≤ 23 := pvok_r o341_ 8 8 rfl
        refine pw_blkr hT 3 (pc := 92) (lo := [some (pvR 9), some (pvR 8), some (pvI i2z310_)]) (st := [pvR 9]) (M := M339_) (z := (pvhp (M339_.1 8 8))) rfl ⟨trivial, trivial, rfl, trivial⟩ (fun q344_ e346_ => ?_)
        have k345_ : pvkl q344_ = 2 := pvhp_k b343_ e346_
        refine pw_blkw hT 1 (pc := 95) (lo := [some (pvR 9), some (pvR 8), some (pvI i2z310_)]) (st := []) (M := pvu M339_ 9 8 (nI q344_)) rfl ⟨⟨rfl, k345_⟩, trivial⟩ (fun M347_ e348_ => ?_)
        have o349_ : pvOk M347_ := pvok_u2 e348_ o341_ rfl (pvhp_r k345_)
        have f350_ : pvFr fp_X7_becomeAs_9_8 M M347_ := pvfr_u e348_ f342_ rfl
        refine pw_blk hT 4 (S' := (103, [some (pvR 9), some (pvR 8), some (pvI i2z310_)], [pvR 100, pvR 101], M347_)) rfl ⟨trivial, rfl, trivial, rfl, trivial⟩ ?_
        refine pw_callV hT (as := [pvR 101, pvR 100]) (lo1 := [some (pvR 101), some (pvR 100), none]) (d1 := d) (rest := []) rfl rfl rfl rfl rfl (fun _ => rfl) (Nat.zero_le _) rfl rfl rfl (sf_X6_becomeAs_101_100 M347_ o349_ d) (fun M352_ o354_ g355_ => ?_)
        have f356_ : pvFr fp_X7_becomeAs_9_8 M M352_ := pvfr_t g355_ f350_ fp_X7_becomeAs_9_8_fp_X6_becomeAs_101_100
        refine pw_blk hT 4 (S' := (114, [some (pvR 9), some (pvR 8), some (pvI i2z310_)], [pvR 102, pvR 103], M352_)) rfl ⟨trivial, rfl, trivial, rfl, trivial⟩ ?_
        refine pw_callV hT (as := [pvR 103, pvR 102]) (lo1 := [some (pvR 103), some (pvR 102), none]) (d1 := d) (rest := []) rfl rfl rfl rfl rfl (fun _ => rfl) (Nat.zero_le _) rfl rfl rfl (sf_X6_becomeAs_103_102 M352_ o354_ d) (fun M358_ o360_ g361_ => ?_)
        have f362_ : pvFr fp_X7_becomeAs_9_8 M M358_ := pvfr_t g361_ f356_ fp_X7_becomeAs_9_8_fp_X6_becomeAs_103_102
        refine pw_blk hT 4 (S' := (125, [some (pvR 9), some (pvR 8), some (pvI i2z310_)], [pvR 104, pvR 105], M358_)) rfl ⟨trivial, rfl, trivial, rfl, trivial⟩ ?_
        refine pw_callV hT (as := [pvR 105, pvR 104]) (lo1 := [some (pvR 105), some (pvR 104), none]) (d1 := d) (rest := []) rfl rfl rfl rfl rfl (fun _ => rfl) (Nat.zero_le _) rfl rfl rfl (sf_X6_becomeAs_105_104 M358_ o360_ d) (fun M364_ o366_ g367_ => ?_)
        have f368_ : pvFr fp_X7_becomeAs_9_8 M M364_ := pvfr_t g367_ f362_ fp_X7_becomeAs_9_8_fp_X6_becomeAs_105_104
        exact pw_ret hT rfl (r := none) (M' := M364_) ⟨rfl, rfl⟩ ⟨rfl, o366_, f368_⟩
      · have b369_ : 1 ≤ Int32.toInt (Mz310_.1 9 1) ∧ Int32.toInt (Mz310_.1 9 1) ≤ 7 := zr_nle_l 1 c312_ b311_ h2z310_ (by decide)
        have b370_ : 0 ≤ Int32.toInt i2z310_ ∧ Int32.toInt i2z310_ ≤ 6 := zr_nle_r 6 c312_ h2z310_ b369_ (by decide)
        have d371_ : Int32.toInt (Mz310_.1 9 1) > Int32.toInt i2z310_ := Int.not_le.mp ((not_congr (zi_le _ _)).mp c312_)
        refine pw_blkr hT 4 (pc := 24) (lo := [some (pvR 9), some (pvR 8), some (pvI i2z310_)]) (st := []) (M := Mz310_) (z := (pvbs 11 + Int32.toNatClampNeg i2z310_)) rfl ⟨trivial, rfl, trivial, ⟨rfl, (zr_in (n := 7) b370_ (by decide) (by decide))⟩, trivial⟩ (fun q372_ e374_ => ?_)
        have k373_ : pvkl q372_ = 3 := pvel_11 (zr_in (n := 7) b370_ (by decide) (by decide)) e374_
        refine pw_blkr hT 4 (pc := 30) (lo := [some (pvR 9), some (pvR 8), some (pvI i2z310_)]) (st := [pvR q372_]) (M := Mz310_) (z := (pvbs 10 + Int32.toNatClampNeg i2z310_)) rfl ⟨trivial, rfl, trivial, ⟨rfl, (zr_in (n := 7) b370_ (by decide) (by decide))⟩, trivial⟩ (fun q375_ e377_ => ?_)
        have k376_ : pvkl q375_ = 3 := pvel_10 (zr_in (n := 7) b370_ (by decide) (by decide)) e377_
        refine pw_callV hT (as := [pvR q372_, pvR q375_]) (lo1 := [some (pvR q372_), some (pvR q375_)]) (d1 := d) (rest := []) rfl rfl rfl rfl rfl (fun _ => k373_) (Nat.zero_le _) rfl rfl rfl (sf_X4_becomeAs_x_x Mz310_ oz310_ q372_ q375_ k373_ k376_ d) (fun M379_ o381_ g382_ => ?_)
        have f383_ : pvFr fp_X7_becomeAs_9_8 M M379_ := pvfr_t g382_ fz310_ fp_X7_becomeAs_9_8_fp_X4_becomeAs_x_x
        obtain ⟨q385_, b384_⟩ : (Int32.toInt (i2z310_ + 1) = Int32.toInt i2z310_ + 1) ∧ (1 ≤ Int32.toInt (i2z310_ + 1) ∧ Int32.toInt (i2z310_ + 1) ≤ 7) := zadd_k i2z310_ 1 1 1 7 b370_ (by decide) (by decide) (by decide) (by decide) (by decide)
        refine pw_blk hT 2 (S' := (10, [some (pvR 9), some (pvR 8), some (pvI (i2z310_ + 1))], [], M379_)) rfl ⟨trivial, trivial, trivial⟩ ?_
        exact ihz310_ (i2z310_ + 1) M379_ o381_ f383_ (zr_wide b384_ (by decide) (by decide)) (zhid (pvms_up (zshow hmz310_) h2z310_ q385_ (by decide) (by decide)))
  exact hlz310_ _ 0 M2_ o4_ f5_ (zr_wide (show 0 ≤ Int32.toInt 0 ∧ Int32.toInt 0 ≤ 0 from (by decide)) (by decide) (by decide)) (zhid (Nat.lt_succ_self _))
def fpL_X9_image_0 : List (Nat × Nat × Nat) := [(0, 0, 6), (0, 101, 1), (0, 103, 1), (0, 105, 1), (0, 109, 0), (0, 111, 0), (0, 113, 0), (0, 117, 0), (0, 119, 0), (0, 121, 0), (0, 9, 2), (0, 9, 3), (0, 9, 4), (0, 9, 5), (0, 9, 6), (0, 9, 7), (0, 9, 8), (0, 9, 9), (1, 113, 0), (1, 3, 1), (1, 3, 2), (1, 3, 3), (1, 3, 4), (1, 3, 5), (1, 3, 6)]
def fp_X9_image_0 (q k : Nat) : Bool := pvfp fpL_X9_image_0 q k
theorem fp_X9_image_0_fp_X7_becomeAs_9_8 (a b : Nat) (h : fp_X7_becomeAs_9_8 a b = true) : fp_X9_image_0 a b = true := pvfp_sub (l1 := fpL_X7_becomeAs_9_8) (l2 := fpL_X9_image_0) (by decide) a b h
set_option maxHeartbeats 4000000 in
set_option maxRecDepth 10000 in
theorem sf_X9_image_0 (M : pvM) (hok : pvOk M) (d : Nat) : PW 178 d (0, [some (pvR 0)], [], M) (fun r X => (∃ x : Int32, r = some (pvI x) ∧ 0 ≤ Int32.toInt x ∧ Int32.toInt x ≤ 7) ∧ pvOk X ∧ pvFr fp_X9_image_0 M X) := by
  have hT : pvdom 178 = pvD_178 := rfl
  refine pw_blk hT 4 (S' := (8, [some (pvR 0)], [pvR 8, pvR 9], M)) rfl ⟨trivial, rfl, trivial, rfl, trivial⟩ ?_
  refine pw_callV hT (as := [pvR 9, pvR 8]) (lo1 := [some (pvR 9), some (pvR 8), none]) (d1 := d) (rest := []) rfl rfl rfl rfl rfl (fun _ => rfl) (Nat.zero_le _) rfl rfl rfl (sf_X7_becomeAs_9_8 M hok d) (fun M2_ o4_ g5_ => ?_)
  have f6_ : pvFr fp_X9_image_0 M M2_ := pvfr_t g5_ pvfr_0 fp_X9_image_0_fp_X7_becomeAs_9_8
  refine pw_blkw hT 3 (pc := 16) (lo := [some (pvR 0)]) (st := []) (M := pvu M2_ 0 5 1) rfl ⟨trivial, trivial, ⟨rfl, Or.inr rfl⟩, trivial⟩ (fun M7_ e8_ => ?_)
  have o9_ : pvOk M7_ := pvok_u2 e8_ o4_ rfl (zr_wide (show 1 ≤ Int32.toInt 1 ∧ Int32.toInt 1 ≤ 1 from (by decide)) (by decide) (by decide))
  have f10_ : pvFr fp_X9_image_0 M M7_ := pvfr_u e8_ f6_ rfl
  have b11_ : 0 ≤ Int32.toInt (M7_.1 8 1) ∧ Int32.toInt (M7_.1 8 1) ≤ 7 := pvok_r o9_ 8 1 rfl
  refine pw_blk hT 3 (S' := (23, [some (pvR 0)], [pvI (M7_.1 8 1)], M7_)) rfl ⟨trivial, rfl, rfl, trivial⟩ ?_
  exact pw_ret hT rfl (r := some (pvI (M7_.1 8 1))) (M' := M7_) ⟨rfl, rfl⟩ ⟨⟨_, rfl, b11_⟩, o9_, f10_⟩
set_option maxHeartbeats 4000000 in
set_option maxRecDepth 10000 in
theorem sf_X9_isPlace_x_x (M : pvM) (hok : pvOk M) (n0 : Int32) (n1 : Int32) (d : Nat) : PW 179 d (0, [some (pvI n0), some (pvI n1)], [], M) (fun r X => r = some (pvI ((if n0 < 0 then 0 else (if 3 < n0 then 0 else (if n1 < 0 then 0 else (if 4 < n1 then 0 else 1)))))) ∧ X = M) := by
  have hT : pvdom 179 = pvD_179 := rfl
  refine pw_blk hT 3 (S' := (3, [some (pvI n0), some (pvI n1)], [pvI 3, pvI 0, pvI n0], M)) rfl ⟨trivial, trivial, trivial, trivial⟩ ?_
  refine pw_callT hT (as := [pvI n0, pvI 0, pvI 3]) (lo1 := [some (pvI n0), some (pvI 0), some (pvI 3)]) (d1 := d) (rest := []) rfl rfl rfl rfl rfl (fun h => absurd h (by decide)) (Nat.zero_le _) rfl rfl rfl (sf_X9_within_x_x_x M hok n0 0 3 d) ?_
  by_cases c6_ : n0 < 0
  · refine pw_eqI (if_pos c6_) ?_
    have b7_ : (-2147483648) ≤ Int32.toInt n0 ∧ Int32.toInt n0 ≤ (-1) := zr_lt_l (-1) c6_ (zbnd n0) (show 0 ≤ Int32.toInt 0 ∧ Int32.toInt 0 ≤ 0 from (by decide)) (by decide)
    show PW 179 d (6, [some (pvI n0), some (pvI n1)], [pvI 0], M) _
    refine pw_if hT (c := 0 = 0) rfl rfl (fun c8_ => ?_) (fun c8_ => absurd (by decide) c8_)
    refine pw_blk hT 1 (S' := (23, [some (pvI n0), some (pvI n1)], [pvI 0], M)) rfl ⟨trivial, trivial⟩ ?_
    exact pw_ret hT rfl (r := some (pvI 0)) (M' := M) ⟨Or.inl rfl, rfl, rfl⟩ ⟨(by rw [if_pos c6_]), rfl⟩
  · refine pw_eqI (if_neg c6_) ?_
    have b9_ : 0 ≤ Int32.toInt n0 ∧ Int32.toInt n0 ≤ 2147483647 := zr_nlt_l 0 c6_ (zbnd n0) (show 0 ≤ Int32.toInt 0 ∧ Int32.toInt 0 ≤ 0 from (by decide)) (by decide)
    by_cases c10_ : 3 < n0
    · refine pw_eqI (if_pos c10_) ?_
      have b11_ : 4 ≤ Int32.toInt n0 ∧ Int32.toInt n0 ≤ 2147483647 := zr_lt_r 4 c10_ b9_ (show 3 ≤ Int32.toInt 3 ∧ Int32.toInt 3 ≤ 3 from (by decide)) (by decide)
      show PW 179 d (6, [some (pvI n0), some (pvI n1)], [pvI 0], M) _
      refine pw_if hT (c := 0 = 0) rfl rfl (fun c12_ => ?_) (fun c12_ => absurd (by decide) c12_)
      refine pw_blk hT 1 (S' := (23, [some (pvI n0), some (pvI n1)], [pvI 0], M)) rfl ⟨trivial, trivial⟩ ?_
      exact pw_ret hT rfl (r := some (pvI 0)) (M' := M) ⟨Or.inl rfl, rfl, rfl⟩ ⟨(by rw [if_neg c6_, if_pos c10_]), rfl⟩
    · refine pw_eqI (if_neg c10_) ?_
      have b13_ : 0 ≤ Int32.toInt n0 ∧ Int32.toInt n0 ≤ 3 := zr_nlt_r 3 c10_ b9_ (show 3 ≤ Int32.toInt 3 ∧ Int32.toInt 3 ≤ 3 from (by decide)) (by decide)
      show PW 179 d (6, [some (pvI n0), some (pvI n1)], [pvI 1], M) _
      refine pw_if hT (c := 1 = 0) rfl rfl (fun c14_ => absurd c14_ (by decide)) (fun c14_ => ?_)
      refine pw_blk hT 3 (S' := (12, [some (pvI n0), some (pvI n1)], [pvI 4, pvI 0, pvI n1], M)) rfl ⟨trivial, trivial, trivial, trivial⟩ ?_
      refine pw_callT hT (as := [pvI n1, pvI 0, pvI 4]) (lo1 := [some (pvI n1), some (pvI 0), some (pvI 4)]) (d1 := d) (rest := []) rfl rfl rfl rfl rfl (fun h => absurd h (by decide)) (Nat.zero_le _) rfl rfl rfl (sf_X9_within_x_x_x M hok n1 0 4 d) ?_
      by_cases c20_ : n1 < 0
      · refine pw_eqI (if_pos c20_) ?_
        have b21_ : (-2147483648) ≤ Int32.toInt n1 ∧ Int32.toInt n1 ≤ (-1) := zr_lt_l (-1) c20_ (zbnd n1) (show 0 ≤ Int32.toInt 0 ∧ Int32.toInt 0 ≤ 0 from (by decide)) (by decide)
        show PW 179 d (15, [some (pvI n0), some (pvI n1)], [pvI 0], M) _
        refine pw_if hT (c := 0 = 0) rfl rfl (fun c22_ => ?_) (fun c22_ => absurd (by decide) c22_)
        refine pw_blk hT 1 (S' := (23, [some (pvI n0), some (pvI n1)], [pvI 0], M)) rfl ⟨trivial, trivial⟩ ?_
        exact pw_ret hT rfl (r := some (pvI 0)) (M' := M) ⟨Or.inl rfl, rfl, rfl⟩ ⟨(by rw [if_neg c6_, if_neg c10_, if_pos c20_]), rfl⟩
      · refine pw_eqI (if_neg c20_) ?_
        have b23_ : 0 ≤ Int32.toInt n1 ∧ Int32.toInt n1 ≤ 2147483647 := zr_nlt_l 0 c20_ (zbnd n1) (show 0 ≤ Int32.toInt 0 ∧ Int32.toInt 0 ≤ 0 from (by decide)) (by decide)
        by_cases c24_ : 4 < n1
        · refine pw_eqI (if_pos c24_) ?_
          have b25_ : 5 ≤ Int32.toInt n1 ∧ Int32.toInt n1 ≤ 2147483647 := zr_lt_r 5 c24_ b23_ (show 4 ≤ Int32.toInt 4 ∧ Int32.toInt 4 ≤ 4 from (by decide)) (by decide)
          show PW 179 d (15, [some (pvI n0), some (pvI n1)], [pvI 0], M) _
          refine pw_if hT (c := 0 = 0) rfl rfl (fun c26_ => ?_) (fun c26_ => absurd (by decide) c26_)
          refine pw_blk hT 1 (S' := (23, [some (pvI n0), some (pvI n1)], [pvI 0], M)) rfl ⟨trivial, trivial⟩ ?_
          exact pw_ret hT rfl (r := some (pvI 0)) (M' := M) ⟨Or.inl rfl, rfl, rfl⟩ ⟨(by rw [if_neg c6_, if_neg c10_, if_neg c20_, if_pos c24_]), rfl⟩
        · refine pw_eqI (if_neg c24_) ?_
          have b27_ : 0 ≤ Int32.toInt n1 ∧ Int32.toInt n1 ≤ 4 := zr_nlt_r 4 c24_ b23_ (show 4 ≤ Int32.toInt 4 ∧ Int32.toInt 4 ≤ 4 from (by decide)) (by decide)
          show PW 179 d (15, [some (pvI n0), some (pvI n1)], [pvI 1], M) _
          refine pw_if hT (c := 1 = 0) rfl rfl (fun c28_ => absurd c28_ (by decide)) (fun c28_ => ?_)
          refine pw_blk hT 2 (S' := (23, [some (pvI n0), some (pvI n1)], [pvI 1], M)) rfl ⟨trivial, trivial, trivial⟩ ?_
          exact pw_ret hT rfl (r := some (pvI 1)) (M' := M) ⟨Or.inr rfl, rfl, rfl⟩ ⟨(by rw [if_neg c6_, if_neg c10_, if_neg c20_, if_neg c24_]), rfl⟩
set_option maxHeartbeats 4000000 in
set_option maxRecDepth 10000 in
theorem sf_X9_isTape_x (M : pvM) (hok : pvOk M) (n0 : Int32) (d : Nat) : PW 180 d (0, [some (pvI n0)], [], M) (fun r X => r = some (pvI ((if n0 < 0 then 0 else (if 5 < n0 then 0 else 1)))) ∧ X = M) := by
  have hT : pvdom 180 = pvD_180 := rfl
  refine pw_blk hT 3 (S' := (3, [some (pvI n0)], [pvI 5, pvI 0, pvI n0], M)) rfl ⟨trivial, trivial, trivial, trivial⟩ ?_
  refine pw_callT hT (as := [pvI n0, pvI 0, pvI 5]) (lo1 := [some (pvI n0), some (pvI 0), some (pvI 5)]) (d1 := d) (rest := []) rfl rfl rfl rfl rfl (fun h => absurd h (by decide)) (Nat.zero_le _) rfl rfl rfl (sf_X9_within_x_x_x M hok n0 0 5 d) ?_
  by_cases c6_ : n0 < 0
  · refine pw_eqI (if_pos c6_) ?_
    have b7_ : (-2147483648) ≤ Int32.toInt n0 ∧ Int32.toInt n0 ≤ (-1) := zr_lt_l (-1) c6_ (zbnd n0) (show 0 ≤ Int32.toInt 0 ∧ Int32.toInt 0 ≤ 0 from (by decide)) (by decide)
    show PW 180 d (6, [some (pvI n0)], [pvI 0], M) _
    exact pw_ret hT rfl (r := some (pvI 0)) (M' := M) ⟨Or.inl rfl, rfl, rfl⟩ ⟨(by rw [if_pos c6_]), rfl⟩
  · refine pw_eqI (if_neg c6_) ?_
    have b8_ : 0 ≤ Int32.toInt n0 ∧ Int32.toInt n0 ≤ 2147483647 := zr_nlt_l 0 c6_ (zbnd n0) (show 0 ≤ Int32.toInt 0 ∧ Int32.toInt 0 ≤ 0 from (by decide)) (by decide)
    by_cases c9_ : 5 < n0
    · refine pw_eqI (if_pos c9_) ?_
      have b10_ : 6 ≤ Int32.toInt n0 ∧ Int32.toInt n0 ≤ 2147483647 := zr_lt_r 6 c9_ b8_ (show 5 ≤ Int32.toInt 5 ∧ Int32.toInt 5 ≤ 5 from (by decide)) (by decide)
      show PW 180 d (6, [some (pvI n0)], [pvI 0], M) _
      exact pw_ret hT rfl (r := some (pvI 0)) (M' := M) ⟨Or.inl rfl, rfl, rfl⟩ ⟨(by rw [if_neg c6_, if_pos c9_]), rfl⟩
    · refine pw_eqI (if_neg c9_) ?_
      have b11_ : 0 ≤ Int32.toInt n0 ∧ Int32.toInt n0 ≤ 5 := zr_nlt_r 5 c9_ b8_ (show 5 ≤ Int32.toInt 5 ∧ Int32.toInt 5 ≤ 5 from (by decide)) (by decide)
      show PW 180 d (6, [some (pvI n0)], [pvI 1], M) _
      exact pw_ret hT rfl (r := some (pvI 1)) (M' := M) ⟨Or.inr rfl, rfl, rfl⟩ ⟨(by rw [if_neg c6_, if_neg c9_]), rfl⟩
set_option maxHeartbeats 4000000 in
set_option maxRecDepth 10000 in
theorem sf_X8_isNothing_x (M : pvM) (hok : pvOk M) (q0 : Nat) (hq0 : pvkl q0 = 7) (d : Nat) : PW 165 d (0, [some (pvR q0)], [], M) (fun r X => r = some (pvI ((if (M.1 q0 0) = (-1) then 1 else 0))) ∧ X = M) := by
  have hT : pvdom 165 = pvD_165 := rfl
  have b1_ : (-1) ≤ Int32.toInt (M.1 q0 0) ∧ Int32.toInt (M.1 q0 0) ≤ 4 := pvok_r hok q0 0 ((pvrg_o 0 hq0 (by decide) (by decide)).trans rfl)
  refine pw_blk hT 3 (S' := (5, [some (pvR q0)], [pvI (-1), pvI (M.1 q0 0)], M)) rfl ⟨trivial, hq0, trivial, trivial⟩ ?_
  refine pw_icn hT (c := (M.1 q0 0) = (-1)) rfl rfl (fun c2_ => ?_) (fun c2_ => ?_)
  · have b3_ : 0 ≤ Int32.toInt (M.1 q0 0) ∧ Int32.toInt (M.1 q0 0) ≤ 4 := (by have u0 := b1_; have u1 := (not_congr (zi_eq _ _)).mp c2_; have u2 := (show (-1) ≤ Int32.toInt (-1) ∧ Int32.toInt (-1) ≤ (-1) from (by decide)); omega)
    refine pw_blk hT 1 (S' := (13, [some (pvR q0)], [pvI 0], M)) rfl ⟨trivial, trivial⟩ ?_
    exact pw_ret hT rfl (r := some (pvI 0)) (M' := M) ⟨Or.inl rfl, rfl, rfl⟩ ⟨(by rw [if_neg c2_]), rfl⟩
  · have b4_ : (-1) ≤ Int32.toInt (M.1 q0 0) ∧ Int32.toInt (M.1 q0 0) ≤ (-1) := (by have u0 := b1_; have u1 := (zi_eq _ _).mp c2_; have u2 := (show (-1) ≤ Int32.toInt (-1) ∧ Int32.toInt (-1) ≤ (-1) from (by decide)); omega)
    refine pw_blk hT 2 (S' := (13, [some (pvR q0)], [pvI 1], M)) rfl ⟨trivial, trivial, trivial⟩ ?_
    exact pw_ret hT rfl (r := some (pvI 1)) (M' := M) ⟨Or.inr rfl, rfl, rfl⟩ ⟨(by rw [if_pos c2_]), rfl⟩
set_option maxHeartbeats 4000000 in
set_option maxRecDepth 10000 in
theorem sf_X8_hasPlace_x_x (M : pvM) (hok : pvOk M) (q0 : Nat) (n1 : Int32) (hq0 : pvkl q0 = 7) (d : Nat) : PW 163 d (0, [some (pvR q0), some (pvI n1)], [], M) (fun r X => r = some (pvI ((if n1 < 0 then 0 else (if (M.1 q0 1) ≤ n1 then 0 else 1)))) ∧ X = M) := by
  have hT : pvdom 163 = pvD_163 := rfl
  refine pw_blk hT 1 (S' := (1, [some (pvR q0), some (pvI n1)], [pvI n1], M)) rfl ⟨trivial, trivial⟩ ?_
  refine pw_if hT (c := n1 < 0) rfl rfl (fun c1_ => ?_) (fun c1_ => ?_)
  · have b2_ : (-2147483648) ≤ Int32.toInt n1 ∧ Int32.toInt n1 ≤ (-1) := zr_lt_l (-1) c1_ (zbnd n1) (show 0 ≤ Int32.toInt 0 ∧ Int32.toInt 0 ≤ 0 from (by decide)) (by decide)
    refine pw_blk hT 1 (S' := (17, [some (pvR q0), some (pvI n1)], [pvI 0], M)) rfl ⟨trivial, trivial⟩ ?_
    exact pw_ret hT rfl (r := some (pvI 0)) (M' := M) ⟨Or.inl rfl, rfl, rfl⟩ ⟨(by rw [if_pos c1_]), rfl⟩
  · have b3_ : 0 ≤ Int32.toInt n1 ∧ Int32.toInt n1 ≤ 2147483647 := zr_nlt_l 0 c1_ (zbnd n1) (show 0 ≤ Int32.toInt 0 ∧ Int32.toInt 0 ≤ 0 from (by decide)) (by decide)
    have b4_ : 0 ≤ Int32.toInt (M.1 q0 1) ∧ Int32.toInt (M.1 q0 1) ≤ 60 := pvok_r hok q0 1 ((pvrg_o 1 hq0 (by decide) (by decide)).trans rfl)
    refine pw_blk hT 3 (S' := (9, [some (pvR q0), some (pvI n1)], [pvI (M.1 q0 1), pvI n1], M)) rfl ⟨trivial, trivial, hq0, trivial⟩ ?_
    refine pw_ic hT (c := (M.1 q0 1) ≤ n1) rfl rfl (fun c5_ => ?_) (fun c5_ => ?_)
    · have d6_ : Int32.toInt (M.1 q0 1) ≤ Int32.toInt n1 := (zi_le _ _).mp c5_
      refine pw_blk hT 1 (S' := (17, [some (pvR q0), some (pvI n1)], [pvI 0], M)) rfl ⟨trivial, trivial⟩ ?_
      exact pw_ret hT rfl (r := some (pvI 0)) (M' := M) ⟨Or.inl rfl, rfl, rfl⟩ ⟨(by rw [if_neg c1_, if_pos c5_]), rfl⟩
    · have b7_ : 1 ≤ Int32.toInt (M.1 q0 1) ∧ Int32.toInt (M.1 q0 1) ≤ 60 := zr_nle_l 1 c5_ b4_ b3_ (by decide)
      have b8_ : 0 ≤ Int32.toInt n1 ∧ Int32.toInt n1 ≤ 59 := zr_nle_r 59 c5_ b3_ b7_ (by decide)
      have d9_ : Int32.toInt (M.1 q0 1) > Int32.toInt n1 := Int.not_le.mp ((not_congr (zi_le _ _)).mp c5_)
      refine pw_blk hT 2 (S' := (17, [some (pvR q0), some (pvI n1)], [pvI 1], M)) rfl ⟨trivial, trivial, trivial⟩ ?_
      exact pw_ret hT rfl (r := some (pvI 1)) (M' := M) ⟨Or.inr rfl, rfl, rfl⟩ ⟨(by rw [if_neg c1_, if_neg c5_]), rfl⟩
set_option maxHeartbeats 4000000 in
set_option maxRecDepth 10000 in
theorem sf_X8_asItem_x_x (M : pvM) (hok : pvOk M) (q0 : Nat) (n1 : Int64) (hq0 : pvkl q0 = 7) (d : Nat) : PW 161 d (0, [some (pvR q0), some (pvJ n1), none], [], M) (fun r X => (∃ x : Int64, r = some (pvJ x)) ∧ X = M) := by
  have hT : pvdom 161 = pvD_161 := rfl
  have b1_ : (-1) ≤ Int32.toInt (M.1 q0 0) ∧ Int32.toInt (M.1 q0 0) ≤ 4 := pvok_r hok q0 0 ((pvrg_o 0 hq0 (by decide) (by decide)).trans rfl)
  refine pw_blk hT 2 (S' := (4, [some (pvR q0), some (pvJ n1), none], [pvI (M.1 q0 0)], M)) rfl ⟨trivial, hq0, trivial⟩ ?_
  refine pw_sw hT rfl rfl ?_
  refine And.intro (fun c2_ => ?_) (fun c2_ => ?_)
  · show PW 161 d (40, [some (pvR q0), some (pvJ n1), none], [], M) _
    have b3_ : 0 ≤ Int32.toInt (M.1 q0 0) ∧ Int32.toInt (M.1 q0 0) ≤ 0 := (by have u0 := b1_; have u1 := (zi_eq _ _).mp c2_; have u2 := (show 0 ≤ Int32.toInt 0 ∧ Int32.toInt 0 ≤ 0 from (by decide)); omega)
    refine pw_blk hT 4 (S' := (44, [some (pvR q0), some (pvJ n1), none], [pvJ (Int32.toInt64 (Int8.toInt32 (Int32.toInt8 (Int64.toInt32 n1))))], M)) rfl ⟨trivial, trivial, trivial, trivial, trivial⟩ ?_
    exact pw_ret hT rfl (r := some (pvJ (Int32.toInt64 (Int8.toInt32 (Int32.toInt8 (Int64.toInt32 n1)))))) (M' := M) ⟨rfl, rfl⟩ ⟨⟨_, rfl⟩, rfl⟩
  · refine And.intro (fun c4_ => ?_) (fun c4_ => ?_)
    · show PW 161 d (45, [some (pvR q0), some (pvJ n1), none], [], M) _
      have b5_ : 1 ≤ Int32.toInt (M.1 q0 0) ∧ Int32.toInt (M.1 q0 0) ≤ 1 := (by have u0 := b1_; have u1 := (zi_eq _ _).mp c4_; have u2 := (show 1 ≤ Int32.toInt 1 ∧ Int32.toInt 1 ≤ 1 from (by decide)); omega)
      refine pw_blk hT 4 (S' := (49, [some (pvR q0), some (pvJ n1), none], [pvJ (Int32.toInt64 (Int16.toInt32 (Int32.toInt16 (Int64.toInt32 n1))))], M)) rfl ⟨trivial, trivial, trivial, trivial, trivial⟩ ?_
      exact pw_ret hT rfl (r := some (pvJ (Int32.toInt64 (Int16.toInt32 (Int32.toInt16 (Int64.toInt32 n1)))))) (M' := M) ⟨rfl, rfl⟩ ⟨⟨_, rfl⟩, rfl⟩
    · refine And.intro (fun c6_ => ?_) (fun c6_ => ?_)
      · show PW 161 d (50, [some (pvR q0), some (pvJ n1), none], [], M) _
        have b7_ : 2 ≤ Int32.toInt (M.1 q0 0) ∧ Int32.toInt (M.1 q0 0) ≤ 2 := (by have u0 := b1_; have u1 := (zi_eq _ _).mp c6_; have u2 := (show 2 ≤ Int32.toInt 2 ∧ Int32.toInt 2 ≤ 2 from (by decide)); omega)
        refine pw_blk hT 3 (S' := (53, [some (pvR q0), some (pvJ n1), none], [pvJ (Int32.toInt64 (Int64.toInt32 n1))], M)) rfl ⟨trivial, trivial, trivial, trivial⟩ ?_
        exact pw_ret hT rfl (r := some (pvJ (Int32.toInt64 (Int64.toInt32 n1)))) (M' := M) ⟨rfl, rfl⟩ ⟨⟨_, rfl⟩, rfl⟩
      · refine And.intro (fun c8_ => ?_) (fun c8_ => ?_)
        · show PW 161 d (66, [some (pvR q0), some (pvJ n1), none], [], M) _
          have b9_ : 3 ≤ Int32.toInt (M.1 q0 0) ∧ Int32.toInt (M.1 q0 0) ≤ 3 := (by have u0 := b1_; have u1 := (zi_eq _ _).mp c8_; have u2 := (show 3 ≤ Int32.toInt 3 ∧ Int32.toInt 3 ≤ 3 from (by decide)); omega)
          refine pw_blk hT 1 (S' := (67, [some (pvR q0), some (pvJ n1), none], [pvJ n1], M)) rfl ⟨trivial, trivial⟩ ?_
          exact pw_ret hT rfl (r := some (pvJ n1)) (M' := M) ⟨rfl, rfl⟩ ⟨⟨_, rfl⟩, rfl⟩
        · refine And.intro (fun c10_ => ?_) (fun c10_ => ?_)
          · show PW 161 d (54, [some (pvR q0), some (pvJ n1), none], [], M) _
            have b11_ : 4 ≤ Int32.toInt (M.1 q0 0) ∧ Int32.toInt (M.1 q0 0) ≤ 4 := (by have u0 := b1_; have u1 := (zi_eq _ _).mp c10_; have u2 := (show 4 ≤ Int32.toInt 4 ∧ Int32.toInt 4 ≤ 4 from (by decide)); omega)
            refine pw_blk hT 3 (S' := (57, [some (pvR q0), some (pvJ n1), none], [pvI (lg_cmp n1 0)], M)) rfl ⟨trivial, trivial, trivial, trivial⟩ ?_
            refine pw_if hT (c := (lg_cmp n1 0) = 0) rfl rfl (fun c12_ => ?_) (fun c12_ => ?_)
            · have b13_ : 0 ≤ Int32.toInt (lg_cmp n1 0) ∧ Int32.toInt (lg_cmp n1 0) ≤ 0 := (by have u0 := (zbnd (lg_cmp n1 0)); have u1 := (zi_eq _ _).mp c12_; have u2 := (show 0 ≤ Int32.toInt 0 ∧ Int32.toInt 0 ≤ 0 from (by decide)); omega)
              refine pw_blk hT 1 (S' := (65, [some (pvR q0), some (pvJ n1), none], [pvJ 0], M)) rfl ⟨trivial, trivial⟩ ?_
              exact pw_ret hT rfl (r := some (pvJ 0)) (M' := M) ⟨rfl, rfl⟩ ⟨⟨_, rfl⟩, rfl⟩
            · refine pw_blk hT 2 (S' := (65, [some (pvR q0), some (pvJ n1), none], [pvJ 1], M)) rfl ⟨trivial, trivial, trivial⟩ ?_
              exact pw_ret hT rfl (r := some (pvJ 1)) (M' := M) ⟨rfl, rfl⟩ ⟨⟨_, rfl⟩, rfl⟩
          · have b14_ : (-1) ≤ Int32.toInt (M.1 q0 0) ∧ Int32.toInt (M.1 q0 0) ≤ (-1) := (by have u0 := b1_; have u9 := (show _ ∧ _ from ⟨(not_congr (zi_eq _ _)).mp c10_, (show 4 ≤ Int32.toInt 4 ∧ Int32.toInt 4 ≤ 4 from (by decide))⟩); have v1 := (not_congr (zi_eq _ _)).mp c8_; have w1 : (3 : Int32).toInt = 3 := (by decide); have v2 := (not_congr (zi_eq _ _)).mp c6_; have w2 : (2 : Int32).toInt = 2 := (by decide); have v3 := (not_congr (zi_eq _ _)).mp c4_; have w3 : (1 : Int32).toInt = 1 := (by decide); have v4 := (not_congr (zi_eq _ _)).mp c2_; have w4 : (0 : Int32).toInt = 0 := (by decide); omega)
            show PW 161 d (66, [some (pvR q0), some (pvJ n1), none], [], M) _
            refine pw_blk hT 1 (S' := (67, [some (pvR q0), some (pvJ n1), none], [pvJ n1], M)) rfl ⟨trivial, trivial⟩ ?_
            exact pw_ret hT rfl (r := some (pvJ n1)) (M' := M) ⟨rfl, rfl⟩ ⟨⟨_, rfl⟩, rfl⟩
def fpL_X9_item_0_x_x_x : List (Nat × Nat × Nat) := []
def fp_X9_item_0_x_x_x (q k : Nat) : Bool := pvfp fpL_X9_item_0_x_x_x q k
set_option maxHeartbeats 4000000 in
set_option maxRecDepth 10000 in
theorem sf_X9_item_0_x_x_x (M : pvM) (hok : pvOk M) (n1 : Int32) (n2 : Int32) (n3 : Int64) (d : Nat) : PW 181 d (0, [some (pvR 0), some (pvI n1), some (pvI n2), some (pvJ n3), none, none], [], M) (fun r X => (∃ x : Int32, r = some (pvI x) ∧ (-13) ≤ Int32.toInt x ∧ Int32.toInt x ≤ 1) ∧ pvOk X ∧ pvFr fp_X9_item_0_x_x_x M X) := by
  have hT : pvdom 181 = pvD_181 := rfl
  refine pw_blk hT 1 (S' := (1, [some (pvR 0), some (pvI n1), some (pvI n2), some (pvJ n3), none, none], [pvI n1], M)) rfl ⟨trivial, trivial⟩ ?_
  refine pw_callT hT (as := [pvI n1]) (lo1 := [some (pvI n1)]) (d1 := d) (rest := []) rfl rfl rfl rfl rfl (fun h => absurd h (by decide)) (Nat.zero_le _) rfl rfl rfl (sf_X9_isTape_x M hok n1 d) ?_
  by_cases c6_ : n1 < 0
  · refine pw_eqI (if_pos c6_) ?_
    have b7_ : (-2147483648) ≤ Int32.toInt n1 ∧ Int32.toInt n1 ≤ (-1) := zr_lt_l (-1) c6_ (zbnd n1) (show 0 ≤ Int32.toInt 0 ∧ Int32.toInt 0 ≤ 0 from (by decide)) (by decide)
    show PW 181 d (4, [some (pvR 0), some (pvI n1), some (pvI n2), some (pvJ n3), none, none], [pvI 0], M) _
    refine pw_ifn hT (c := 0 = 0) rfl rfl (fun c8_ => absurd (by decide) c8_) (fun c8_ => ?_)
    refine pw_blk hT 1 (S' := (8, [some (pvR 0), some (pvI n1), some (pvI n2), some (pvJ n3), none, none], [pvI (-1)], M)) rfl ⟨trivial, trivial⟩ ?_
    exact pw_ret hT rfl (r := some (pvI (-1))) (M' := M) ⟨rfl, rfl⟩ ⟨⟨_, rfl, (zr_wide (show (-1) ≤ Int32.toInt (-1) ∧ Int32.toInt (-1) ≤ (-1) from (by decide)) (by decide) (by decide))⟩, hok, pvfr_0⟩
  · refine pw_eqI (if_neg c6_) ?_
    have b9_ : 0 ≤ Int32.toInt n1 ∧ Int32.toInt n1 ≤ 2147483647 := zr_nlt_l 0 c6_ (zbnd n1) (show 0 ≤ Int32.toInt 0 ∧ Int32.toInt 0 ≤ 0 from (by decide)) (by decide)
    by_cases c10_ : 5 < n1
    · refine pw_eqI (if_pos c10_) ?_
      have b11_ : 6 ≤ Int32.toInt n1 ∧ Int32.toInt n1 ≤ 2147483647 := zr_lt_r 6 c10_ b9_ (show 5 ≤ Int32.toInt 5 ∧ Int32.toInt 5 ≤ 5 from (by decide)) (by decide)
      show PW 181 d (4, [some (pvR 0), some (pvI n1), some (pvI n2), some (pvJ n3), none, none], [pvI 0], M) _
      refine pw_ifn hT (c := 0 = 0) rfl rfl (fun c12_ => absurd (by decide) c12_) (fun c12_ => ?_)
      refine pw_blk hT 1 (S' := (8, [some (pvR 0), some (pvI n1), some (pvI n2), some (pvJ n3), none, none], [pvI (-1)], M)) rfl ⟨trivial, trivial⟩ ?_
      exact pw_ret hT rfl (r := some (pvI (-1))) (M' := M) ⟨rfl, rfl⟩ ⟨⟨_, rfl, (zr_wide (show (-1) ≤ Int32.toInt (-1) ∧ Int32.toInt (-1) ≤ (-1) from (by decide)) (by decide) (by decide))⟩, hok, pvfr_0⟩
    · refine pw_eqI (if_neg c10_) ?_
      have b13_ : 0 ≤ Int32.toInt n1 ∧ Int32.toInt n1 ≤ 5 := zr_nlt_r 5 c10_ b9_ (show 5 ≤ Int32.toInt 5 ∧ Int32.toInt 5 ≤ 5 from (by decide)) (by decide)
      show PW 181 d (4, [some (pvR 0), some (pvI n1), some (pvI n2), some (pvJ n3), none, none], [pvI 1], M) _
      refine pw_ifn hT (c := 1 = 0) rfl rfl (fun c14_ => ?_) (fun c14_ => absurd c14_ (by decide))
      refine pw_blkr hT 4 (pc := 15) (lo := [some (pvR 0), some (pvI n1), some (pvI n2), some (pvJ n3), none, none]) (st := []) (M := M) (z := (pvbs 2 + Int32.toNatClampNeg n1)) rfl ⟨trivial, rfl, trivial, ⟨rfl, (zr_in (n := 6) b13_ (by decide) (by decide))⟩, trivial⟩ (fun q15_ e17_ => ?_)
      have k16_ : pvkl q15_ = 7 := pvel_2 (zr_in (n := 6) b13_ (by decide) (by decide)) e17_
      refine pw_blk hT 2 (S' := (19, [some (pvR 0), some (pvI n1), some (pvI n2), some (pvJ n3), none, some (pvR q15_)], [pvR q15_], M)) rfl ⟨trivial, trivial, trivial⟩ ?_
      refine pw_callT hT (as := [pvR q15_]) (lo1 := [some (pvR q15_)]) (d1 := d) (rest := []) rfl rfl rfl rfl rfl (fun _ => k16_) (Nat.zero_le _) rfl rfl rfl (sf_X8_isNothing_x M hok q15_ k16_ d) ?_
      have b23_ : (-1) ≤ Int32.toInt (M.1 q15_ 0) ∧ Int32.toInt (M.1 q15_ 0) ≤ 4 := pvok_r hok q15_ 0 ((pvrg_o 0 k16_ (by decide) (by decide)).trans rfl)
      by_cases c24_ : (M.1 q15_ 0) = (-1)
      · refine pw_eqI (if_pos c24_) ?_
        have b25_ : (-1) ≤ Int32.toInt (M.1 q15_ 0) ∧ Int32.toInt (M.1 q15_ 0) ≤ (-1) := (by have u0 := b23_; have u1 := (zi_eq _ _).mp c24_; have u2 := (show (-1) ≤ Int32.toInt (-1) ∧ Int32.toInt (-1) ≤ (-1) from (by decide)); omega)
        show PW 181 d (22, [some (pvR 0), some (pvI n1), some (pvI n2), some (pvJ n3), none, some (pvR q15_)], [pvI 1], M) _
        refine pw_if hT (c := 1 = 0) rfl rfl (fun c26_ => absurd c26_ (by decide)) (fun c26_ => ?_)
        refine pw_blk hT 1 (S' := (27, [some (pvR 0), some (pvI n1), some (pvI n2), some (pvJ n3), none, some (pvR q15_)], [pvI (-11)], M)) rfl ⟨trivial, trivial⟩ ?_
        exact pw_ret hT rfl (r := some (pvI (-11))) (M' := M) ⟨rfl, rfl⟩ ⟨⟨_, rfl, (zr_wide (show (-11) ≤ Int32.toInt (-11) ∧ Int32.toInt (-11) ≤ (-11) from (by decide)) (by decide) (by decide))⟩, hok, pvfr_0⟩
      · refine pw_eqI (if_neg c24_) ?_
        have b27_ : 0 ≤ Int32.toInt (M.1 q15_ 0) ∧ Int32.toInt (M.1 q15_ 0) ≤ 4 := (by have u0 := b23_; have u1 := (not_congr (zi_eq _ _)).mp c24_; have u2 := (show (-1) ≤ Int32.toInt (-1) ∧ Int32.toInt (-1) ≤ (-1) from (by decide)); omega)
        show PW 181 d (22, [some (pvR 0), some (pvI n1), some (pvI n2), some (pvJ n3), none, some (pvR q15_)], [pvI 0], M) _
        refine pw_if hT (c := 0 = 0) rfl rfl (fun c28_ => ?_) (fun c28_ => absurd (by decide) c28_)
        refine pw_blk hT 2 (S' := (31, [some (pvR 0), some (pvI n1), some (pvI n2), some (pvJ n3), none, some (pvR q15_)], [pvI n2, pvR q15_], M)) rfl ⟨trivial, trivial, trivial⟩ ?_
        refine pw_callT hT (as := [pvR q15_, pvI n2]) (lo1 := [some (pvR q15_), some (pvI n2)]) (d1 := d) (rest := []) rfl rfl rfl rfl rfl (fun _ => k16_) (Nat.zero_le _) rfl rfl rfl (sf_X8_hasPlace_x_x M hok q15_ n2 k16_ d) ?_
        by_cases c34_ : n2 < 0
        · refine pw_eqI (if_pos c34_) ?_
          have b35_ : (-2147483648) ≤ Int32.toInt n2 ∧ Int32.toInt n2 ≤ (-1) := zr_lt_l (-1) c34_ (zbnd n2) (show 0 ≤ Int32.toInt 0 ∧ Int32.toInt 0 ≤ 0 from (by decide)) (by decide)
          show PW 181 d (34, [some (pvR 0), some (pvI n1), some (pvI n2), some (pvJ n3), none, some (pvR q15_)], [pvI 0], M) _
          refine pw_ifn hT (c := 0 = 0) rfl rfl (fun c36_ => absurd (by decide) c36_) (fun c36_ => ?_)
          refine pw_blk hT 1 (S' := (39, [some (pvR 0), some (pvI n1), some (pvI n2), some (pvJ n3), none, some (pvR q15_)], [pvI (-13)], M)) rfl ⟨trivial, trivial⟩ ?_
          exact pw_ret hT rfl (r := some (pvI (-13))) (M' := M) ⟨rfl, rfl⟩ ⟨⟨_, rfl, (zr_wide (show (-13) ≤ Int32.toInt (-13) ∧ Int32.toInt (-13) ≤ (-13) from (by decide)) (by decide) (by decide))⟩, hok, pvfr_0⟩
        · refine pw_eqI (if_neg c34_) ?_
          have b37_ : 0 ≤ Int32.toInt n2 ∧ Int32.toInt n2 ≤ 2147483647 := zr_nlt_l 0 c34_ (zbnd n2) (show 0 ≤ Int32.toInt 0 ∧ Int32.toInt 0 ≤ 0 from (by decide)) (by decide)
          have b38_ : 0 ≤ Int32.toInt (M.1 q15_ 1) ∧ Int32.toInt (M.1 q15_ 1) ≤ 60 := pvok_r hok q15_ 1 ((pvrg_o 1 k16_ (by decide) (by decide)).trans rfl)
          by_cases c39_ : (M.1 q15_ 1) ≤ n2
          · refine pw_eqI (if_pos c39_) ?_
            have d40_ : Int32.toInt (M.1 q15_ 1) ≤ Int32.toInt n2 := (zi_le _ _).mp c39_
            show PW 181 d (34, [some (pvR 0), some (pvI n1), some (pvI n2), some (pvJ n3), none, some (pvR q15_)], [pvI 0], M) _
            refine pw_ifn hT (c := 0 = 0) rfl rfl (fun c41_ => absurd (by decide) c41_) (fun c41_ => ?_)
            refine pw_blk hT 1 (S' := (39, [some (pvR 0), some (pvI n1), some (pvI n2), some (pvJ n3), none, some (pvR q15_)], [pvI (-13)], M)) rfl ⟨trivial, trivial⟩ ?_
            exact pw_ret hT rfl (r := some (pvI (-13))) (M' := M) ⟨rfl, rfl⟩ ⟨⟨_, rfl, (zr_wide (show (-13) ≤ Int32.toInt (-13) ∧ Int32.toInt (-13) ≤ (-13) from (by decide)) (by decide) (by decide))⟩, hok, pvfr_0⟩
          · refine pw_eqI (if_neg c39_) ?_
            have b42_ : 1 ≤ Int32.toInt (M.1 q15_ 1) ∧ Int32.toInt (M.1 q15_ 1) ≤ 60 := zr_nle_l 1 c39_ b38_ b37_ (by decide)
            have b43_ : 0 ≤ Int32.toInt n2 ∧ Int32.toInt n2 ≤ 59 := zr_nle_r 59 c39_ b37_ b42_ (by decide)
            have d44_ : Int32.toInt (M.1 q15_ 1) > Int32.toInt n2 := Int.not_le.mp ((not_congr (zi_le _ _)).mp c39_)
            show PW 181 d (34, [some (pvR 0), some (pvI n1), some (pvI n2), some (pvJ n3), none, some (pvR q15_)], [pvI 1], M) _
            refine pw_ifn hT (c := 1 = 0) rfl rfl (fun c45_ => ?_) (fun c45_ => absurd c45_ (by decide))
            refine pw_blk hT 5 (S' := (49, [some (pvR 0), some (pvI n1), some (pvI n2), some (pvJ n3), none, some (pvR q15_)], [pvJ n3, pvR q15_, pvI n2, pvR (q15_ + 6)], M)) rfl ⟨trivial, k16_, trivial, trivial, trivial, trivial⟩ ?_
            refine pw_callJp hT (as := [pvR q15_, pvJ n3]) (lo1 := [some (pvR q15_), some (pvJ n3), none]) (d1 := d) (rest := [pvI n2, pvR (q15_ + 6)]) rfl rfl rfl rfl rfl (fun _ => k16_) (Nat.zero_le _) rfl rfl rfl (sf_X8_asItem_x_x M hok q15_ n3 k16_ d) (fun x46_ b48_ => ?_)
            refine pw_blkw hT 1 (pc := 53) (lo := [some (pvR 0), some (pvI n1), some (pvI n2), some (pvJ n3), none, some (pvR q15_)]) (st := []) (M := pvw M (q15_ + 6) (Int32.toNatClampNeg n2) x46_) rfl ⟨⟨(pvow_7_6 k16_).1, (by rw [(pvow_7_6 k16_).2.1]; exact (zr_in (n := 60) b43_ (by decide) (by decide)))⟩, trivial⟩ (fun M51_ e52_ => ?_)
            have o53_ : pvOk M51_ := pvok_w e52_ hok
            have f54_ : pvFr fp_X9_item_0_x_x_x M M51_ := pvfr_w e52_ pvfr_0
            refine pw_blk hT 1 (S' := (54, [some (pvR 0), some (pvI n1), some (pvI n2), some (pvJ n3), none, some (pvR q15_)], [pvI 1], M51_)) rfl ⟨trivial, trivial⟩ ?_
            exact pw_ret hT rfl (r := some (pvI 1)) (M' := M51_) ⟨rfl, rfl⟩ ⟨⟨_, rfl, (zr_wide (show 1 ≤ Int32.toInt 1 ∧ Int32.toInt 1 ≤ 1 from (by decide)) (by decide) (by decide))⟩, o53_, f54_⟩
set_option maxHeartbeats 4000000 in
set_option maxRecDepth 10000 in
theorem sf_X9_judge_0_x_x (M : pvM) (hok : pvOk M) (n1 : Int32) (n2 : Int32) (d : Nat) : PW 182 d (0, [some (pvR 0), some (pvI n1), some (pvI n2), none, none, none], [], M) (fun r X => (∃ x : Int32, r = some (pvI x) ∧ (-12) ≤ Int32.toInt x ∧ Int32.toInt x ≤ 106) ∧ X = M) := by
  have hT : pvdom 182 = pvD_182 := rfl
  refine pw_blk hT 1 (S' := (1, [some (pvR 0), some (pvI n1), some (pvI n2), none, none, none], [pvI n1], M)) rfl ⟨trivial, trivial⟩ ?_
  refine pw_callT hT (as := [pvI n1]) (lo1 := [some (pvI n1)]) (d1 := d) (rest := []) rfl rfl rfl rfl rfl (fun h => absurd h (by decide)) (Nat.zero_le _) rfl rfl rfl (sf_X9_isTape_x M hok n1 d) ?_
  by_cases c6_ : n1 < 0
  · refine pw_eqI (if_pos c6_) ?_
    have b7_ : (-2147483648) ≤ Int32.toInt n1 ∧ Int32.toInt n1 ≤ (-1) := zr_lt_l (-1) c6_ (zbnd n1) (show 0 ≤ Int32.toInt 0 ∧ Int32.toInt 0 ≤ 0 from (by decide)) (by decide)
    show PW 182 d (4, [some (pvR 0), some (pvI n1), some (pvI n2), none, none, none], [pvI 0], M) _
    refine pw_ifn hT (c := 0 = 0) rfl rfl (fun c8_ => absurd (by decide) c8_) (fun c8_ => ?_)
    refine pw_blk hT 1 (S' := (8, [some (pvR 0), some (pvI n1), some (pvI n2), none, none, none], [pvI (-1)], M)) rfl ⟨trivial, trivial⟩ ?_
    exact pw_ret hT rfl (r := some (pvI (-1))) (M' := M) ⟨rfl, rfl⟩ ⟨⟨_, rfl, (zr_wide (show (-1) ≤ Int32.toInt (-1) ∧ Int32.toInt (-1) ≤ (-1) from (by decide)) (by decide) (by decide))⟩, rfl⟩
  · refine pw_eqI (if_neg c6_) ?_
    have b9_ : 0 ≤ Int32.toInt n1 ∧ Int32.toInt n1 ≤ 2147483647 := zr_nlt_l 0 c6_ (zbnd n1) (show 0 ≤ Int32.toInt 0 ∧ Int32.toInt 0 ≤ 0 from (by decide)) (by decide)
    by_cases c10_ : 5 < n1
    · refine pw_eqI (if_pos c10_) ?_
      have b11_ : 6 ≤ Int32.toInt n1 ∧ Int32.toInt n1 ≤ 2147483647 := zr_lt_r 6 c10_ b9_ (show 5 ≤ Int32.toInt 5 ∧ Int32.toInt 5 ≤ 5 from (by decide)) (by decide)
      show PW 182 d (4, [some (pvR 0), some (pvI n1), some (pvI n2), none, none, none], [pvI 0], M) _
      refine pw_ifn hT (c := 0 = 0) rfl rfl (fun c12_ => absurd (by decide) c12_) (fun c12_ => ?_)
      refine pw_blk hT 1 (S' := (8, [some (pvR 0), some (pvI n1), some (pvI n2), none, none, none], [pvI (-1)], M)) rfl ⟨trivial, trivial⟩ ?_
      exact pw_ret hT rfl (r := some (pvI (-1))) (M' := M) ⟨rfl, rfl⟩ ⟨⟨_, rfl, (zr_wide (show (-1) ≤ Int32.toInt (-1) ∧ Int32.toInt (-1) ≤ (-1) from (by decide)) (by decide) (by decide))⟩, rfl⟩
    · refine pw_eqI (if_neg c10_) ?_
      have b13_ : 0 ≤ Int32.toInt n1 ∧ Int32.toInt n1 ≤ 5 := zr_nlt_r 5 c10_ b9_ (show 5 ≤ Int32.toInt 5 ∧ Int32.toInt 5 ≤ 5 from (by decide)) (by decide)
      show PW 182 d (4, [some (pvR 0), some (pvI n1), some (pvI n2), none, none, none], [pvI 1], M) _
      refine pw_ifn hT (c := 1 = 0) rfl rfl (fun c14_ => ?_) (fun c14_ => absurd c14_ (by decide))
      refine pw_blkr hT 4 (pc := 15) (lo := [some (pvR 0), some (pvI n1), some (pvI n2), none, none, none]) (st := []) (M := M) (z := (pvbs 2 + Int32.toNatClampNeg n1)) rfl ⟨trivial, rfl, trivial, ⟨rfl, (zr_in (n := 6) b13_ (by decide) (by decide))⟩, trivial⟩ (fun q15_ e17_ => ?_)
      have k16_ : pvkl q15_ = 7 := pvel_2 (zr_in (n := 6) b13_ (by decide) (by decide)) e17_
      refine pw_blk hT 2 (S' := (17, [some (pvR 0), some (pvI n1), some (pvI n2), some (pvR q15_), none, none], [pvR q15_], M)) rfl ⟨trivial, trivial, trivial⟩ ?_
      refine pw_callT hT (as := [pvR q15_]) (lo1 := [some (pvR q15_)]) (d1 := d) (rest := []) rfl rfl rfl rfl rfl (fun _ => k16_) (Nat.zero_le _) rfl rfl rfl (sf_X8_isNothing_x M hok q15_ k16_ d) ?_
      have b23_ : (-1) ≤ Int32.toInt (M.1 q15_ 0) ∧ Int32.toInt (M.1 q15_ 0) ≤ 4 := pvok_r hok q15_ 0 ((pvrg_o 0 k16_ (by decide) (by decide)).trans rfl)
      by_cases c24_ : (M.1 q15_ 0) = (-1)
      · refine pw_eqI (if_pos c24_) ?_
        have b25_ : (-1) ≤ Int32.toInt (M.1 q15_ 0) ∧ Int32.toInt (M.1 q15_ 0) ≤ (-1) := (by have u0 := b23_; have u1 := (zi_eq _ _).mp c24_; have u2 := (show (-1) ≤ Int32.toInt (-1) ∧ Int32.toInt (-1) ≤ (-1) from (by decide)); omega)
        show PW 182 d (20, [some (pvR 0), some (pvI n1), some (pvI n2), some (pvR q15_), none, none], [pvI 1], M) _
        refine pw_ifn hT (c := 1 = 0) rfl rfl (fun c26_ => ?_) (fun c26_ => absurd c26_ (by decide))
        refine pw_blk hT 2 (S' := (37, [some (pvR 0), some (pvI n1), some (pvI n2), some (pvR q15_), some (pvI 0), none], [], M)) rfl ⟨trivial, trivial, trivial⟩ ?_
        have hlz159_ : ∀ (nz159_ : Nat) (i4z159_ : Int32) (v5z159_ : Option pvV), (0 ≤ Int32.toInt i4z159_ ∧ Int32.toInt i4z159_ ≤ 7) → (zhide ((8 - Int32.toInt i4z159_).toNat < nz159_)) → PW 182 d (37, [some (pvR 0), some (pvI n1), some (pvI n2), some (pvR q15_), some (pvI i4z159_), v5z159_], [], M) (fun r X => (∃ x : Int32, r = some (pvI x) ∧ (-12) ≤ Int32.toInt x ∧ Int32.toInt x ≤ 106) ∧ X = M) := by
          intro nz159_
          induction nz159_ with
          | zero => intro i4z159_ v5z159_ h4z159_ hmz159_; exact absurd (zshow hmz159_) (Nat.not_lt_zero _)
          | succ nz159_ ihz159_ =>
            intro i4z159_ v5z159_ h4z159_ hmz159_
            have b160_ : 0 ≤ Int32.toInt (M.1 8 1) ∧ Int32.toInt (M.1 8 1) ≤ 7 := pvok_r hok 8 1 rfl
            refine pw_blk hT 4 (S' := (46, [some (pvR 0), some (pvI n1), some (pvI n2), some (pvR q15_), some (pvI i4z159_), v5z159_], [pvI (M.1 8 1), pvI i4z159_], M)) rfl ⟨trivial, trivial, rfl, rfl, trivial⟩ ?_
            refine pw_ic hT (c := (M.1 8 1) ≤ i4z159_) rfl rfl (fun c161_ => ?_) (fun c161_ => ?_)
            · have d162_ : Int32.toInt (M.1 8 1) ≤ Int32.toInt i4z159_ := (zi_le _ _).mp c161_
              refine pw_blk hT 1 (S' := (120, [some (pvR 0), some (pvI n1), some (pvI n2), some (pvR q15_), some (pvI i4z159_), v5z159_], [pvI (-5)], M)) rfl ⟨trivial, trivial⟩ ?_
              exact pw_ret hT rfl (r := some (pvI (-5))) (M' := M) ⟨rfl, rfl⟩ ⟨⟨_, rfl, (zr_wide (show (-5) ≤ Int32.toInt (-5) ∧ Int32.toInt (-5) ≤ (-5) from (by decide)) (by decide) (by decide))⟩, rfl⟩
            · have b163_ : 1 ≤ Int32.toInt (M.1 8 1) ∧ Int32.toInt (M.1 8 1) ≤ 7 := zr_nle_l 1 c161_ b160_ h4z159_ (by decide)
              have b164_ : 0 ≤ Int32.toInt i4z159_ ∧ Int32.toInt i4z159_ ≤ 6 := zr_nle_r 6 c161_ h4z159_ b163_ (by decide)
              have d165_ : Int32.toInt (M.1 8 1) > Int32.toInt i4z159_ := Int.not_le.mp ((not_congr (zi_le _ _)).mp c161_)
              refine pw_blk hT 1 (S' := (50, [some (pvR 0), some (pvI n1), some (pvI n2), some (pvR q15_), some (pvI i4z159_), v5z159_], [pvI n2], M)) rfl ⟨trivial, trivial⟩ ?_
              refine pw_if hT (c := n2 < 0) rfl rfl (fun c166_ => ?_) (fun c166_ => ?_)
              · have b167_ : (-2147483648) ≤ Int32.toInt n2 ∧ Int32.toInt n2 ≤ (-1) := zr_lt_l (-1) c166_ (zbnd n2) (show 0 ≤ Int32.toInt 0 ∧ Int32.toInt 0 ≤ 0 from (by decide)) (by decide)
                obtain ⟨q169_, b168_⟩ : (Int32.toInt (100 + i4z159_) = 100 + Int32.toInt i4z159_) ∧ (100 ≤ Int32.toInt (100 + i4z159_) ∧ Int32.toInt (100 + i4z159_) ≤ 106) := zadd_q 100 i4z159_ 100 100 106 b164_ (by decide) (by decide) (by decide) (by decide) (by decide)
                refine pw_blk hT 3 (S' := (69, [some (pvR 0), some (pvI n1), some (pvI n2), some (pvR q15_), some (pvI i4z159_), v5z159_], [pvI (100 + i4z159_)], M)) rfl ⟨trivial, trivial, trivial, trivial⟩ ?_
                exact pw_ret hT rfl (r := some (pvI (100 + i4z159_))) (M' := M) ⟨rfl, rfl⟩ ⟨⟨_, rfl, (zr_wide b168_ (by decide) (by decide))⟩, rfl⟩
              · have b170_ : 0 ≤ Int32.toInt n2 ∧ Int32.toInt n2 ≤ 2147483647 := zr_nlt_l 0 c166_ (zbnd n2) (show 0 ≤ Int32.toInt 0 ∧ Int32.toInt 0 ≤ 0 from (by decide)) (by decide)
                have b171_ : 0 ≤ Int32.toInt (M.1 q15_ 1) ∧ Int32.toInt (M.1 q15_ 1) ≤ 60 := pvok_r hok q15_ 1 ((pvrg_o 1 k16_ (by decide) (by decide)).trans rfl)
                obtain ⟨q173_, b172_⟩ : (Int32.toInt ((M.1 q15_ 1) - i4z159_) = Int32.toInt (M.1 q15_ 1) - Int32.toInt i4z159_) ∧ ((-6) ≤ Int32.toInt ((M.1 q15_ 1) - i4z159_) ∧ Int32.toInt ((M.1 q15_ 1) - i4z159_) ≤ 60) := zsub_r (M.1 q15_ 1) i4z159_ (-6) 60 b171_ b164_ (by decide) (by decide) (by decide) (by decide)
                refine pw_blk hT 5 (S' := (61, [some (pvR 0), some (pvI n1), some (pvI n2), some (pvR q15_), some (pvI i4z159_), v5z159_], [pvI ((M.1 q15_ 1) - i4z159_), pvI n2], M)) rfl ⟨trivial, trivial, k16_, trivial, trivial, trivial⟩ ?_
                refine pw_ic hT (c := n2 < ((M.1 q15_ 1) - i4z159_)) rfl rfl (fun c174_ => ?_) (fun c174_ => ?_)
                · have b175_ : 0 ≤ Int32.toInt n2 ∧ Int32.toInt n2 ≤ 59 := zr_lt_l 59 c174_ b170_ b172_ (by decide)
                  have b176_ : 1 ≤ Int32.toInt ((M.1 q15_ 1) - i4z159_) ∧ Int32.toInt ((M.1 q15_ 1) - i4z159_) ≤ 60 := zr_lt_r 1 c174_ b172_ b175_ (by decide)
                  have d177_ : Int32.toInt n2 < Int32.toInt ((M.1 q15_ 1) - i4z159_) := (zi_lt _ _).mp c174_
                  obtain ⟨q179_, b178_⟩ : (Int32.toInt (n2 + i4z159_) = Int32.toInt n2 + Int32.toInt i4z159_) ∧ (0 ≤ Int32.toInt (n2 + i4z159_) ∧ Int32.toInt (n2 + i4z159_) ≤ 65) := zadd_r n2 i4z159_ 0 65 b175_ b164_ (by decide) (by decide) (by decide) (by decide)
                  refine pw_blk hT 8 (S' := (81, [some (pvR 0), some (pvI n1), some (pvI n2), some (pvR q15_), some (pvI i4z159_), v5z159_], [pvI (lg_cmp (M.2 (q15_ + 6) (Int32.toNatClampNeg (n2 + i4z159_))) 0)], M)) rfl ⟨trivial, k16_, trivial, trivial, trivial, ⟨(pvow_7_6 k16_).1, (by rw [(pvow_7_6 k16_).2.1]; exact (vp_in_iff.mpr (show 0 ≤ Int32.toInt (n2 + i4z159_) ∧ Int32.toInt (n2 + i4z159_) < ((60 : Nat) : Int) from (by have u0 := b178_; omega))))⟩, trivial, trivial, trivial⟩ ?_
                  refine pw_if hT (c := (lg_cmp (M.2 (q15_ + 6) (Int32.toNatClampNeg (n2 + i4z159_))) 0) = 0) rfl rfl (fun c180_ => ?_) (fun c180_ => ?_)
                  · have b181_ : 0 ≤ Int32.toInt (lg_cmp (M.2 (q15_ + 6) (Int32.toNatClampNeg (n2 + i4z159_))) 0) ∧ Int32.toInt (lg_cmp (M.2 (q15_ + 6) (Int32.toNatClampNeg (n2 + i4z159_))) 0) ≤ 0 := (by have u0 := (zbnd (lg_cmp (M.2 (q15_ + 6) (Int32.toNatClampNeg (n2 + i4z159_))) 0)); have u1 := (zi_eq _ _).mp c180_; have u2 := (show 0 ≤ Int32.toInt 0 ∧ Int32.toInt 0 ≤ 0 from (by decide)); omega)
                    refine pw_blkr hT 8 (pc := 103) (lo := [some (pvR 0), some (pvI n1), some (pvI n2), some (pvR q15_), some (pvI i4z159_), some (pvI 0)]) (st := [pvI 0]) (M := M) (z := (pvbs 10 + Int32.toNatClampNeg i4z159_)) rfl ⟨trivial, trivial, trivial, trivial, rfl, rfl, trivial, ⟨rfl, (zr_in (n := 7) b164_ (by decide) (by decide))⟩, trivial⟩ (fun q182_ e184_ => ?_)
                    have k183_ : pvkl q182_ = 3 := pvel_10 (zr_in (n := 7) b164_ (by decide) (by decide)) e184_
                    have b185_ : 0 ≤ Int32.toInt (M.1 q182_ 5) ∧ Int32.toInt (M.1 q182_ 5) ≤ 1 := pvok_r hok q182_ 5 ((pvrg_o 5 k183_ (by decide) (by decide)).trans rfl)
                    refine pw_blk hT 1 (S' := (106, [some (pvR 0), some (pvI n1), some (pvI n2), some (pvR q15_), some (pvI i4z159_), some (pvI 0)], [pvI (M.1 q182_ 5), pvI 0], M)) rfl ⟨k183_, trivial⟩ ?_
                    refine pw_ic hT (c := 0 = (M.1 q182_ 5)) rfl rfl (fun c186_ => ?_) (fun c186_ => ?_)
                    · have b187_ : 0 ≤ Int32.toInt (M.1 q182_ 5) ∧ Int32.toInt (M.1 q182_ 5) ≤ 0 := (by have u0 := b185_; have u1 := (zi_eq _ _).mp c186_; have u2 := (show 0 ≤ Int32.toInt 0 ∧ Int32.toInt 0 ≤ 0 from (by decide)); omega)
                      obtain ⟨q189_, b188_⟩ : (Int32.toInt (i4z159_ + 1) = Int32.toInt i4z159_ + 1) ∧ (1 ≤ Int32.toInt (i4z159_ + 1) ∧ Int32.toInt (i4z159_ + 1) ≤ 7) := zadd_k i4z159_ 1 1 1 7 b164_ (by decide) (by decide) (by decide) (by decide) (by decide)
                      refine pw_blk hT 2 (S' := (37, [some (pvR 0), some (pvI n1), some (pvI n2), some (pvR q15_), some (pvI (i4z159_ + 1)), some (pvI 0)], [], M)) rfl ⟨trivial, trivial, trivial⟩ ?_
                      exact ihz159_ (i4z159_ + 1) (some (pvI 0)) (zr_wide b188_ (by decide) (by decide)) (zhid (pvms_up (zshow hmz159_) h4z159_ q189_ (by decide) (by decide)))
                    · have b190_ : 1 ≤ Int32.toInt (M.1 q182_ 5) ∧ Int32.toInt (M.1 q182_ 5) ≤ 1 := (by have u0 := b185_; have u1 := (not_congr (zi_eq _ _)).mp c186_; have u2 := (show 0 ≤ Int32.toInt 0 ∧ Int32.toInt 0 ≤ 0 from (by decide)); omega)
                      refine pw_blk hT 1 (S' := (111, [some (pvR 0), some (pvI n1), some (pvI n2), some (pvR q15_), some (pvI i4z159_), some (pvI 0)], [pvI i4z159_], M)) rfl ⟨trivial, trivial⟩ ?_
                      exact pw_ret hT rfl (r := some (pvI i4z159_)) (M' := M) ⟨rfl, rfl⟩ ⟨⟨_, rfl, (zr_wide b164_ (by decide) (by decide))⟩, rfl⟩
                  · refine pw_blkr hT 9 (pc := 103) (lo := [some (pvR 0), some (pvI n1), some (pvI n2), some (pvR q15_), some (pvI i4z159_), some (pvI 1)]) (st := [pvI 1]) (M := M) (z := (pvbs 10 + Int32.toNatClampNeg i4z159_)) rfl ⟨trivial, trivial, trivial, trivial, trivial, rfl, rfl, trivial, ⟨rfl, (zr_in (n := 7) b164_ (by decide) (by decide))⟩, trivial⟩ (fun q191_ e193_ => ?_)
                    have k192_ : pvkl q191_ = 3 := pvel_10 (zr_in (n := 7) b164_ (by decide) (by decide)) e193_
                    have b194_ : 0 ≤ Int32.toInt (M.1 q191_ 5) ∧ Int32.toInt (M.1 q191_ 5) ≤ 1 := pvok_r hok q191_ 5 ((pvrg_o 5 k192_ (by decide) (by decide)).trans rfl)
                    refine pw_blk hT 1 (S' := (106, [some (pvR 0), some (pvI n1), some (pvI n2), some (pvR q15_), some (pvI i4z159_), some (pvI 1)], [pvI (M.1 q191_ 5), pvI 1], M)) rfl ⟨k192_, trivial⟩ ?_
                    refine pw_ic hT (c := 1 = (M.1 q191_ 5)) rfl rfl (fun c195_ => ?_) (fun c195_ => ?_)
                    · have b196_ : 1 ≤ Int32.toInt (M.1 q191_ 5) ∧ Int32.toInt (M.1 q191_ 5) ≤ 1 := (by have u0 := b194_; have u1 := (zi_eq _ _).mp c195_; have u2 := (show 1 ≤ Int32.toInt 1 ∧ Int32.toInt 1 ≤ 1 from (by decide)); omega)
                      obtain ⟨q198_, b197_⟩ : (Int32.toInt (i4z159_ + 1) = Int32.toInt i4z159_ + 1) ∧ (1 ≤ Int32.toInt (i4z159_ + 1) ∧ Int32.toInt (i4z159_ + 1) ≤ 7) := zadd_k i4z159_ 1 1 1 7 b164_ (by decide) (by decide) (by decide) (by decide) (by decide)
                      refine pw_blk hT 2 (S' := (37, [some (pvR 0), some (pvI n1), some (pvI n2), some (pvR q15_), some (pvI (i4z159_ + 1)), some (pvI 1)], [], M)) rfl ⟨trivial, trivial, trivial⟩ ?_
                      exact ihz159_ (i4z159_ + 1) (some (pvI 1)) (zr_wide b197_ (by decide) (by decide)) (zhid (pvms_up (zshow hmz159_) h4z159_ q198_ (by decide) (by decide)))
                    · have b199_ : 0 ≤ Int32.toInt (M.1 q191_ 5) ∧ Int32.toInt (M.1 q191_ 5) ≤ 0 := (by have u0 := b194_; have u1 := (not_congr (zi_eq _ _)).mp c195_; have u2 := (show 1 ≤ Int32.toInt 1 ∧ Int32.toInt 1 ≤ 1 from (by decide)); omega)
                      refine pw_blk hT 1 (S' := (111, [some (pvR 0), some (pvI n1), some (pvI n2), some (pvR q15_), some (pvI i4z159_), some (pvI 1)], [pvI i4z159_], M)) rfl ⟨trivial, trivial⟩ ?_
                      exact pw_ret hT rfl (r := some (pvI i4z159_)) (M' := M) ⟨rfl, rfl⟩ ⟨⟨_, rfl, (zr_wide b164_ (by decide) (by decide))⟩, rfl⟩
                · have d200_ : Int32.toInt n2 ≥ Int32.toInt ((M.1 q15_ 1) - i4z159_) := Int.not_lt.mp ((not_congr (zi_lt _ _)).mp c174_)
                  obtain ⟨q202_, b201_⟩ : (Int32.toInt (100 + i4z159_) = 100 + Int32.toInt i4z159_) ∧ (100 ≤ Int32.toInt (100 + i4z159_) ∧ Int32.toInt (100 + i4z159_) ≤ 106) := zadd_q 100 i4z159_ 100 100 106 b164_ (by decide) (by decide) (by decide) (by decide) (by decide)
                  refine pw_blk hT 3 (S' := (69, [some (pvR 0), some (pvI n1), some (pvI n2), some (pvR q15_), some (pvI i4z159_), v5z159_], [pvI (100 + i4z159_)], M)) rfl ⟨trivial, trivial, trivial, trivial⟩ ?_
                  exact pw_ret hT rfl (r := some (pvI (100 + i4z159_))) (M' := M) ⟨rfl, rfl⟩ ⟨⟨_, rfl, (zr_wide b201_ (by decide) (by decide))⟩, rfl⟩
        exact hlz159_ _ 0 none (zr_wide (show 0 ≤ Int32.toInt 0 ∧ Int32.toInt 0 ≤ 0 from (by decide)) (by decide) (by decide)) (zhid (Nat.lt_succ_self _))
      · refine pw_eqI (if_neg c24_) ?_
        have b203_ : 0 ≤ Int32.toInt (M.1 q15_ 0) ∧ Int32.toInt (M.1 q15_ 0) ≤ 4 := (by have u0 := b23_; have u1 := (not_congr (zi_eq _ _)).mp c24_; have u2 := (show (-1) ≤ Int32.toInt (-1) ∧ Int32.toInt (-1) ≤ (-1) from (by decide)); omega)
        show PW 182 d (20, [some (pvR 0), some (pvI n1), some (pvI n2), some (pvR q15_), none, none], [pvI 0], M) _
        refine pw_ifn hT (c := 0 = 0) rfl rfl (fun c204_ => absurd (by decide) c204_) (fun c204_ => ?_)
        refine pw_blk hT 3 (S' := (28, [some (pvR 0), some (pvI n1), some (pvI n2), some (pvR q15_), none, none], [pvI 4, pvI (M.1 q15_ 0)], M)) rfl ⟨trivial, k16_, trivial, trivial⟩ ?_
        refine pw_ic hT (c := (M.1 q15_ 0) = 4) rfl rfl (fun c205_ => ?_) (fun c205_ => ?_)
        · have b206_ : 4 ≤ Int32.toInt (M.1 q15_ 0) ∧ Int32.toInt (M.1 q15_ 0) ≤ 4 := (by have u0 := b203_; have u1 := (zi_eq _ _).mp c205_; have u2 := (show 4 ≤ Int32.toInt 4 ∧ Int32.toInt 4 ≤ 4 from (by decide)); omega)
          refine pw_blk hT 2 (S' := (37, [some (pvR 0), some (pvI n1), some (pvI n2), some (pvR q15_), some (pvI 0), none], [], M)) rfl ⟨trivial, trivial, trivial⟩ ?_
          have hlz339_ : ∀ (nz339_ : Nat) (i4z339_ : Int32) (v5z339_ : Option pvV), (0 ≤ Int32.toInt i4z339_ ∧ Int32.toInt i4z339_ ≤ 7) → (zhide ((8 - Int32.toInt i4z339_).toNat < nz339_)) → PW 182 d (37, [some (pvR 0), some (pvI n1), some (pvI n2), some (pvR q15_), some (pvI i4z339_), v5z339_], [], M) (fun r X => (∃ x : Int32, r = some (pvI x) ∧ (-12) ≤ Int32.toInt x ∧ Int32.toInt x ≤ 106) ∧ X = M) := by
            intro nz339_
            induction nz339_ with
            | zero => intro i4z339_ v5z339_ h4z339_ hmz339_; exact absurd (zshow hmz339_) (Nat.not_lt_zero _)
            | succ nz339_ ihz339_ =>
              intro i4z339_ v5z339_ h4z339_ hmz339_
              have b340_ : 0 ≤ Int32.toInt (M.1 8 1) ∧ Int32.toInt (M.1 8 1) ≤ 7 := pvok_r hok 8 1 rfl
              refine pw_blk hT 4 (S' := (46, [some (pvR 0), some (pvI n1), some (pvI n2), some (pvR q15_), some (pvI i4z339_), v5z339_], [pvI (M.1 8 1), pvI i4z339_], M)) rfl ⟨trivial, trivial, rfl, rfl, trivial⟩ ?_
              refine pw_ic hT (c := (M.1 8 1) ≤ i4z339_) rfl rfl (fun c341_ => ?_) (fun c341_ => ?_)
              · have d342_ : Int32.toInt (M.1 8 1) ≤ Int32.toInt i4z339_ := (zi_le _ _).mp c341_
                refine pw_blk hT 1 (S' := (120, [some (pvR 0), some (pvI n1), some (pvI n2), some (pvR q15_), some (pvI i4z339_), v5z339_], [pvI (-5)], M)) rfl ⟨trivial, trivial⟩ ?_
                exact pw_ret hT rfl (r := some (pvI (-5))) (M' := M) ⟨rfl, rfl⟩ ⟨⟨_, rfl, (zr_wide (show (-5) ≤ Int32.toInt (-5) ∧ Int32.toInt (-5) ≤ (-5) from (by decide)) (by decide) (by decide))⟩, rfl⟩
              · have b343_ : 1 ≤ Int32.toInt (M.1 8 1) ∧ Int32.toInt (M.1 8 1) ≤ 7 := zr_nle_l 1 c341_ b340_ h4z339_ (by decide)
                have b344_ : 0 ≤ Int32.toInt i4z339_ ∧ Int32.toInt i4z339_ ≤ 6 := zr_nle_r 6 c341_ h4z339_ b343_ (by decide)
                have d345_ : Int32.toInt (M.1 8 1) > Int32.toInt i4z339_ := Int.not_le.mp ((not_congr (zi_le _ _)).mp c341_)
                refine pw_blk hT 1 (S' := (50, [some (pvR 0), some (pvI n1), some (pvI n2), some (pvR q15_), some (pvI i4z339_), v5z339_], [pvI n2], M)) rfl ⟨trivial, trivial⟩ ?_
                refine pw_if hT (c := n2 < 0) rfl rfl (fun c346_ => ?_) (fun c346_ => ?_)
                · have b347_ : (-2147483648) ≤ Int32.toInt n2 ∧ Int32.toInt n2 ≤ (-1) := zr_lt_l (-1) c346_ (zbnd n2) (show 0 ≤ Int32.toInt 0 ∧ Int32.toInt 0 ≤ 0 from (by decide)) (by decide)
                  obtain ⟨q349_, b348_⟩ : (Int32.toInt (100 + i4z339_) = 100 + Int32.toInt i4z339_) ∧ (100 ≤ Int32.toInt (100 + i4z339_) ∧ Int32.toInt (100 + i4z339_) ≤ 106) := zadd_q 100 i4z339_ 100 100 106 b344_ (by decide) (by decide) (by decide) (by decide) (by decide)
                  refine pw_blk hT 3 (S' := (69, [some (pvR 0), some (pvI n1), some (pvI n2), some (pvR q15_), some (pvI i4z339_), v5z339_], [pvI (100 + i4z339_)], M)) rfl ⟨trivial, trivial, trivial, trivial⟩ ?_
                  exact pw_ret hT rfl (r := some (pvI (100 + i4z339_))) (M' := M) ⟨rfl, rfl⟩ ⟨⟨_, rfl, (zr_wide b348_ (by decide) (by decide))⟩, rfl⟩
                · have b350_ : 0 ≤ Int32.toInt n2 ∧ Int32.toInt n2 ≤ 2147483647 := zr_nlt_l 0 c346_ (zbnd n2) (show 0 ≤ Int32.toInt 0 ∧ Int32.toInt 0 ≤ 0 from (by decide)) (by decide)
                  have b351_ : 0 ≤ Int32.toInt (M.1 q15_ 1) ∧ Int32.toInt (M.1 q15_ 1) ≤ 60 := pvok_r hok q15_ 1 ((pvrg_o 1 k16_ (by decide) (by decide)).trans rfl)
                  obtain ⟨q353_, b352_⟩ : (Int32.toInt ((M.1 q15_ 1) - i4z339_) = Int32.toInt (M.1 q15_ 1) - Int32.toInt i4z339_) ∧ ((-6) ≤ Int32.toInt ((M.1 q15_ 1) - i4z339_) ∧ Int32.toInt ((M.1 q15_ 1) - i4z339_) ≤ 60) := zsub_r (M.1 q15_ 1) i4z339_ (-6) 60 b351_ b344_ (by decide) (by decide) (by decide) (by decide)
                  refine pw_blk hT 5 (S' := (61, [some (pvR 0), some (pvI n1), some (pvI n2), some (pvR q15_), some (pvI i4z339_), v5z339_], [pvI ((M.1 q15_ 1) - i4z339_), pvI n2], M)) rfl ⟨trivial, trivial, k16_, trivial, trivial, trivial⟩ ?_
                  refine pw_ic hT (c := n2 < ((M.1 q15_ 1) - i4z339_)) rfl rfl (fun c354_ => ?_) (fun c354_ => ?_)
                  · have b355_ : 0 ≤ Int32.toInt n2 ∧ Int32.toInt n2 ≤ 59 := zr_lt_l 59 c354_ b350_ b352_ (by decide)
                    have b356_ : 1 ≤ Int32.toInt ((M.1 q15_ 1) - i4z339_) ∧ Int32.toInt ((M.1 q15_ 1) - i4z339_) ≤ 60 := zr_lt_r 1 c354_ b352_ b355_ (by decide)
                    have d357_ : Int32.toInt n2 < Int32.toInt ((M.1 q15_ 1) - i4z339_) := (zi_lt _ _).mp c354_
                    obtain ⟨q359_, b358_⟩ : (Int32.toInt (n2 + i4z339_) = Int32.toInt n2 + Int32.toInt i4z339_) ∧ (0 ≤ Int32.toInt (n2 + i4z339_) ∧ Int32.toInt (n2 + i4z339_) ≤ 65) := zadd_r n2 i4z339_ 0 65 b355_ b344_ (by decide) (by decide) (by decide) (by decide)
                    refine pw_blk hT 8 (S' := (81, [some (pvR 0), some (pvI n1), some (pvI n2), some (pvR q15_), some (pvI i4z339_), v5z339_], [pvI (lg_cmp (M.2 (q15_ + 6) (Int32.toNatClampNeg (n2 + i4z339_))) 0)], M)) rfl ⟨trivial, k16_, trivial, trivial, trivial, ⟨(pvow_7_6 k16_).1, (by rw [(pvow_7_6 k16_).2.1]; exact (vp_in_iff.mpr (show 0 ≤ Int32.toInt (n2 + i4z339_) ∧ Int32.toInt (n2 + i4z339_) < ((60 : Nat) : Int) from (by have u0 := b358_; omega))))⟩, trivial, trivial, trivial⟩ ?_
                    refine pw_if hT (c := (lg_cmp (M.2 (q15_ + 6) (Int32.toNatClampNeg (n2 + i4z339_))) 0) = 0) rfl rfl (fun c360_ => ?_) (fun c360_ => ?_)
                    · have b361_ : 0 ≤ Int32.toInt (lg_cmp (M.2 (q15_ + 6) (Int32.toNatClampNeg (n2 + i4z339_))) 0) ∧ Int32.toInt (lg_cmp (M.2 (q15_ + 6) (Int32.toNatClampNeg (n2 + i4z339_))) 0) ≤ 0 := (by have u0 := (zbnd (lg_cmp (M.2 (q15_ + 6) (Int32.toNatClampNeg (n2 + i4z339_))) 0)); have u1 := (zi_eq _ _).mp c360_; have u2 := (show 0 ≤ Int32.toInt 0 ∧ Int32.toInt 0 ≤ 0 from (by decide)); omega)
                      refine pw_blkr hT 8 (pc := 103) (lo := [some (pvR 0), some (pvI n1), some (pvI n2), some (pvR q15_), some (pvI i4z339_), some (pvI 0)]) (st := [pvI 0]) (M := M) (z := (pvbs 10 + Int32.toNatClampNeg i4z339_)) rfl ⟨trivial, trivial, trivial, trivial, rfl, rfl, trivial, ⟨rfl, (zr_in (n := 7) b344_ (by decide) (by decide))⟩, trivial⟩ (fun q362_ e364_ => ?_)
                      have k363_ : pvkl q362_ = 3 := pvel_10 (zr_in (n := 7) b344_ (by decide) (by decide)) e364_
                      have b365_ : 0 ≤ Int32.toInt (M.1 q362_ 5) ∧ Int32.toInt (M.1 q362_ 5) ≤ 1 := pvok_r hok q362_ 5 ((pvrg_o 5 k363_ (by decide) (by decide)).trans rfl)
                      refine pw_blk hT 1 (S' := (106, [some (pvR 0), some (pvI n1), some (pvI n2), some (pvR q15_), some (pvI i4z339_), some (pvI 0)], [pvI (M.1 q362_ 5), pvI 0], M)) rfl ⟨k363_, trivial⟩ ?_
                      refine pw_ic hT (c := 0 = (M.1 q362_ 5)) rfl rfl (fun c366_ => ?_) (fun c366_ => ?_)
                      · have b367_ : 0 ≤ Int32.toInt (M.1 q362_ 5) ∧ Int32.toInt (M.1 q362_ 5) ≤ 0 := (by have u0 := b365_; have u1 := (zi_eq _ _).mp c366_; have u2 := (show 0 ≤ Int32.toInt 0 ∧ Int32.toInt 0 ≤ 0 from (by decide)); omega)
                        obtain ⟨q369_, b368_⟩ : (Int32.toInt (i4z339_ + 1) = Int32.toInt i4z339_ + 1) ∧ (1 ≤ Int32.toInt (i4z339_ + 1) ∧ Int32.toInt (i4z339_ + 1) ≤ 7) := zadd_k i4z339_ 1 1 1 7 b344_ (by decide) (by decide) (by decide) (by decide) (by decide)
                        refine pw_blk hT 2 (S' := (37, [some (pvR 0), some (pvI n1), some (pvI n2), some (pvR q15_), some (pvI (i4z339_ + 1)), some (pvI 0)], [], M)) rfl ⟨trivial, trivial, trivial⟩ ?_
                        exact ihz339_ (i4z339_ + 1) (some (pvI 0)) (zr_wide b368_ (by decide) (by decide)) (zhid (pvms_up (zshow hmz339_) h4z339_ q369_ (by decide) (by decide)))
                      · have b370_ : 1 ≤ Int32.toInt (M.1 q362_ 5) ∧ Int32.toInt (M.1 q362_ 5) ≤ 1 := (by have u0 := b365_; have u1 := (not_congr (zi_eq _ _)).mp c366_; have u2 := (show 0 ≤ Int32.toInt 0 ∧ Int32.toInt 0 ≤ 0 from (by decide)); omega)
                        refine pw_blk hT 1 (S' := (111, [some (pvR 0), some (pvI n1), some (pvI n2), some (pvR q15_), some (pvI i4z339_), some (pvI 0)], [pvI i4z339_], M)) rfl ⟨trivial, trivial⟩ ?_
                        exact pw_ret hT rfl (r := some (pvI i4z339_)) (M' := M) ⟨rfl, rfl⟩ ⟨⟨_, rfl, (zr_wide b344_ (by decide) (by decide))⟩, rfl⟩
                    · refine pw_blkr hT 9 (pc := 103) (lo := [some (pvR 0), some (pvI n1), some (pvI n2), some (pvR q15_), some (pvI i4z339_), some (pvI 1)]) (st := [pvI 1]) (M := M) (z := (pvbs 10 + Int32.toNatClampNeg i4z339_)) rfl ⟨trivial, trivial, trivial, trivial, trivial, rfl, rfl, trivial, ⟨rfl, (zr_in (n := 7) b344_ (by decide) (by decide))⟩, trivial⟩ (fun q371_ e373_ => ?_)
                      have k372_ : pvkl q371_ = 3 := pvel_10 (zr_in (n := 7) b344_ (by decide) (by decide)) e373_
                      have b374_ : 0 ≤ Int32.toInt (M.1 q371_ 5) ∧ Int32.toInt (M.1 q371_ 5) ≤ 1 := pvok_r hok q371_ 5 ((pvrg_o 5 k372_ (by decide) (by decide)).trans rfl)
                      refine pw_blk hT 1 (S' := (106, [some (pvR 0), some (pvI n1), some (pvI n2), some (pvR q15_), some (pvI i4z339_), some (pvI 1)], [pvI (M.1 q371_ 5), pvI 1], M)) rfl ⟨k372_, trivial⟩ ?_
                      refine pw_ic hT (c := 1 = (M.1 q371_ 5)) rfl rfl (fun c375_ => ?_) (fun c375_ => ?_)
                      · have b376_ : 1 ≤ Int32.toInt (M.1 q371_ 5) ∧ Int32.toInt (M.1 q371_ 5) ≤ 1 := (by have u0 := b374_; have u1 := (zi_eq _ _).mp c375_; have u2 := (show 1 ≤ Int32.toInt 1 ∧ Int32.toInt 1 ≤ 1 from (by decide)); omega)
                        obtain ⟨q378_, b377_⟩ : (Int32.toInt (i4z339_ + 1) = Int32.toInt i4z339_ + 1) ∧ (1 ≤ Int32.toInt (i4z339_ + 1) ∧ Int32.toInt (i4z339_ + 1) ≤ 7) := zadd_k i4z339_ 1 1 1 7 b344_ (by decide) (by decide) (by decide) (by decide) (by decide)
                        refine pw_blk hT 2 (S' := (37, [some (pvR 0), some (pvI n1), some (pvI n2), some (pvR q15_), some (pvI (i4z339_ + 1)), some (pvI 1)], [], M)) rfl ⟨trivial, trivial, trivial⟩ ?_
                        exact ihz339_ (i4z339_ + 1) (some (pvI 1)) (zr_wide b377_ (by decide) (by decide)) (zhid (pvms_up (zshow hmz339_) h4z339_ q378_ (by decide) (by decide)))
                      · have b379_ : 0 ≤ Int32.toInt (M.1 q371_ 5) ∧ Int32.toInt (M.1 q371_ 5) ≤ 0 := (by have u0 := b374_; have u1 := (not_congr (zi_eq _ _)).mp c375_; have u2 := (show 1 ≤ Int32.toInt 1 ∧ Int32.toInt 1 ≤ 1 from (by decide)); omega)
                        refine pw_blk hT 1 (S' := (111, [some (pvR 0), some (pvI n1), some (pvI n2), some (pvR q15_), some (pvI i4z339_), some (pvI 1)], [pvI i4z339_], M)) rfl ⟨trivial, trivial⟩ ?_
                        exact pw_ret hT rfl (r := some (pvI i4z339_)) (M' := M) ⟨rfl, rfl⟩ ⟨⟨_, rfl, (zr_wide b344_ (by decide) (by decide))⟩, rfl⟩
                  · have d380_ : Int32.toInt n2 ≥ Int32.toInt ((M.1 q15_ 1) - i4z339_) := Int.not_lt.mp ((not_congr (zi_lt _ _)).mp c354_)
                    obtain ⟨q382_, b381_⟩ : (Int32.toInt (100 + i4z339_) = 100 + Int32.toInt i4z339_) ∧ (100 ≤ Int32.toInt (100 + i4z339_) ∧ Int32.toInt (100 + i4z339_) ≤ 106) := zadd_q 100 i4z339_ 100 100 106 b344_ (by decide) (by decide) (by decide) (by decide) (by decide)
                    refine pw_blk hT 3 (S' := (69, [some (pvR 0), some (pvI n1), some (pvI n2), some (pvR q15_), some (pvI i4z339_), v5z339_], [pvI (100 + i4z339_)], M)) rfl ⟨trivial, trivial, trivial, trivial⟩ ?_
                    exact pw_ret hT rfl (r := some (pvI (100 + i4z339_))) (M' := M) ⟨rfl, rfl⟩ ⟨⟨_, rfl, (zr_wide b381_ (by decide) (by decide))⟩, rfl⟩
          exact hlz339_ _ 0 none (zr_wide (show 0 ≤ Int32.toInt 0 ∧ Int32.toInt 0 ≤ 0 from (by decide)) (by decide) (by decide)) (zhid (Nat.lt_succ_self _))
        · have b383_ : 0 ≤ Int32.toInt (M.1 q15_ 0) ∧ Int32.toInt (M.1 q15_ 0) ≤ 3 := (by have u0 := b203_; have u1 := (not_congr (zi_eq _ _)).mp c205_; have u2 := (show 4 ≤ Int32.toInt 4 ∧ Int32.toInt 4 ≤ 4 from (by decide)); omega)
          refine pw_blk hT 1 (S' := (33, [some (pvR 0), some (pvI n1), some (pvI n2), some (pvR q15_), none, none], [pvI (-12)], M)) rfl ⟨trivial, trivial⟩ ?_
          exact pw_ret hT rfl (r := some (pvI (-12))) (M' := M) ⟨rfl, rfl⟩ ⟨⟨_, rfl, (zr_wide (show (-12) ≤ Int32.toInt (-12) ∧ Int32.toInt (-12) ≤ (-12) from (by decide)) (by decide) (by decide))⟩, rfl⟩
def fpL_X1_costOfRound_5_x : List (Nat × Nat × Nat) := [(0, 12, 0)]
def fp_X1_costOfRound_5_x (q k : Nat) : Bool := pvfp fpL_X1_costOfRound_5_x q k
theorem fp_X1_costOfRound_5_x_fp_X1_goRound_5_x (a b : Nat) (h : fp_X1_goRound_5_x a b = true) : fp_X1_costOfRound_5_x a b = true := pvfp_sub (l1 := fpL_X1_goRound_5_x) (l2 := fpL_X1_costOfRound_5_x) (by decide) a b h
theorem fp_X1_costOfRound_5_x_fp_X1_nobodyShuts_5 (a b : Nat) (h : fp_X1_nobodyShuts_5 a b = true) : fp_X1_costOfRound_5_x a b = true := pvfp_sub (l1 := fpL_X1_nobodyShuts_5) (l2 := fpL_X1_costOfRound_5_x) (by decide) a b h
set_option maxHeartbeats 4000000 in
set_option maxRecDepth 10000 in
theorem sf_X1_costOfRound_5_x (M : pvM) (hok : pvOk M) (n1 : Int32) (hn1 : 0 ≤ Int32.toInt n1 ∧ Int32.toInt n1 ≤ 60) (d : Nat) : PW 105 d (0, [some (pvR 5), some (pvI n1)], [], M) (fun r X => (∃ x : Int32, r = some (pvI x) ∧ True) ∧ pvOk X ∧ pvFr fp_X1_costOfRound_5_x M X) := by
  have hT : pvdom 105 = pvD_105 := rfl
  refine pw_blk hT 1 (S' := (1, [some (pvR 5), some (pvI n1)], [pvR 5], M)) rfl ⟨trivial, trivial⟩ ?_
  refine pw_callV hT (as := [pvR 5]) (lo1 := [some (pvR 5), none]) (d1 := d) (rest := []) rfl rfl rfl rfl rfl (fun _ => rfl) (Nat.zero_le _) rfl rfl rfl (sf_X1_nobodyShuts_5 M hok d) (fun M2_ o4_ g5_ => ?_)
  have f6_ : pvFr fp_X1_costOfRound_5_x M M2_ := pvfr_t g5_ pvfr_0 fp_X1_costOfRound_5_x_fp_X1_nobodyShuts_5
  refine pw_blk hT 2 (S' := (6, [some (pvR 5), some (pvI n1)], [pvI n1, pvR 5], M2_)) rfl ⟨trivial, trivial, trivial⟩ ?_
  refine pw_callG hT (as := [pvR 5, pvI n1]) (lo1 := [some (pvR 5), some (pvI n1)]) (d1 := d) (rest := []) rfl rfl rfl rfl rfl (fun _ => rfl) (Nat.zero_le _) rfl rfl rfl (sf_X1_goRound_5_x M2_ o4_ n1 hn1 d) (fun x7_ M8_ b9_ o10_ g11_ => ?_)
  have f12_ : pvFr fp_X1_costOfRound_5_x M M8_ := pvfr_t g11_ f6_ fp_X1_costOfRound_5_x_fp_X1_goRound_5_x
  refine pw_blk hT 2 (S' := (11, [some (pvR 5), some (pvI n1)], [pvR 5], M8_)) rfl ⟨trivial, trivial, trivial⟩ ?_
  refine pw_callGp hT (as := [pvR 5]) (lo1 := [some (pvR 5)]) (d1 := d) (rest := []) rfl rfl rfl rfl rfl (fun _ => rfl) (Nat.zero_le _) rfl rfl rfl (sf_X1_cost_5 M8_ o10_ d) (fun x13_ b15_ => ?_)
  exact pw_ret hT rfl (r := some (pvI x13_)) (M' := M8_) ⟨rfl, rfl⟩ ⟨⟨_, rfl, trivial⟩, o10_, f12_⟩
def fpL_X9_late_0_x : List (Nat × Nat × Nat) := [(0, 12, 0), (0, 13, 0), (0, 14, 0), (0, 5, 2), (0, 5, 3), (1, 112, 0)]
def fp_X9_late_0_x (q k : Nat) : Bool := pvfp fpL_X9_late_0_x q k
theorem fp_X9_late_0_x_fp_X1_beginFromNow_5 (a b : Nat) (h : fp_X1_beginFromNow_5 a b = true) : fp_X9_late_0_x a b = true := pvfp_sub (l1 := fpL_X1_beginFromNow_5) (l2 := fpL_X9_late_0_x) (by decide) a b h
theorem fp_X9_late_0_x_fp_X1_costOfRound_5_x (a b : Nat) (h : fp_X1_costOfRound_5_x a b = true) : fp_X9_late_0_x a b = true := pvfp_sub (l1 := fpL_X1_costOfRound_5_x) (l2 := fpL_X9_late_0_x) (by decide) a b h
set_option maxHeartbeats 4000000 in
set_option maxRecDepth 10000 in
theorem sf_X9_late_0_x (M : pvM) (hok : pvOk M) (n1 : Int32) (d : Nat) : PW 183 d (0, [some (pvR 0), some (pvI n1), none], [], M) (fun r X => (∃ x : Int32, r = some (pvI x) ∧ (-5) ≤ Int32.toInt x ∧ Int32.toInt x ≤ 60) ∧ pvOk X ∧ pvFr fp_X9_late_0_x M X) := by
  have hT : pvdom 183 = pvD_183 := rfl
  refine pw_blk hT 3 (S' := (4, [some (pvR 0), some (pvI n1), none], [pvI 99999, pvI 0, pvI n1], M)) rfl ⟨trivial, trivial, trivial, trivial⟩ ?_
  refine pw_callT hT (as := [pvI n1, pvI 0, pvI 99999]) (lo1 := [some (pvI n1), some (pvI 0), some (pvI 99999)]) (d1 := d) (rest := []) rfl rfl rfl rfl rfl (fun h => absurd h (by decide)) (Nat.zero_le _) rfl rfl rfl (sf_X9_within_x_x_x M hok n1 0 99999 d) ?_
  by_cases c6_ : n1 < 0
  · refine pw_eqI (if_pos c6_) ?_
    have b7_ : (-2147483648) ≤ Int32.toInt n1 ∧ Int32.toInt n1 ≤ (-1) := zr_lt_l (-1) c6_ (zbnd n1) (show 0 ≤ Int32.toInt 0 ∧ Int32.toInt 0 ≤ 0 from (by decide)) (by decide)
    show PW 183 d (7, [some (pvR 0), some (pvI n1), none], [pvI 0], M) _
    refine pw_ifn hT (c := 0 = 0) rfl rfl (fun c8_ => absurd (by decide) c8_) (fun c8_ => ?_)
    refine pw_blk hT 1 (S' := (12, [some (pvR 0), some (pvI n1), none], [pvI (-2)], M)) rfl ⟨trivial, trivial⟩ ?_
    exact pw_ret hT rfl (r := some (pvI (-2))) (M' := M) ⟨rfl, rfl⟩ ⟨⟨_, rfl, (zr_wide (show (-2) ≤ Int32.toInt (-2) ∧ Int32.toInt (-2) ≤ (-2) from (by decide)) (by decide) (by decide))⟩, hok, pvfr_0⟩
  · refine pw_eqI (if_neg c6_) ?_
    have b9_ : 0 ≤ Int32.toInt n1 ∧ Int32.toInt n1 ≤ 2147483647 := zr_nlt_l 0 c6_ (zbnd n1) (show 0 ≤ Int32.toInt 0 ∧ Int32.toInt 0 ≤ 0 from (by decide)) (by decide)
    by_cases c10_ : 99999 < n1
    · refine pw_eqI (if_pos c10_) ?_
      have b11_ : 100000 ≤ Int32.toInt n1 ∧ Int32.toInt n1 ≤ 2147483647 := zr_lt_r 100000 c10_ b9_ (show 99999 ≤ Int32.toInt 99999 ∧ Int32.toInt 99999 ≤ 99999 from (by decide)) (by decide)
      show PW 183 d (7, [some (pvR 0), some (pvI n1), none], [pvI 0], M) _
      refine pw_ifn hT (c := 0 = 0) rfl rfl (fun c12_ => absurd (by decide) c12_) (fun c12_ => ?_)
      refine pw_blk hT 1 (S' := (12, [some (pvR 0), some (pvI n1), none], [pvI (-2)], M)) rfl ⟨trivial, trivial⟩ ?_
      exact pw_ret hT rfl (r := some (pvI (-2))) (M' := M) ⟨rfl, rfl⟩ ⟨⟨_, rfl, (zr_wide (show (-2) ≤ Int32.toInt (-2) ∧ Int32.toInt (-2) ≤ (-2) from (by decide)) (by decide) (by decide))⟩, hok, pvfr_0⟩
    · refine pw_eqI (if_neg c10_) ?_
      have b13_ : 0 ≤ Int32.toInt n1 ∧ Int32.toInt n1 ≤ 99999 := zr_nlt_r 99999 c10_ b9_ (show 99999 ≤ Int32.toInt 99999 ∧ Int32.toInt 99999 ≤ 99999 from (by decide)) (by decide)
      show PW 183 d (7, [some (pvR 0), some (pvI n1), none], [pvI 1], M) _
      refine pw_ifn hT (c := 1 = 0) rfl rfl (fun c14_ => ?_) (fun c14_ => absurd c14_ (by decide))
      refine pw_blk hT 2 (S' := (17, [some (pvR 0), some (pvI n1), none], [pvR 5], M)) rfl ⟨trivial, rfl, trivial⟩ ?_
      refine pw_callV hT (as := [pvR 5]) (lo1 := [some (pvR 5)]) (d1 := d) (rest := []) rfl rfl rfl rfl rfl (fun _ => rfl) (Nat.zero_le _) rfl rfl rfl (sf_X1_beginFromNow_5 M hok d) (fun M16_ o18_ g19_ => ?_)
      have f20_ : pvFr fp_X9_late_0_x M M16_ := pvfr_t g19_ pvfr_0 fp_X9_late_0_x_fp_X1_beginFromNow_5
      refine pw_blk hT 2 (S' := (23, [some (pvR 0), some (pvI n1), some (pvI 60)], [], M16_)) rfl ⟨trivial, trivial, trivial⟩ ?_
      have hlz87_ : ∀ (nz87_ : Nat) (i2z87_ : Int32) (Mz87_ : pvM), (pvOk Mz87_) → (pvFr fp_X9_late_0_x M Mz87_) → ((-1) ≤ Int32.toInt i2z87_ ∧ Int32.toInt i2z87_ ≤ 60) → (zhide ((Int32.toInt i2z87_ + 2).toNat < nz87_)) → PW 183 d (23, [some (pvR 0), some (pvI n1), some (pvI i2z87_)], [], Mz87_) (fun r X => (∃ x : Int32, r = some (pvI x) ∧ (-5) ≤ Int32.toInt x ∧ Int32.toInt x ≤ 60) ∧ pvOk X ∧ pvFr fp_X9_late_0_x M X) := by
        intro nz87_
        induction nz87_ with
        | zero => intro i2z87_ Mz87_ oz87_ fz87_ h2z87_ hmz87_; exact absurd (zshow hmz87_) (Nat.not_lt_zero _)
        | succ nz87_ ihz87_ =>
          intro i2z87_ Mz87_ oz87_ fz87_ h2z87_ hmz87_
          refine pw_blk hT 1 (S' := (24, [some (pvR 0), some (pvI n1), some (pvI i2z87_)], [pvI i2z87_], Mz87_)) rfl ⟨trivial, trivial⟩ ?_
          refine pw_if hT (c := i2z87_ < 0) rfl rfl (fun c88_ => ?_) (fun c88_ => ?_)
          · have b89_ : (-1) ≤ Int32.toInt i2z87_ ∧ Int32.toInt i2z87_ ≤ (-1) := zr_lt_l (-1) c88_ h2z87_ (show 0 ≤ Int32.toInt 0 ∧ Int32.toInt 0 ≤ 0 from (by decide)) (by decide)
            refine pw_blk hT 1 (S' := (49, [some (pvR 0), some (pvI n1), some (pvI i2z87_)], [pvI (-5)], Mz87_)) rfl ⟨trivial, trivial⟩ ?_
            exact pw_ret hT rfl (r := some (pvI (-5))) (M' := Mz87_) ⟨rfl, rfl⟩ ⟨⟨_, rfl, (zr_wide (show (-5) ≤ Int32.toInt (-5) ∧ Int32.toInt (-5) ≤ (-5) from (by decide)) (by decide) (by decide))⟩, oz87_, fz87_⟩
          · have b90_ : 0 ≤ Int32.toInt i2z87_ ∧ Int32.toInt i2z87_ ≤ 60 := zr_nlt_l 0 c88_ h2z87_ (show 0 ≤ Int32.toInt 0 ∧ Int32.toInt 0 ≤ 0 from (by decide)) (by decide)
            refine pw_blk hT 3 (S' := (32, [some (pvR 0), some (pvI n1), some (pvI i2z87_)], [pvI i2z87_, pvR 5], Mz87_)) rfl ⟨trivial, rfl, trivial, trivial⟩ ?_
            refine pw_callG hT (as := [pvR 5, pvI i2z87_]) (lo1 := [some (pvR 5), some (pvI i2z87_)]) (d1 := d) (rest := []) rfl rfl rfl rfl rfl (fun _ => rfl) (Nat.zero_le _) rfl rfl rfl (sf_X1_costOfRound_5_x Mz87_ oz87_ i2z87_ b90_ d) (fun x91_ M92_ b93_ o94_ g95_ => ?_)
            have f96_ : pvFr fp_X9_late_0_x M M92_ := pvfr_t g95_ fz87_ fp_X9_late_0_x_fp_X1_costOfRound_5_x
            refine pw_blk hT 1 (S' := (36, [some (pvR 0), some (pvI n1), some (pvI i2z87_)], [pvI n1, pvI x91_], M92_)) rfl ⟨trivial, trivial⟩ ?_
            refine pw_ic hT (c := n1 < x91_) rfl rfl (fun c97_ => ?_) (fun c97_ => ?_)
            · have b98_ : 1 ≤ Int32.toInt x91_ ∧ Int32.toInt x91_ ≤ 2147483647 := zr_lt_r 1 c97_ (zbnd x91_) b13_ (by decide)
              have d99_ : Int32.toInt n1 < Int32.toInt x91_ := (zi_lt _ _).mp c97_
              obtain ⟨q101_, b100_⟩ : (Int32.toInt (i2z87_ + (-1)) = Int32.toInt i2z87_ + (-1)) ∧ ((-1) ≤ Int32.toInt (i2z87_ + (-1)) ∧ Int32.toInt (i2z87_ + (-1)) ≤ 59) := zadd_k i2z87_ (-1) (-1) (-1) 59 b90_ (by decide) (by decide) (by decide) (by decide) (by decide)
              refine pw_blk hT 2 (S' := (23, [some (pvR 0), some (pvI n1), some (pvI (i2z87_ + (-1)))], [], M92_)) rfl ⟨trivial, trivial, trivial⟩ ?_
              exact ihz87_ (i2z87_ + (-1)) M92_ o94_ f96_ (zr_wide b100_ (by decide) (by decide)) (zhid (pvms_dn (zshow hmz87_) h2z87_ q101_ (by decide) (by decide)))
            · have b102_ : (-2147483648) ≤ Int32.toInt x91_ ∧ Int32.toInt x91_ ≤ 99999 := zr_nlt_r 99999 c97_ (zbnd x91_) b13_ (by decide)
              have d103_ : Int32.toInt n1 ≥ Int32.toInt x91_ := Int.not_lt.mp ((not_congr (zi_lt _ _)).mp c97_)
              refine pw_blk hT 1 (S' := (40, [some (pvR 0), some (pvI n1), some (pvI i2z87_)], [pvI i2z87_], M92_)) rfl ⟨trivial, trivial⟩ ?_
              exact pw_ret hT rfl (r := some (pvI i2z87_)) (M' := M92_) ⟨rfl, rfl⟩ ⟨⟨_, rfl, (zr_wide b90_ (by decide) (by decide))⟩, o94_, f96_⟩
      exact hlz87_ _ 60 M16_ o18_ f20_ (zr_wide (show 60 ≤ Int32.toInt 60 ∧ Int32.toInt 60 ≤ 60 from (by decide)) (by decide) (by decide)) (zhid (Nat.lt_succ_self _))
def fpL_X1_costWithout_5_x : List (Nat × Nat × Nat) := [(0, 106, 1), (0, 114, 0), (0, 12, 0), (0, 122, 0)]
def fp_X1_costWithout_5_x (q k : Nat) : Bool := pvfp fpL_X1_costWithout_5_x q k
theorem fp_X1_costWithout_5_x_fp_X1_costOfTried_5 (a b : Nat) (h : fp_X1_costOfTried_5 a b = true) : fp_X1_costWithout_5_x a b = true := pvfp_sub (l1 := fpL_X1_costOfTried_5) (l2 := fpL_X1_costWithout_5_x) (by decide) a b h
theorem fp_X1_costWithout_5_x_fp_X6_append_106_x_x (a b : Nat) (h : fp_X6_append_106_x_x a b = true) : fp_X1_costWithout_5_x a b = true := pvfp_sub (l1 := fpL_X6_append_106_x_x) (l2 := fpL_X1_costWithout_5_x) (by decide) a b h
theorem fp_X1_costWithout_5_x_fp_X6_clear_106 (a b : Nat) (h : fp_X6_clear_106 a b = true) : fp_X1_costWithout_5_x a b = true := pvfp_sub (l1 := fpL_X6_clear_106) (l2 := fpL_X1_costWithout_5_x) (by decide) a b h
set_option maxHeartbeats 4000000 in
set_option maxRecDepth 10000 in
theorem sf_X1_costWithout_5_x (M : pvM) (hok : pvOk M) (n1 : Int32) (hn1 : 0 ≤ Int32.toInt n1 ∧ Int32.toInt n1 ≤ 6) (d : Nat) : PW 107 d (0, [some (pvR 5), some (pvI n1), none], [], M) (fun r X => (∃ x : Int32, r = some (pvI x) ∧ True) ∧ pvOk X ∧ pvFr fp_X1_costWithout_5_x M X) := by
  have hT : pvdom 107 = pvD_107 := rfl
  refine pw_blk hT 2 (S' := (4, [some (pvR 5), some (pvI n1), none], [pvR 106], M)) rfl ⟨trivial, rfl, trivial⟩ ?_
  refine pw_callG hT (as := [pvR 106]) (lo1 := [some (pvR 106)]) (d1 := d) (rest := []) rfl rfl rfl rfl rfl (fun _ => rfl) (Nat.zero_le _) rfl rfl rfl (sf_X6_clear_106 M hok d) (fun x1_ M2_ b3_ o4_ g5_ => ?_)
  have f6_ : pvFr fp_X1_costWithout_5_x M M2_ := pvfr_t g5_ pvfr_0 fp_X1_costWithout_5_x_fp_X6_clear_106
  refine pw_blk hT 3 (S' := (10, [some (pvR 5), some (pvI n1), some (pvI 0)], [], M2_)) rfl ⟨trivial, trivial, trivial, trivial⟩ ?_
  have hlz115_ : ∀ (nz115_ : Nat) (i2z115_ : Int32) (Mz115_ : pvM), (pvOk Mz115_) → (pvFr fp_X1_costWithout_5_x M Mz115_) → (0 ≤ Int32.toInt i2z115_ ∧ Int32.toInt i2z115_ ≤ 7) → (zhide ((8 - Int32.toInt i2z115_).toNat < nz115_)) → PW 107 d (10, [some (pvR 5), some (pvI n1), some (pvI i2z115_)], [], Mz115_) (fun r X => (∃ x : Int32, r = some (pvI x) ∧ True) ∧ pvOk X ∧ pvFr fp_X1_costWithout_5_x M X) := by
    intro nz115_
    induction nz115_ with
    | zero => intro i2z115_ Mz115_ oz115_ fz115_ h2z115_ hmz115_; exact absurd (zshow hmz115_) (Nat.not_lt_zero _)
    | succ nz115_ ihz115_ =>
      intro i2z115_ Mz115_ oz115_ fz115_ h2z115_ hmz115_
      have b116_ : 0 ≤ Int32.toInt (Mz115_.1 100 0) ∧ Int32.toInt (Mz115_.1 100 0) ≤ 7 := pvok_r oz115_ 100 0 rfl
      refine pw_blk hT 5 (S' := (21, [some (pvR 5), some (pvI n1), some (pvI i2z115_)], [pvI (Mz115_.1 100 0), pvI i2z115_], Mz115_)) rfl ⟨trivial, trivial, rfl, rfl, rfl, trivial⟩ ?_
      refine pw_ic hT (c := (Mz115_.1 100 0) ≤ i2z115_) rfl rfl (fun c117_ => ?_) (fun c117_ => ?_)
      · have d118_ : Int32.toInt (Mz115_.1 100 0) ≤ Int32.toInt i2z115_ := (zi_le _ _).mp c117_
        refine pw_blk hT 1 (S' := (57, [some (pvR 5), some (pvI n1), some (pvI i2z115_)], [pvR 5], Mz115_)) rfl ⟨trivial, trivial⟩ ?_
        refine pw_callG hT (as := [pvR 5]) (lo1 := [some (pvR 5)]) (d1 := d) (rest := []) rfl rfl rfl rfl rfl (fun _ => rfl) (Nat.zero_le _) rfl rfl rfl (sf_X1_costOfTried_5 Mz115_ oz115_ d) (fun x119_ M120_ b121_ o122_ g123_ => ?_)
        have f124_ : pvFr fp_X1_costWithout_5_x M M120_ := pvfr_t g123_ fz115_ fp_X1_costWithout_5_x_fp_X1_costOfTried_5
        exact pw_ret hT rfl (r := some (pvI x119_)) (M' := M120_) ⟨rfl, rfl⟩ ⟨⟨_, rfl, trivial⟩, o122_, f124_⟩
      · have b125_ : 1 ≤ Int32.toInt (Mz115_.1 100 0) ∧ Int32.toInt (Mz115_.1 100 0) ≤ 7 := zr_nle_l 1 c117_ b116_ h2z115_ (by decide)
        have b126_ : 0 ≤ Int32.toInt i2z115_ ∧ Int32.toInt i2z115_ ≤ 6 := zr_nle_r 6 c117_ h2z115_ b125_ (by decide)
        have d127_ : Int32.toInt (Mz115_.1 100 0) > Int32.toInt i2z115_ := Int.not_le.mp ((not_congr (zi_le _ _)).mp c117_)
        refine pw_blk hT 2 (S' := (26, [some (pvR 5), some (pvI n1), some (pvI i2z115_)], [pvI n1, pvI i2z115_], Mz115_)) rfl ⟨trivial, trivial, trivial⟩ ?_
        refine pw_ic hT (c := i2z115_ = n1) rfl rfl (fun c128_ => ?_) (fun c128_ => ?_)
        · have d129_ : Int32.toInt i2z115_ = Int32.toInt n1 := (zi_eq _ _).mp c128_
          obtain ⟨q131_, b130_⟩ : (Int32.toInt (i2z115_ + 1) = Int32.toInt i2z115_ + 1) ∧ (1 ≤ Int32.toInt (i2z115_ + 1) ∧ Int32.toInt (i2z115_ + 1) ≤ 7) := zadd_k i2z115_ 1 1 1 7 b126_ (by decide) (by decide) (by decide) (by decide) (by decide)
          refine pw_blk hT 2 (S' := (10, [some (pvR 5), some (pvI n1), some (pvI (i2z115_ + 1))], [], Mz115_)) rfl ⟨trivial, trivial, trivial⟩ ?_
          exact ihz115_ (i2z115_ + 1) Mz115_ oz115_ fz115_ (zr_wide b130_ (by decide) (by decide)) (zhid (pvms_up (zshow hmz115_) h2z115_ q131_ (by decide) (by decide)))
        · have b132_ : 0 ≤ Int32.toInt (Mz115_.1 108 (Int32.toNatClampNeg i2z115_)) ∧ Int32.toInt (Mz115_.1 108 (Int32.toNatClampNeg i2z115_)) ≤ 6 := pvok_r oz115_ 108 (Int32.toNatClampNeg i2z115_) rfl
          refine pw_blk hT 9 (S' := (46, [some (pvR 5), some (pvI n1), some (pvI i2z115_)], [pvI 0, pvI (Mz115_.1 108 (Int32.toNatClampNeg i2z115_)), pvR 106], Mz115_)) rfl ⟨trivial, rfl, trivial, rfl, rfl, rfl, trivial, ⟨rfl, (zr_in (n := 7) b126_ (by decide) (by decide))⟩, trivial, trivial⟩ ?_
          refine pw_callG hT (as := [pvR 106, pvI (Mz115_.1 108 (Int32.toNatClampNeg i2z115_)), pvI 0]) (lo1 := [some (pvR 106), some (pvI (Mz115_.1 108 (Int32.toNatClampNeg i2z115_))), some (pvI 0)]) (d1 := d) (rest := []) rfl rfl rfl rfl rfl (fun _ => rfl) (Nat.zero_le _) rfl rfl rfl (sf_X6_append_106_x_x Mz115_ oz115_ (Mz115_.1 108 (Int32.toNatClampNeg i2z115_)) 0 b132_ (zr_wide (show 0 ≤ Int32.toInt 0 ∧ Int32.toInt 0 ≤ 0 from (by decide)) (by decide) (by decide)) d) (fun x133_ M134_ b135_ o136_ g137_ => ?_)
          have f138_ : pvFr fp_X1_costWithout_5_x M M134_ := pvfr_t g137_ fz115_ fp_X1_costWithout_5_x_fp_X6_append_106_x_x
          obtain ⟨q140_, b139_⟩ : (Int32.toInt (i2z115_ + 1) = Int32.toInt i2z115_ + 1) ∧ (1 ≤ Int32.toInt (i2z115_ + 1) ∧ Int32.toInt (i2z115_ + 1) ≤ 7) := zadd_k i2z115_ 1 1 1 7 b126_ (by decide) (by decide) (by decide) (by decide) (by decide)
          refine pw_blk hT 3 (S' := (10, [some (pvR 5), some (pvI n1), some (pvI (i2z115_ + 1))], [], M134_)) rfl ⟨trivial, trivial, trivial, trivial⟩ ?_
          exact ihz115_ (i2z115_ + 1) M134_ o136_ f138_ (zr_wide b139_ (by decide) (by decide)) (zhid (pvms_up (zshow hmz115_) h2z115_ q140_ (by decide) (by decide)))
  exact hlz115_ _ 0 M2_ o4_ f6_ (zr_wide (show 0 ≤ Int32.toInt 0 ∧ Int32.toInt 0 ≤ 0 from (by decide)) (by decide) (by decide)) (zhid (Nat.lt_succ_self _))
def fpL_X9_leave_0 : List (Nat × Nat × Nat) := [(0, 106, 1), (0, 114, 0), (0, 12, 0), (0, 122, 0), (0, 13, 0), (0, 14, 0), (0, 5, 2), (0, 5, 3), (1, 112, 0)]
def fp_X9_leave_0 (q k : Nat) : Bool := pvfp fpL_X9_leave_0 q k
theorem fp_X9_leave_0_fp_X1_beginFromNow_5 (a b : Nat) (h : fp_X1_beginFromNow_5 a b = true) : fp_X9_leave_0 a b = true := pvfp_sub (l1 := fpL_X1_beginFromNow_5) (l2 := fpL_X9_leave_0) (by decide) a b h
theorem fp_X9_leave_0_fp_X1_costOfRound_5_x (a b : Nat) (h : fp_X1_costOfRound_5_x a b = true) : fp_X9_leave_0 a b = true := pvfp_sub (l1 := fpL_X1_costOfRound_5_x) (l2 := fpL_X9_leave_0) (by decide) a b h
theorem fp_X9_leave_0_fp_X1_costWithout_5_x (a b : Nat) (h : fp_X1_costWithout_5_x a b = true) : fp_X9_leave_0 a b = true := pvfp_sub (l1 := fpL_X1_costWithout_5_x) (l2 := fpL_X9_leave_0) (by decide) a b h
set_option maxHeartbeats 4000000 in
set_option maxRecDepth 10000 in
theorem sf_X9_leave_0 (M : pvM) (hok : pvOk M) (d : Nat) : PW 184 d (0, [some (pvR 0), none, none, none], [], M) (fun r X => (∃ x : Int32, r = some (pvI x) ∧ True) ∧ pvOk X ∧ pvFr fp_X9_leave_0 M X) := by
  have hT : pvdom 184 = pvD_184 := rfl
  refine pw_blk hT 2 (S' := (4, [some (pvR 0), none, none, none], [pvR 5], M)) rfl ⟨trivial, rfl, trivial⟩ ?_
  refine pw_callV hT (as := [pvR 5]) (lo1 := [some (pvR 5)]) (d1 := d) (rest := []) rfl rfl rfl rfl rfl (fun _ => rfl) (Nat.zero_le _) rfl rfl rfl (sf_X1_beginFromNow_5 M hok d) (fun M2_ o4_ g5_ => ?_)
  have f6_ : pvFr fp_X9_leave_0 M M2_ := pvfr_t g5_ pvfr_0 fp_X9_leave_0_fp_X1_beginFromNow_5
  refine pw_blk hT 3 (S' := (12, [some (pvR 0), none, none, none], [pvI 0, pvR 5], M2_)) rfl ⟨trivial, rfl, trivial, trivial⟩ ?_
  refine pw_callG hT (as := [pvR 5, pvI 0]) (lo1 := [some (pvR 5), some (pvI 0)]) (d1 := d) (rest := []) rfl rfl rfl rfl rfl (fun _ => rfl) (Nat.zero_le _) rfl rfl rfl (sf_X1_costOfRound_5_x M2_ o4_ 0 (zr_wide (show 0 ≤ Int32.toInt 0 ∧ Int32.toInt 0 ≤ 0 from (by decide)) (by decide) (by decide)) d) (fun x7_ M8_ b9_ o10_ g11_ => ?_)
  have f12_ : pvFr fp_X9_leave_0 M M8_ := pvfr_t g11_ f6_ fp_X9_leave_0_fp_X1_costOfRound_5_x
  refine pw_blk hT 5 (S' := (20, [some (pvR 0), some (pvI x7_), some (pvI 0), some (pvI 0)], [], M8_)) rfl ⟨trivial, trivial, trivial, trivial, trivial, trivial⟩ ?_
  have hlz105_ : ∀ (nz105_ : Nat) (i2z105_ : Int32) (i3z105_ : Int32) (Mz105_ : pvM), (pvOk Mz105_) → (pvFr fp_X9_leave_0 M Mz105_) → (0 ≤ Int32.toInt i3z105_ ∧ Int32.toInt i3z105_ ≤ 7) → (zhide ((8 - Int32.toInt i3z105_).toNat < nz105_)) → PW 184 d (20, [some (pvR 0), some (pvI x7_), some (pvI i2z105_), some (pvI i3z105_)], [], Mz105_) (fun r X => (∃ x : Int32, r = some (pvI x) ∧ True) ∧ pvOk X ∧ pvFr fp_X9_leave_0 M X) := by
    intro nz105_
    induction nz105_ with
    | zero => intro i2z105_ i3z105_ Mz105_ oz105_ fz105_ h3z105_ hmz105_; exact absurd (zshow hmz105_) (Nat.not_lt_zero _)
    | succ nz105_ ihz105_ =>
      intro i2z105_ i3z105_ Mz105_ oz105_ fz105_ h3z105_ hmz105_
      have b106_ : 0 ≤ Int32.toInt (Mz105_.1 100 0) ∧ Int32.toInt (Mz105_.1 100 0) ≤ 7 := pvok_r oz105_ 100 0 rfl
      refine pw_blk hT 5 (S' := (31, [some (pvR 0), some (pvI x7_), some (pvI i2z105_), some (pvI i3z105_)], [pvI (Mz105_.1 100 0), pvI i3z105_], Mz105_)) rfl ⟨trivial, trivial, rfl, rfl, rfl, trivial⟩ ?_
      refine pw_ic hT (c := (Mz105_.1 100 0) ≤ i3z105_) rfl rfl (fun c107_ => ?_) (fun c107_ => ?_)
      · have d108_ : Int32.toInt (Mz105_.1 100 0) ≤ Int32.toInt i3z105_ := (zi_le _ _).mp c107_
        refine pw_blk hT 1 (S' := (70, [some (pvR 0), some (pvI x7_), some (pvI i2z105_), some (pvI i3z105_)], [pvI i2z105_], Mz105_)) rfl ⟨trivial, trivial⟩ ?_
        exact pw_ret hT rfl (r := some (pvI i2z105_)) (M' := Mz105_) ⟨rfl, rfl⟩ ⟨⟨_, rfl, trivial⟩, oz105_, fz105_⟩
      · have b109_ : 1 ≤ Int32.toInt (Mz105_.1 100 0) ∧ Int32.toInt (Mz105_.1 100 0) ≤ 7 := zr_nle_l 1 c107_ b106_ h3z105_ (by decide)
        have b110_ : 0 ≤ Int32.toInt i3z105_ ∧ Int32.toInt i3z105_ ≤ 6 := zr_nle_r 6 c107_ h3z105_ b109_ (by decide)
        have d111_ : Int32.toInt (Mz105_.1 100 0) > Int32.toInt i3z105_ := Int.not_le.mp ((not_congr (zi_le _ _)).mp c107_)
        refine pw_blk hT 3 (S' := (39, [some (pvR 0), some (pvI x7_), some (pvI i2z105_), some (pvI i3z105_)], [pvI i3z105_, pvR 5], Mz105_)) rfl ⟨trivial, rfl, trivial, trivial⟩ ?_
        refine pw_callG hT (as := [pvR 5, pvI i3z105_]) (lo1 := [some (pvR 5), some (pvI i3z105_), none]) (d1 := d) (rest := []) rfl rfl rfl rfl rfl (fun _ => rfl) (Nat.zero_le _) rfl rfl rfl (sf_X1_costWithout_5_x Mz105_ oz105_ i3z105_ b110_ d) (fun x112_ M113_ b114_ o115_ g116_ => ?_)
        have f117_ : pvFr fp_X9_leave_0 M M113_ := pvfr_t g116_ fz105_ fp_X9_leave_0_fp_X1_costWithout_5_x
        refine pw_blk hT 1 (S' := (43, [some (pvR 0), some (pvI x7_), some (pvI i2z105_), some (pvI i3z105_)], [pvI x7_, pvI x112_], M113_)) rfl ⟨trivial, trivial⟩ ?_
        refine pw_ic hT (c := x7_ < x112_) rfl rfl (fun c118_ => ?_) (fun c118_ => ?_)
        · have b119_ : (-2147483648) ≤ Int32.toInt x7_ ∧ Int32.toInt x7_ ≤ 2147483646 := zr_lt_l 2147483646 c118_ (zbnd x7_) (zbnd x112_) (by decide)
          have b120_ : (-2147483647) ≤ Int32.toInt x112_ ∧ Int32.toInt x112_ ≤ 2147483647 := zr_lt_r (-2147483647) c118_ (zbnd x112_) b119_ (by decide)
          have d121_ : Int32.toInt x7_ < Int32.toInt x112_ := (zi_lt _ _).mp c118_
          obtain ⟨q123_, b122_⟩ : (Int32.toInt (i3z105_ + 1) = Int32.toInt i3z105_ + 1) ∧ (1 ≤ Int32.toInt (i3z105_ + 1) ∧ Int32.toInt (i3z105_ + 1) ≤ 7) := zadd_k i3z105_ 1 1 1 7 b110_ (by decide) (by decide) (by decide) (by decide) (by decide)
          refine pw_blk hT 2 (S' := (20, [some (pvR 0), some (pvI x7_), some (pvI i2z105_), some (pvI (i3z105_ + 1))], [], M113_)) rfl ⟨trivial, trivial, trivial⟩ ?_
          exact ihz105_ i2z105_ (i3z105_ + 1) M113_ o115_ f117_ (zr_wide b122_ (by decide) (by decide)) (zhid (pvms_up (zshow hmz105_) h3z105_ q123_ (by decide) (by decide)))
        · have d124_ : Int32.toInt x7_ ≥ Int32.toInt x112_ := Int.not_lt.mp ((not_congr (zi_lt _ _)).mp c118_)
          have b125_ : 0 ≤ Int32.toInt (M113_.1 108 (Int32.toNatClampNeg i3z105_)) ∧ Int32.toInt (M113_.1 108 (Int32.toNatClampNeg i3z105_)) ≤ 6 := pvok_r o115_ 108 (Int32.toNatClampNeg i3z105_) rfl
          obtain ⟨q127_, b126_⟩ : (Int32.toInt (i3z105_ + 1) = Int32.toInt i3z105_ + 1) ∧ (1 ≤ Int32.toInt (i3z105_ + 1) ∧ Int32.toInt (i3z105_ + 1) ≤ 7) := zadd_k i3z105_ 1 1 1 7 b110_ (by decide) (by decide) (by decide) (by decide) (by decide)
          refine pw_blk hT 13 (S' := (20, [some (pvR 0), some (pvI x7_), some (pvI (i2z105_ ||| (1 <<< ((M113_.1 108 (Int32.toNatClampNeg i3z105_)) &&& 31)))), some (pvI (i3z105_ + 1))], [], M113_)) rfl ⟨trivial, trivial, trivial, rfl, rfl, rfl, trivial, ⟨rfl, (zr_in (n := 7) b110_ (by decide) (by decide))⟩, trivial, trivial, trivial, trivial, trivial, trivial⟩ ?_
          exact ihz105_ (i2z105_ ||| (1 <<< ((M113_.1 108 (Int32.toNatClampNeg i3z105_)) &&& 31))) (i3z105_ + 1) M113_ o115_ f117_ (zr_wide b126_ (by decide) (by decide)) (zhid (pvms_up (zshow hmz105_) h3z105_ q127_ (by decide) (by decide)))
  exact hlz105_ _ 0 0 M8_ o10_ f12_ (zr_wide (show 0 ≤ Int32.toInt 0 ∧ Int32.toInt 0 ≤ 0 from (by decide)) (by decide) (by decide)) (zhid (Nat.lt_succ_self _))
