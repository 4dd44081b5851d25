def fpL_X9_looked_0 : List (Nat × Nat × Nat) := [(0, 12, 0), (0, 13, 0), (0, 14, 0), (0, 5, 2), (0, 5, 3), (1, 112, 0)]
def fp_X9_looked_0 (q k : Nat) : Bool := pvfp fpL_X9_looked_0 q k
theorem fp_X9_looked_0_fp_X1_beginFromNow_5 (a b : Nat) (h : fp_X1_beginFromNow_5 a b = true) : fp_X9_looked_0 a b = true := pvfp_sub (l1 := fpL_X1_beginFromNow_5) (l2 := fpL_X9_looked_0) (by decide) a b h
theorem fp_X9_looked_0_fp_X1_goRound_5_x (a b : Nat) (h : fp_X1_goRound_5_x a b = true) : fp_X9_looked_0 a b = true := pvfp_sub (l1 := fpL_X1_goRound_5_x) (l2 := fpL_X9_looked_0) (by decide) a b h
set_option maxHeartbeats 4000000 in
set_option maxRecDepth 10000 in
theorem sf_X9_looked_0 (M : pvM) (hok : pvOk M) (d : Nat) : PW 185 d (0, [some (pvR 0), none], [], M) (fun r X => (∃ x : Int32, r = some (pvI x) ∧ (-5) ≤ Int32.toInt x ∧ Int32.toInt x ≤ 7) ∧ pvOk X ∧ pvFr fp_X9_looked_0 M X) := by
  have hT : pvdom 185 = pvD_185 := rfl
  refine pw_blk hT 2 (S' := (4, [some (pvR 0), none], [pvR 5], M)) rfl ⟨trivial, rfl, trivial⟩ ?_
  refine pw_callV hT (as := [pvR 5]) (lo1 := [some (pvR 5)]) (d1 := d) (rest := []) rfl rfl rfl rfl rfl (fun _ => rfl) (Nat.zero_le _) rfl rfl rfl (sf_X1_beginFromNow_5 M hok d) (fun M2_ o4_ g5_ => ?_)
  have f6_ : pvFr fp_X9_looked_0 M M2_ := pvfr_t g5_ pvfr_0 fp_X9_looked_0_fp_X1_beginFromNow_5
  refine pw_blk hT 3 (S' := (12, [some (pvR 0), none], [pvI 0, pvR 5], M2_)) rfl ⟨trivial, rfl, trivial, trivial⟩ ?_
  refine pw_callG hT (as := [pvR 5, pvI 0]) (lo1 := [some (pvR 5), some (pvI 0)]) (d1 := d) (rest := []) rfl rfl rfl rfl rfl (fun _ => rfl) (Nat.zero_le _) rfl rfl rfl (sf_X1_goRound_5_x M2_ o4_ 0 (zr_wide (show 0 ≤ Int32.toInt 0 ∧ Int32.toInt 0 ≤ 0 from (by decide)) (by decide) (by decide)) d) (fun x7_ M8_ b9_ o10_ g11_ => ?_)
  have f12_ : pvFr fp_X9_looked_0 M M8_ := pvfr_t g11_ f6_ fp_X9_looked_0_fp_X1_goRound_5_x
  refine pw_blk hT 3 (S' := (18, [some (pvR 0), some (pvI 0)], [], M8_)) rfl ⟨trivial, trivial, trivial, trivial⟩ ?_
  have hlz64_ : ∀ (nz64_ : Nat) (i1z64_ : Int32), (0 ≤ Int32.toInt i1z64_ ∧ Int32.toInt i1z64_ ≤ 8) → (zhide ((9 - Int32.toInt i1z64_).toNat < nz64_)) → PW 185 d (18, [some (pvR 0), some (pvI i1z64_)], [], M8_) (fun r X => (∃ x : Int32, r = some (pvI x) ∧ (-5) ≤ Int32.toInt x ∧ Int32.toInt x ≤ 7) ∧ pvOk X ∧ pvFr fp_X9_looked_0 M X) := by
    intro nz64_
    induction nz64_ with
    | zero => intro i1z64_ h1z64_ hmz64_; exact absurd (zshow hmz64_) (Nat.not_lt_zero _)
    | succ nz64_ ihz64_ =>
      intro i1z64_ h1z64_ hmz64_
      have b65_ : 0 ≤ Int32.toInt (M8_.1 104 0) ∧ Int32.toInt (M8_.1 104 0) ≤ 8 := pvok_r o10_ 104 0 rfl
      refine pw_blk hT 5 (S' := (29, [some (pvR 0), some (pvI i1z64_)], [pvI (M8_.1 104 0), pvI i1z64_], M8_)) rfl ⟨trivial, trivial, rfl, rfl, rfl, trivial⟩ ?_
      refine pw_ic hT (c := (M8_.1 104 0) ≤ i1z64_) rfl rfl (fun c66_ => ?_) (fun c66_ => ?_)
      · have d67_ : Int32.toInt (M8_.1 104 0) ≤ Int32.toInt i1z64_ := (zi_le _ _).mp c66_
        refine pw_blk hT 1 (S' := (77, [some (pvR 0), some (pvI i1z64_)], [pvI (-5)], M8_)) rfl ⟨trivial, trivial⟩ ?_
        exact pw_ret hT rfl (r := some (pvI (-5))) (M' := M8_) ⟨rfl, rfl⟩ ⟨⟨_, rfl, (zr_wide (show (-5) ≤ Int32.toInt (-5) ∧ Int32.toInt (-5) ≤ (-5) from (by decide)) (by decide) (by decide))⟩, o10_, f12_⟩
      · have b68_ : 1 ≤ Int32.toInt (M8_.1 104 0) ∧ Int32.toInt (M8_.1 104 0) ≤ 8 := zr_nle_l 1 c66_ b65_ h1z64_ (by decide)
        have b69_ : 0 ≤ Int32.toInt i1z64_ ∧ Int32.toInt i1z64_ ≤ 7 := zr_nle_r 7 c66_ h1z64_ b68_ (by decide)
        have d70_ : Int32.toInt (M8_.1 104 0) > Int32.toInt i1z64_ := Int.not_le.mp ((not_congr (zi_le _ _)).mp c66_)
        have b71_ : 0 ≤ Int32.toInt (M8_.1 112 (Int32.toNatClampNeg i1z64_)) ∧ Int32.toInt (M8_.1 112 (Int32.toNatClampNeg i1z64_)) ≤ 6 := pvok_r o10_ 112 (Int32.toNatClampNeg i1z64_) rfl
        have b72_ : 0 ≤ Int32.toInt (M8_.1 12 (Int32.toNatClampNeg (M8_.1 112 (Int32.toNatClampNeg i1z64_)))) ∧ Int32.toInt (M8_.1 12 (Int32.toNatClampNeg (M8_.1 112 (Int32.toNatClampNeg i1z64_)))) ≤ 1000000 := pvok_r o10_ 12 (Int32.toNatClampNeg (M8_.1 112 (Int32.toNatClampNeg i1z64_))) rfl
        have b73_ : 0 ≤ Int32.toInt (M8_.1 120 (Int32.toNatClampNeg i1z64_)) ∧ Int32.toInt (M8_.1 120 (Int32.toNatClampNeg i1z64_)) ≤ 9999 := pvok_r o10_ 120 (Int32.toNatClampNeg i1z64_) rfl
        refine pw_blk hT 16 (S' := (64, [some (pvR 0), some (pvI i1z64_)], [pvI (M8_.1 120 (Int32.toNatClampNeg i1z64_)), pvI (M8_.1 12 (Int32.toNatClampNeg (M8_.1 112 (Int32.toNatClampNeg i1z64_))))], M8_)) rfl ⟨trivial, rfl, rfl, trivial, rfl, rfl, rfl, trivial, ⟨rfl, (zr_in (n := 8) b69_ (by decide) (by decide))⟩, ⟨rfl, (zr_in (n := 7) b71_ (by decide) (by decide))⟩, trivial, rfl, rfl, rfl, trivial, ⟨rfl, (zr_in (n := 8) b69_ (by decide) (by decide))⟩, trivial⟩ ?_
        refine pw_ic hT (c := (M8_.1 12 (Int32.toNatClampNeg (M8_.1 112 (Int32.toNatClampNeg i1z64_)))) ≤ (M8_.1 120 (Int32.toNatClampNeg i1z64_))) rfl rfl (fun c74_ => ?_) (fun c74_ => ?_)
        · have b75_ : 0 ≤ Int32.toInt (M8_.1 12 (Int32.toNatClampNeg (M8_.1 112 (Int32.toNatClampNeg i1z64_)))) ∧ Int32.toInt (M8_.1 12 (Int32.toNatClampNeg (M8_.1 112 (Int32.toNatClampNeg i1z64_)))) ≤ 9999 := zr_le_l 9999 c74_ b72_ b73_ (by decide)
          have d76_ : Int32.toInt (M8_.1 12 (Int32.toNatClampNeg (M8_.1 112 (Int32.toNatClampNeg i1z64_)))) ≤ Int32.toInt (M8_.1 120 (Int32.toNatClampNeg i1z64_)) := (zi_le _ _).mp c74_
          obtain ⟨q78_, b77_⟩ : (Int32.toInt (i1z64_ + 1) = Int32.toInt i1z64_ + 1) ∧ (1 ≤ Int32.toInt (i1z64_ + 1) ∧ Int32.toInt (i1z64_ + 1) ≤ 8) := zadd_k i1z64_ 1 1 1 8 b69_ (by decide) (by decide) (by decide) (by decide) (by decide)
          refine pw_blk hT 2 (S' := (18, [some (pvR 0), some (pvI (i1z64_ + 1))], [], M8_)) rfl ⟨trivial, trivial, trivial⟩ ?_
          exact ihz64_ (i1z64_ + 1) (zr_wide b77_ (by decide) (by decide)) (zhid (pvms_up (zshow hmz64_) h1z64_ q78_ (by decide) (by decide)))
        · have b79_ : 1 ≤ Int32.toInt (M8_.1 12 (Int32.toNatClampNeg (M8_.1 112 (Int32.toNatClampNeg i1z64_)))) ∧ Int32.toInt (M8_.1 12 (Int32.toNatClampNeg (M8_.1 112 (Int32.toNatClampNeg i1z64_)))) ≤ 1000000 := zr_nle_l 1 c74_ b72_ b73_ (by decide)
          have d80_ : Int32.toInt (M8_.1 12 (Int32.toNatClampNeg (M8_.1 112 (Int32.toNatClampNeg i1z64_)))) > Int32.toInt (M8_.1 120 (Int32.toNatClampNeg i1z64_)) := Int.not_le.mp ((not_congr (zi_le _ _)).mp c74_)
          refine pw_blk hT 1 (S' := (68, [some (pvR 0), some (pvI i1z64_)], [pvI i1z64_], M8_)) rfl ⟨trivial, trivial⟩ ?_
          exact pw_ret hT rfl (r := some (pvI i1z64_)) (M' := M8_) ⟨rfl, rfl⟩ ⟨⟨_, rfl, (zr_wide b69_ (by decide) (by decide))⟩, o10_, f12_⟩
  exact hlz64_ _ 0 (zr_wide (show 0 ≤ Int32.toInt 0 ∧ Int32.toInt 0 ≤ 0 from (by decide)) (by decide) (by decide)) (zhid (Nat.lt_succ_self _))
set_option maxHeartbeats 4000000 in
set_option maxRecDepth 10000 in
theorem sf_X9_greatestShared_x_x (M : pvM) (hok : pvOk M) (n0 : Int32) (n1 : Int32) (hn1 : 1 ≤ Int32.toInt n1 ∧ Int32.toInt n1 ≤ 10) (d : Nat) : PW 176 d (0, [some (pvI n0), some (pvI n1), none], [], M) (fun r X => (∃ x : Int32, r = some (pvI x) ∧ 1 ≤ Int32.toInt x ∧ Int32.toInt x ≤ 10) ∧ X = M) := by
  have hT : pvdom 176 = pvD_176 := rfl
  have q1_ : Int32.toInt (if n0 < 0 then 0 else n0) = max (Int32.toInt n0) (Int32.toInt 0) := pvmax n0 0
  have b2_ : 0 ≤ Int32.toInt (if n0 < 0 then 0 else n0) ∧ Int32.toInt (if n0 < 0 then 0 else n0) ≤ 2147483647 := (by have u0 := (zbnd n0); have u1 := (show 0 ≤ Int32.toInt 0 ∧ Int32.toInt 0 ≤ 0 from (by decide)); omega)
  have q3_ : Int32.toInt (if n1 < (if n0 < 0 then 0 else n0) then n1 else (if n0 < 0 then 0 else n0)) = min (Int32.toInt (if n0 < 0 then 0 else n0)) (Int32.toInt n1) := pvmin (if n0 < 0 then 0 else n0) n1
  have b4_ : 0 ≤ Int32.toInt (if n1 < (if n0 < 0 then 0 else n0) then n1 else (if n0 < 0 then 0 else n0)) ∧ Int32.toInt (if n1 < (if n0 < 0 then 0 else n0) then n1 else (if n0 < 0 then 0 else n0)) ≤ 10 := (by have u0 := b2_; have u1 := hn1; omega)
  refine pw_blk hT 6 (S' := (10, [some (pvI n0), some (pvI n1), some (pvI (if n1 < (if n0 < 0 then 0 else n0) then n1 else (if n0 < 0 then 0 else n0)))], [], M)) rfl ⟨trivial, trivial, (Nat.le_of_ble_eq_true rfl), trivial, (Nat.le_of_ble_eq_true rfl), trivial, trivial⟩ ?_
  have hlz24_ : ∀ (nz24_ : Nat) (i2z24_ : Int32), (0 ≤ Int32.toInt i2z24_ ∧ Int32.toInt i2z24_ ≤ 10) → (zhide ((Int32.toInt i2z24_).toNat < nz24_)) → PW 176 d (10, [some (pvI n0), some (pvI n1), some (pvI i2z24_)], [], M) (fun r X => (∃ x : Int32, r = some (pvI x) ∧ 1 ≤ Int32.toInt x ∧ Int32.toInt x ≤ 10) ∧ X = M) := by
    intro nz24_
    induction nz24_ with
    | zero => intro i2z24_ h2z24_ hmz24_; exact absurd (zshow hmz24_) (Nat.not_lt_zero _)
    | succ nz24_ ihz24_ =>
      intro i2z24_ h2z24_ hmz24_
      refine pw_blk hT 2 (S' := (12, [some (pvI n0), some (pvI n1), some (pvI i2z24_)], [pvI 1, pvI i2z24_], M)) rfl ⟨trivial, trivial, trivial⟩ ?_
      refine pw_ic hT (c := i2z24_ ≤ 1) rfl rfl (fun c25_ => ?_) (fun c25_ => ?_)
      · have b26_ : 0 ≤ Int32.toInt i2z24_ ∧ Int32.toInt i2z24_ ≤ 1 := zr_le_l 1 c25_ h2z24_ (show 1 ≤ Int32.toInt 1 ∧ Int32.toInt 1 ≤ 1 from (by decide)) (by decide)
        refine pw_blk hT 1 (S' := (36, [some (pvI n0), some (pvI n1), some (pvI i2z24_)], [pvI n0], M)) rfl ⟨trivial, trivial⟩ ?_
        refine pw_ifn hT (c := n0 = 0) rfl rfl (fun c27_ => ?_) (fun c27_ => ?_)
        · refine pw_blk hT 1 (S' := (48, [some (pvI n0), some (pvI n1), some (pvI i2z24_)], [pvI 1], M)) rfl ⟨trivial, trivial⟩ ?_
          exact pw_ret hT rfl (r := some (pvI 1)) (M' := M) ⟨rfl, rfl⟩ ⟨⟨_, rfl, (zr_wide (show 1 ≤ Int32.toInt 1 ∧ Int32.toInt 1 ≤ 1 from (by decide)) (by decide) (by decide))⟩, rfl⟩
        · have b28_ : 0 ≤ Int32.toInt n0 ∧ Int32.toInt n0 ≤ 0 := (by have u0 := (zbnd n0); have u1 := (zi_eq _ _).mp c27_; have u2 := (show 0 ≤ Int32.toInt 0 ∧ Int32.toInt 0 ≤ 0 from (by decide)); omega)
          have q29_ : Int32.toInt (if n1 < 1 then 1 else n1) = max (Int32.toInt n1) (Int32.toInt 1) := pvmax n1 1
          have b30_ : 1 ≤ Int32.toInt (if n1 < 1 then 1 else n1) ∧ Int32.toInt (if n1 < 1 then 1 else n1) ≤ 10 := (by have u0 := hn1; have u1 := (show 1 ≤ Int32.toInt 1 ∧ Int32.toInt 1 ≤ 1 from (by decide)); omega)
          refine pw_blk hT 4 (S' := (48, [some (pvI n0), some (pvI n1), some (pvI i2z24_)], [pvI (if n1 < 1 then 1 else n1)], M)) rfl ⟨trivial, trivial, (Nat.le_of_ble_eq_true rfl), trivial, trivial⟩ ?_
          exact pw_ret hT rfl (r := some (pvI (if n1 < 1 then 1 else n1))) (M' := M) ⟨rfl, rfl⟩ ⟨⟨_, rfl, b30_⟩, rfl⟩
      · have b31_ : 2 ≤ Int32.toInt i2z24_ ∧ Int32.toInt i2z24_ ≤ 10 := zr_nle_l 2 c25_ h2z24_ (show 1 ≤ Int32.toInt 1 ∧ Int32.toInt 1 ≤ 1 from (by decide)) (by decide)
        refine pw_blk hT 3 (S' := (18, [some (pvI n0), some (pvI n1), some (pvI i2z24_)], [pvI (n0 - n0 / i2z24_ * i2z24_)], M)) rfl ⟨trivial, trivial, (fun z0 => by have u0 := b31_; have u1 := (zi_eq i2z24_ 0).mp z0; have u2 : (0 : Int32).toInt = 0 := (by decide); omega), trivial⟩ ?_
        refine pw_ifn hT (c := (n0 - n0 / i2z24_ * i2z24_) = 0) rfl rfl (fun c32_ => ?_) (fun c32_ => ?_)
        · obtain ⟨q34_, b33_⟩ : (Int32.toInt (i2z24_ + (-1)) = Int32.toInt i2z24_ + (-1)) ∧ (1 ≤ Int32.toInt (i2z24_ + (-1)) ∧ Int32.toInt (i2z24_ + (-1)) ≤ 9) := zadd_k i2z24_ (-1) (-1) 1 9 b31_ (by decide) (by decide) (by decide) (by decide) (by decide)
          refine pw_blk hT 2 (S' := (10, [some (pvI n0), some (pvI n1), some (pvI (i2z24_ + (-1)))], [], M)) rfl ⟨trivial, trivial, trivial⟩ ?_
          exact ihz24_ (i2z24_ + (-1)) (zr_wide b33_ (by decide) (by decide)) (zhid (by have hm0 := zshow hmz24_; omega))
        · have b35_ : 0 ≤ Int32.toInt (n0 - n0 / i2z24_ * i2z24_) ∧ Int32.toInt (n0 - n0 / i2z24_ * i2z24_) ≤ 0 := (by have u0 := (zbnd (n0 - n0 / i2z24_ * i2z24_)); have u1 := (zi_eq _ _).mp c32_; have u2 := (show 0 ≤ Int32.toInt 0 ∧ Int32.toInt 0 ≤ 0 from (by decide)); omega)
          have q36_ : 0 ≤ Int32.toInt (n1 - n1 / i2z24_ * i2z24_) ∧ Int32.toInt (n1 - n1 / i2z24_ * i2z24_) < Int32.toInt i2z24_ := pvrem n1 i2z24_ (by have u0 := hn1; omega) (by have u0 := b31_; omega)
          have b37_ : 0 ≤ Int32.toInt (n1 - n1 / i2z24_ * i2z24_) ∧ Int32.toInt (n1 - n1 / i2z24_ * i2z24_) ≤ 9 := (by have u0 := q36_; have u1 := b31_; omega)
          refine pw_blk hT 3 (S' := (24, [some (pvI n0), some (pvI n1), some (pvI i2z24_)], [pvI (n1 - n1 / i2z24_ * i2z24_)], M)) rfl ⟨trivial, trivial, (fun z0 => by have u0 := b31_; have u1 := (zi_eq i2z24_ 0).mp z0; have u2 : (0 : Int32).toInt = 0 := (by decide); omega), trivial⟩ ?_
          refine pw_ifn hT (c := (n1 - n1 / i2z24_ * i2z24_) = 0) rfl rfl (fun c38_ => ?_) (fun c38_ => ?_)
          · have b39_ : 1 ≤ Int32.toInt (n1 - n1 / i2z24_ * i2z24_) ∧ Int32.toInt (n1 - n1 / i2z24_ * i2z24_) ≤ 9 := (by have u0 := b37_; have u1 := (not_congr (zi_eq _ _)).mp c38_; have u2 := (show 0 ≤ Int32.toInt 0 ∧ Int32.toInt 0 ≤ 0 from (by decide)); omega)
            obtain ⟨q41_, b40_⟩ : (Int32.toInt (i2z24_ + (-1)) = Int32.toInt i2z24_ + (-1)) ∧ (1 ≤ Int32.toInt (i2z24_ + (-1)) ∧ Int32.toInt (i2z24_ + (-1)) ≤ 9) := zadd_k i2z24_ (-1) (-1) 1 9 b31_ (by decide) (by decide) (by decide) (by decide) (by decide)
            refine pw_blk hT 2 (S' := (10, [some (pvI n0), some (pvI n1), some (pvI (i2z24_ + (-1)))], [], M)) rfl ⟨trivial, trivial, trivial⟩ ?_
            exact ihz24_ (i2z24_ + (-1)) (zr_wide b40_ (by decide) (by decide)) (zhid (by have hm0 := zshow hmz24_; omega))
          · have b42_ : 0 ≤ Int32.toInt (n1 - n1 / i2z24_ * i2z24_) ∧ Int32.toInt (n1 - n1 / i2z24_ * i2z24_) ≤ 0 := (by have u0 := b37_; have u1 := (zi_eq _ _).mp c38_; have u2 := (show 0 ≤ Int32.toInt 0 ∧ Int32.toInt 0 ≤ 0 from (by decide)); omega)
            refine pw_blk hT 1 (S' := (28, [some (pvI n0), some (pvI n1), some (pvI i2z24_)], [pvI i2z24_], M)) rfl ⟨trivial, trivial⟩ ?_
            exact pw_ret hT rfl (r := some (pvI i2z24_)) (M' := M) ⟨rfl, rfl⟩ ⟨⟨_, rfl, (zr_wide b31_ (by decide) (by decide))⟩, rfl⟩
  exact hlz24_ _ (if n1 < (if n0 < 0 then 0 else n0) then n1 else (if n0 < 0 then 0 else n0)) b4_ (zhid (Nat.lt_succ_self _))
set_option maxHeartbeats 4000000 in
set_option maxRecDepth 10000 in
theorem sf_X9_partOf_x_x_x (M : pvM) (hok : pvOk M) (n0 : Int32) (n1 : Int32) (n2 : Int32) (hn1 : 1 ≤ Int32.toInt n1 ∧ Int32.toInt n1 ≤ 10) (d : Nat) : PW 191 d (0, [some (pvI n0), some (pvI n1), some (pvI n2), none], [], M) (fun r X => (∃ x : Int64, r = some (pvJ x)) ∧ X = M) := by
  have hT : pvdom 191 = pvD_191 := rfl
  refine pw_blk hT 2 (S' := (2, [some (pvI n0), some (pvI n1), some (pvI n2), none], [pvI n1, pvI n0], M)) rfl ⟨trivial, trivial, trivial⟩ ?_
  refine pw_callGp hT (as := [pvI n0, pvI n1]) (lo1 := [some (pvI n0), some (pvI n1), none]) (d1 := d) (rest := []) rfl rfl rfl rfl rfl (fun h => absurd h (by decide)) (Nat.zero_le _) rfl rfl rfl (sf_X9_greatestShared_x_x M hok n0 n1 hn1 d) (fun x1_ b3_ => ?_)
  refine pw_blk hT 2 (S' := (7, [some (pvI n0), some (pvI n1), some (pvI n2), some (pvI x1_)], [pvI n2], M)) rfl ⟨trivial, trivial, trivial⟩ ?_
  refine pw_ifn hT (c := n2 = 0) rfl rfl (fun c6_ => ?_) (fun c6_ => ?_)
  · refine pw_blk hT 4 (S' := (21, [some (pvI n0), some (pvI n1), some (pvI n2), some (pvI x1_)], [pvJ (Int32.toInt64 (n1 / x1_))], M)) rfl ⟨trivial, trivial, (fun z0 => by have u0 := b3_; have u1 := (zi_eq x1_ 0).mp z0; have u2 : (0 : Int32).toInt = 0 := (by decide); omega), trivial, trivial⟩ ?_
    exact pw_ret hT rfl (r := some (pvJ (Int32.toInt64 (n1 / x1_)))) (M' := M) ⟨rfl, rfl⟩ ⟨⟨_, rfl⟩, rfl⟩
  · have b7_ : 0 ≤ Int32.toInt n2 ∧ Int32.toInt n2 ≤ 0 := (by have u0 := (zbnd n2); have u1 := (zi_eq _ _).mp c6_; have u2 := (show 0 ≤ Int32.toInt 0 ∧ Int32.toInt 0 ≤ 0 from (by decide)); omega)
    refine pw_blk hT 5 (S' := (21, [some (pvI n0), some (pvI n1), some (pvI n2), some (pvI x1_)], [pvJ (Int32.toInt64 (n0 / x1_))], M)) rfl ⟨trivial, trivial, (fun z0 => by have u0 := b3_; have u1 := (zi_eq x1_ 0).mp z0; have u2 : (0 : Int32).toInt = 0 := (by decide); omega), trivial, trivial, trivial⟩ ?_
    exact pw_ret hT rfl (r := some (pvJ (Int32.toInt64 (n0 / x1_)))) (M' := M) ⟨rfl, rfl⟩ ⟨⟨_, rfl⟩, rfl⟩
def fpL_X9_mean_0_x : List (Nat × Nat × Nat) := [(0, 12, 0), (0, 13, 0), (0, 14, 0), (0, 5, 2), (0, 5, 3), (1, 112, 0)]
def fp_X9_mean_0_x (q k : Nat) : Bool := pvfp fpL_X9_mean_0_x q k
theorem fp_X9_mean_0_x_fp_X1_beginFromNow_5 (a b : Nat) (h : fp_X1_beginFromNow_5 a b = true) : fp_X9_mean_0_x a b = true := pvfp_sub (l1 := fpL_X1_beginFromNow_5) (l2 := fpL_X9_mean_0_x) (by decide) a b h
theorem fp_X9_mean_0_x_fp_X1_goRound_5_x (a b : Nat) (h : fp_X1_goRound_5_x a b = true) : fp_X9_mean_0_x a b = true := pvfp_sub (l1 := fpL_X1_goRound_5_x) (l2 := fpL_X9_mean_0_x) (by decide) a b h
set_option maxHeartbeats 4000000 in
set_option maxRecDepth 10000 in
theorem sf_X9_mean_0_x (M : pvM) (hok : pvOk M) (n1 : Int32) (d : Nat) : PW 186 d (0, [some (pvR 0), some (pvI n1), none, none], [], M) (fun r X => (∃ x : Int64, r = some (pvJ x)) ∧ pvOk X ∧ pvFr fp_X9_mean_0_x M X) := by
  have hT : pvdom 186 = pvD_186 := rfl
  refine pw_blk hT 3 (S' := (3, [some (pvR 0), some (pvI n1), none, none], [pvI 1, pvI 0, pvI n1], M)) rfl ⟨trivial, trivial, trivial, trivial⟩ ?_
  refine pw_callT hT (as := [pvI n1, pvI 0, pvI 1]) (lo1 := [some (pvI n1), some (pvI 0), some (pvI 1)]) (d1 := d) (rest := []) rfl rfl rfl rfl rfl (fun h => absurd h (by decide)) (Nat.zero_le _) rfl rfl rfl (sf_X9_within_x_x_x M hok n1 0 1 d) ?_
  by_cases c6_ : n1 < 0
  · refine pw_eqI (if_pos c6_) ?_
    have b7_ : (-2147483648) ≤ Int32.toInt n1 ∧ Int32.toInt n1 ≤ (-1) := zr_lt_l (-1) c6_ (zbnd n1) (show 0 ≤ Int32.toInt 0 ∧ Int32.toInt 0 ≤ 0 from (by decide)) (by decide)
    show PW 186 d (6, [some (pvR 0), some (pvI n1), none, none], [pvI 0], M) _
    refine pw_ifn hT (c := 0 = 0) rfl rfl (fun c8_ => absurd (by decide) c8_) (fun c8_ => ?_)
    refine pw_blk hT 1 (S' := (12, [some (pvR 0), some (pvI n1), none, none], [pvJ (-9223372036854775808)], M)) rfl ⟨trivial, trivial⟩ ?_
    exact pw_ret hT rfl (r := some (pvJ (-9223372036854775808))) (M' := M) ⟨rfl, rfl⟩ ⟨⟨_, rfl⟩, hok, pvfr_0⟩
  · refine pw_eqI (if_neg c6_) ?_
    have b9_ : 0 ≤ Int32.toInt n1 ∧ Int32.toInt n1 ≤ 2147483647 := zr_nlt_l 0 c6_ (zbnd n1) (show 0 ≤ Int32.toInt 0 ∧ Int32.toInt 0 ≤ 0 from (by decide)) (by decide)
    by_cases c10_ : 1 < n1
    · refine pw_eqI (if_pos c10_) ?_
      have b11_ : 2 ≤ Int32.toInt n1 ∧ Int32.toInt n1 ≤ 2147483647 := zr_lt_r 2 c10_ b9_ (show 1 ≤ Int32.toInt 1 ∧ Int32.toInt 1 ≤ 1 from (by decide)) (by decide)
      show PW 186 d (6, [some (pvR 0), some (pvI n1), none, none], [pvI 0], M) _
      refine pw_ifn hT (c := 0 = 0) rfl rfl (fun c12_ => absurd (by decide) c12_) (fun c12_ => ?_)
      refine pw_blk hT 1 (S' := (12, [some (pvR 0), some (pvI n1), none, none], [pvJ (-9223372036854775808)], M)) rfl ⟨trivial, trivial⟩ ?_
      exact pw_ret hT rfl (r := some (pvJ (-9223372036854775808))) (M' := M) ⟨rfl, rfl⟩ ⟨⟨_, rfl⟩, hok, pvfr_0⟩
    · refine pw_eqI (if_neg c10_) ?_
      have b13_ : 0 ≤ Int32.toInt n1 ∧ Int32.toInt n1 ≤ 1 := zr_nlt_r 1 c10_ b9_ (show 1 ≤ Int32.toInt 1 ∧ Int32.toInt 1 ≤ 1 from (by decide)) (by decide)
      show PW 186 d (6, [some (pvR 0), some (pvI n1), none, none], [pvI 1], M) _
      refine pw_ifn hT (c := 1 = 0) rfl rfl (fun c14_ => ?_) (fun c14_ => absurd c14_ (by decide))
      refine pw_blk hT 2 (S' := (17, [some (pvR 0), some (pvI n1), none, none], [pvR 5], M)) rfl ⟨trivial, rfl, trivial⟩ ?_
      refine pw_callV hT (as := [pvR 5]) (lo1 := [some (pvR 5)]) (d1 := d) (rest := []) rfl rfl rfl rfl rfl (fun _ => rfl) (Nat.zero_le _) rfl rfl rfl (sf_X1_beginFromNow_5 M hok d) (fun M16_ o18_ g19_ => ?_)
      have f20_ : pvFr fp_X9_mean_0_x M M16_ := pvfr_t g19_ pvfr_0 fp_X9_mean_0_x_fp_X1_beginFromNow_5
      refine pw_blk hT 3 (S' := (25, [some (pvR 0), some (pvI n1), none, none], [pvI 0, pvR 5], M16_)) rfl ⟨trivial, rfl, trivial, trivial⟩ ?_
      refine pw_callG hT (as := [pvR 5, pvI 0]) (lo1 := [some (pvR 5), some (pvI 0)]) (d1 := d) (rest := []) rfl rfl rfl rfl rfl (fun _ => rfl) (Nat.zero_le _) rfl rfl rfl (sf_X1_goRound_5_x M16_ o18_ 0 (zr_wide (show 0 ≤ Int32.toInt 0 ∧ Int32.toInt 0 ≤ 0 from (by decide)) (by decide) (by decide)) d) (fun x21_ M22_ b23_ o24_ g25_ => ?_)
      have f26_ : pvFr fp_X9_mean_0_x M M22_ := pvfr_t g25_ f20_ fp_X9_mean_0_x_fp_X1_goRound_5_x
      refine pw_blk hT 5 (S' := (33, [some (pvR 0), some (pvI n1), some (pvI 0), some (pvI 0)], [], M22_)) rfl ⟨trivial, trivial, trivial, trivial, trivial, trivial⟩ ?_
      have hlz114_ : ∀ (nz114_ : Nat) (i2z114_ : Int32) (i3z114_ : Int32) (Mz114_ : pvM), (pvOk Mz114_) → (pvFr fp_X9_mean_0_x M Mz114_) → (0 ≤ Int32.toInt i3z114_ ∧ Int32.toInt i3z114_ ≤ 10) → (zhide ((11 - Int32.toInt i3z114_).toNat < nz114_)) → PW 186 d (33, [some (pvR 0), some (pvI n1), some (pvI i2z114_), some (pvI i3z114_)], [], Mz114_) (fun r X => (∃ x : Int64, r = some (pvJ x)) ∧ pvOk X ∧ pvFr fp_X9_mean_0_x M X) := by
        intro nz114_
        induction nz114_ with
        | zero => intro i2z114_ i3z114_ Mz114_ oz114_ fz114_ h3z114_ hmz114_; exact absurd (zshow hmz114_) (Nat.not_lt_zero _)
        | succ nz114_ ihz114_ =>
          intro i2z114_ i3z114_ Mz114_ oz114_ fz114_ h3z114_ hmz114_
          refine pw_blk hT 2 (S' := (36, [some (pvR 0), some (pvI n1), some (pvI i2z114_), some (pvI i3z114_)], [pvI 10, pvI i3z114_], Mz114_)) rfl ⟨trivial, trivial, trivial⟩ ?_
          refine pw_ic hT (c := 10 ≤ i3z114_) rfl rfl (fun c115_ => ?_) (fun c115_ => ?_)
          · have b116_ : 10 ≤ Int32.toInt i3z114_ ∧ Int32.toInt i3z114_ ≤ 10 := zr_le_r 10 c115_ h3z114_ (show 10 ≤ Int32.toInt 10 ∧ Int32.toInt 10 ≤ 10 from (by decide)) (by decide)
            refine pw_blk hT 3 (S' := (75, [some (pvR 0), some (pvI n1), some (pvI i2z114_), some (pvI i3z114_)], [pvI n1, pvI 10, pvI i2z114_], Mz114_)) rfl ⟨trivial, trivial, trivial, trivial⟩ ?_
            refine pw_callJp hT (as := [pvI i2z114_, pvI 10, pvI n1]) (lo1 := [some (pvI i2z114_), some (pvI 10), some (pvI n1), none]) (d1 := d) (rest := []) rfl rfl rfl rfl rfl (fun h => absurd h (by decide)) (Nat.zero_le _) rfl rfl rfl (sf_X9_partOf_x_x_x Mz114_ oz114_ i2z114_ 10 n1 (zr_wide (show 10 ≤ Int32.toInt 10 ∧ Int32.toInt 10 ≤ 10 from (by decide)) (by decide) (by decide)) d) (fun x117_ b119_ => ?_)
            exact pw_ret hT rfl (r := some (pvJ x117_)) (M' := Mz114_) ⟨rfl, rfl⟩ ⟨⟨_, rfl⟩, oz114_, fz114_⟩
          · have b122_ : 0 ≤ Int32.toInt i3z114_ ∧ Int32.toInt i3z114_ ≤ 9 := zr_nle_r 9 c115_ h3z114_ (show 10 ≤ Int32.toInt 10 ∧ Int32.toInt 10 ≤ 10 from (by decide)) (by decide)
            have b123_ : 0 ≤ Int32.toInt (Mz114_.1 8 2) ∧ Int32.toInt (Mz114_.1 8 2) ≤ 99 := pvok_r oz114_ 8 2 rfl
            obtain ⟨q125_, b124_⟩ : (Int32.toInt ((Mz114_.1 8 2) + i3z114_) = Int32.toInt (Mz114_.1 8 2) + Int32.toInt i3z114_) ∧ (0 ≤ Int32.toInt ((Mz114_.1 8 2) + i3z114_) ∧ Int32.toInt ((Mz114_.1 8 2) + i3z114_) ≤ 108) := zadd_r (Mz114_.1 8 2) i3z114_ 0 108 b123_ b122_ (by decide) (by decide) (by decide) (by decide)
            refine pw_blkw hT 8 (pc := 55) (lo := [some (pvR 0), some (pvI n1), some (pvI i2z114_), some (pvI i3z114_)]) (st := []) (M := pvu Mz114_ 5 2 ((Mz114_.1 8 2) + i3z114_)) rfl ⟨trivial, rfl, trivial, rfl, rfl, trivial, trivial, rfl, trivial⟩ (fun M126_ e127_ => ?_)
            have o128_ : pvOk M126_ := pvok_u2 e127_ oz114_ rfl b124_
            have f129_ : pvFr fp_X9_mean_0_x M M126_ := pvfr_u e127_ fz114_ rfl
            refine pw_blk hT 3 (S' := (60, [some (pvR 0), some (pvI n1), some (pvI i2z114_), some (pvI i3z114_)], [pvR 5, pvI i2z114_], M126_)) rfl ⟨trivial, trivial, rfl, trivial⟩ ?_
            refine pw_callGp hT (as := [pvR 5]) (lo1 := [some (pvR 5)]) (d1 := d) (rest := [pvI i2z114_]) rfl rfl rfl rfl rfl (fun _ => rfl) (Nat.zero_le _) rfl rfl rfl (sf_X1_cost_5 M126_ o128_ d) (fun x130_ b132_ => ?_)
            obtain ⟨q136_, b135_⟩ : (Int32.toInt (i3z114_ + 1) = Int32.toInt i3z114_ + 1) ∧ (1 ≤ Int32.toInt (i3z114_ + 1) ∧ Int32.toInt (i3z114_ + 1) ≤ 10) := zadd_k i3z114_ 1 1 1 10 b122_ (by decide) (by decide) (by decide) (by decide) (by decide)
            refine pw_blk hT 4 (S' := (33, [some (pvR 0), some (pvI n1), some (pvI (i2z114_ + x130_)), some (pvI (i3z114_ + 1))], [], M126_)) rfl ⟨trivial, trivial, trivial, trivial, trivial⟩ ?_
            exact ihz114_ (i2z114_ + x130_) (i3z114_ + 1) M126_ o128_ f129_ (zr_wide b135_ (by decide) (by decide)) (zhid (pvms_up (zshow hmz114_) h3z114_ q136_ (by decide) (by decide)))
      exact hlz114_ _ 0 0 M22_ o24_ f26_ (zr_wide (show 0 ≤ Int32.toInt 0 ∧ Int32.toInt 0 ≤ 0 from (by decide)) (by decide) (by decide)) (zhid (Nat.lt_succ_self _))
def fpL_X1_costOfOne_5_x : List (Nat × Nat × Nat) := [(0, 106, 1), (0, 114, 0), (0, 12, 0), (0, 122, 0)]
def fp_X1_costOfOne_5_x (q k : Nat) : Bool := pvfp fpL_X1_costOfOne_5_x q k
theorem fp_X1_costOfOne_5_x_fp_X1_costOfTried_5 (a b : Nat) (h : fp_X1_costOfTried_5 a b = true) : fp_X1_costOfOne_5_x a b = true := pvfp_sub (l1 := fpL_X1_costOfTried_5) (l2 := fpL_X1_costOfOne_5_x) (by decide) a b h
theorem fp_X1_costOfOne_5_x_fp_X6_append_106_x_x (a b : Nat) (h : fp_X6_append_106_x_x a b = true) : fp_X1_costOfOne_5_x a b = true := pvfp_sub (l1 := fpL_X6_append_106_x_x) (l2 := fpL_X1_costOfOne_5_x) (by decide) a b h
theorem fp_X1_costOfOne_5_x_fp_X6_clear_106 (a b : Nat) (h : fp_X6_clear_106 a b = true) : fp_X1_costOfOne_5_x a b = true := pvfp_sub (l1 := fpL_X6_clear_106) (l2 := fpL_X1_costOfOne_5_x) (by decide) a b h
set_option maxHeartbeats 4000000 in
set_option maxRecDepth 10000 in
theorem sf_X1_costOfOne_5_x (M : pvM) (hok : pvOk M) (n1 : Int32) (hn1 : 0 ≤ Int32.toInt n1 ∧ Int32.toInt n1 ≤ 6) (d : Nat) : PW 104 d (0, [some (pvR 5), some (pvI n1)], [], M) (fun r X => (∃ x : Int32, r = some (pvI x) ∧ True) ∧ pvOk X ∧ pvFr fp_X1_costOfOne_5_x M X) := by
  have hT : pvdom 104 = pvD_104 := rfl
  refine pw_blk hT 2 (S' := (4, [some (pvR 5), some (pvI n1)], [pvR 106], M)) rfl ⟨trivial, rfl, trivial⟩ ?_
  refine pw_callG hT (as := [pvR 106]) (lo1 := [some (pvR 106)]) (d1 := d) (rest := []) rfl rfl rfl rfl rfl (fun _ => rfl) (Nat.zero_le _) rfl rfl rfl (sf_X6_clear_106 M hok d) (fun x1_ M2_ b3_ o4_ g5_ => ?_)
  have f6_ : pvFr fp_X1_costOfOne_5_x M M2_ := pvfr_t g5_ pvfr_0 fp_X1_costOfOne_5_x_fp_X6_clear_106
  refine pw_blk hT 5 (S' := (14, [some (pvR 5), some (pvI n1)], [pvI 0, pvI n1, pvR 106], M2_)) rfl ⟨trivial, trivial, rfl, trivial, trivial, trivial⟩ ?_
  refine pw_callG hT (as := [pvR 106, pvI n1, pvI 0]) (lo1 := [some (pvR 106), some (pvI n1), some (pvI 0)]) (d1 := d) (rest := []) rfl rfl rfl rfl rfl (fun _ => rfl) (Nat.zero_le _) rfl rfl rfl (sf_X6_append_106_x_x M2_ o4_ n1 0 hn1 (zr_wide (show 0 ≤ Int32.toInt 0 ∧ Int32.toInt 0 ≤ 0 from (by decide)) (by decide) (by decide)) d) (fun x7_ M8_ b9_ o10_ g11_ => ?_)
  have f12_ : pvFr fp_X1_costOfOne_5_x M M8_ := pvfr_t g11_ f6_ fp_X1_costOfOne_5_x_fp_X6_append_106_x_x
  refine pw_blk hT 2 (S' := (19, [some (pvR 5), some (pvI n1)], [pvR 5], M8_)) rfl ⟨trivial, trivial, trivial⟩ ?_
  refine pw_callG hT (as := [pvR 5]) (lo1 := [some (pvR 5)]) (d1 := d) (rest := []) rfl rfl rfl rfl rfl (fun _ => rfl) (Nat.zero_le _) rfl rfl rfl (sf_X1_costOfTried_5 M8_ o10_ d) (fun x13_ M14_ b15_ o16_ g17_ => ?_)
  have f18_ : pvFr fp_X1_costOfOne_5_x M M14_ := pvfr_t g17_ f12_ fp_X1_costOfOne_5_x_fp_X1_costOfTried_5
  exact pw_ret hT rfl (r := some (pvI x13_)) (M' := M14_) ⟨rfl, rfl⟩ ⟨⟨_, rfl, trivial⟩, o16_, f18_⟩
def fpL_X9_next_0 : List (Nat × Nat × Nat) := [(0, 106, 1), (0, 114, 0), (0, 12, 0), (0, 122, 0), (0, 13, 0), (0, 14, 0), (0, 5, 2), (0, 5, 3), (1, 112, 0)]
def fp_X9_next_0 (q k : Nat) : Bool := pvfp fpL_X9_next_0 q k
theorem fp_X9_next_0_fp_X1_beginFromNow_5 (a b : Nat) (h : fp_X1_beginFromNow_5 a b = true) : fp_X9_next_0 a b = true := pvfp_sub (l1 := fpL_X1_beginFromNow_5) (l2 := fpL_X9_next_0) (by decide) a b h
theorem fp_X9_next_0_fp_X1_costOfOne_5_x (a b : Nat) (h : fp_X1_costOfOne_5_x a b = true) : fp_X9_next_0 a b = true := pvfp_sub (l1 := fpL_X1_costOfOne_5_x) (l2 := fpL_X9_next_0) (by decide) a b h
set_option maxHeartbeats 4000000 in
set_option maxRecDepth 10000 in
theorem sf_X9_next_0 (M : pvM) (hok : pvOk M) (d : Nat) : PW 187 d (0, [some (pvR 0), none, none, none, none], [], M) (fun r X => (∃ x : Int32, r = some (pvI x) ∧ (-5) ≤ Int32.toInt x ∧ Int32.toInt x ≤ 2147483647) ∧ pvOk X ∧ pvFr fp_X9_next_0 M X) := by
  have hT : pvdom 187 = pvD_187 := rfl
  refine pw_blk hT 2 (S' := (4, [some (pvR 0), none, none, none, none], [pvR 5], M)) rfl ⟨trivial, rfl, trivial⟩ ?_
  refine pw_callV hT (as := [pvR 5]) (lo1 := [some (pvR 5)]) (d1 := d) (rest := []) rfl rfl rfl rfl rfl (fun _ => rfl) (Nat.zero_le _) rfl rfl rfl (sf_X1_beginFromNow_5 M hok d) (fun M2_ o4_ g5_ => ?_)
  have f6_ : pvFr fp_X9_next_0 M M2_ := pvfr_t g5_ pvfr_0 fp_X9_next_0_fp_X1_beginFromNow_5
  refine pw_blk hT 6 (S' := (14, [some (pvR 0), some (pvI (-5)), some (pvI 0), some (pvI 0), none], [], M2_)) rfl ⟨trivial, trivial, trivial, trivial, trivial, trivial, trivial⟩ ?_
  have hlz129_ : ∀ (nz129_ : Nat) (i1z129_ : Int32) (i2z129_ : Int32) (i3z129_ : Int32) (v4z129_ : Option pvV) (Mz129_ : pvM), (pvOk Mz129_) → (pvFr fp_X9_next_0 M Mz129_) → ((-5) ≤ Int32.toInt i1z129_ ∧ Int32.toInt i1z129_ ≤ 2147483647) → (0 ≤ Int32.toInt i3z129_ ∧ Int32.toInt i3z129_ ≤ 7) → (zhide ((8 - Int32.toInt i3z129_).toNat < nz129_)) → PW 187 d (14, [some (pvR 0), some (pvI i1z129_), some (pvI i2z129_), some (pvI i3z129_), v4z129_], [], Mz129_) (fun r X => (∃ x : Int32, r = some (pvI x) ∧ (-5) ≤ Int32.toInt x ∧ Int32.toInt x ≤ 2147483647) ∧ pvOk X ∧ pvFr fp_X9_next_0 M X) := by
    intro nz129_
    induction nz129_ with
    | zero => intro i1z129_ i2z129_ i3z129_ v4z129_ Mz129_ oz129_ fz129_ h1z129_ h3z129_ hmz129_; exact absurd (zshow hmz129_) (Nat.not_lt_zero _)
    | succ nz129_ ihz129_ =>
      intro i1z129_ i2z129_ i3z129_ v4z129_ Mz129_ oz129_ fz129_ h1z129_ h3z129_ hmz129_
      have b130_ : 0 ≤ Int32.toInt (Mz129_.1 8 1) ∧ Int32.toInt (Mz129_.1 8 1) ≤ 7 := pvok_r oz129_ 8 1 rfl
      refine pw_blk hT 4 (S' := (22, [some (pvR 0), some (pvI i1z129_), some (pvI i2z129_), some (pvI i3z129_), v4z129_], [pvI (Mz129_.1 8 1), pvI i3z129_], Mz129_)) rfl ⟨trivial, trivial, rfl, rfl, trivial⟩ ?_
      refine pw_ic hT (c := (Mz129_.1 8 1) ≤ i3z129_) rfl rfl (fun c131_ => ?_) (fun c131_ => ?_)
      · have d132_ : Int32.toInt (Mz129_.1 8 1) ≤ Int32.toInt i3z129_ := (zi_le _ _).mp c131_
        refine pw_blk hT 1 (S' := (77, [some (pvR 0), some (pvI i1z129_), some (pvI i2z129_), some (pvI i3z129_), v4z129_], [pvI i1z129_], Mz129_)) rfl ⟨trivial, trivial⟩ ?_
        exact pw_ret hT rfl (r := some (pvI i1z129_)) (M' := Mz129_) ⟨rfl, rfl⟩ ⟨⟨_, rfl, h1z129_⟩, oz129_, fz129_⟩
      · have b133_ : 1 ≤ Int32.toInt (Mz129_.1 8 1) ∧ Int32.toInt (Mz129_.1 8 1) ≤ 7 := zr_nle_l 1 c131_ b130_ h3z129_ (by decide)
        have b134_ : 0 ≤ Int32.toInt i3z129_ ∧ Int32.toInt i3z129_ ≤ 6 := zr_nle_r 6 c131_ h3z129_ b133_ (by decide)
        have d135_ : Int32.toInt (Mz129_.1 8 1) > Int32.toInt i3z129_ := Int.not_le.mp ((not_congr (zi_le _ _)).mp c131_)
        refine pw_blkr hT 5 (pc := 34) (lo := [some (pvR 0), some (pvI i1z129_), some (pvI i2z129_), some (pvI i3z129_), v4z129_]) (st := []) (M := Mz129_) (z := (pvbs 10 + Int32.toNatClampNeg i3z129_)) rfl ⟨trivial, rfl, rfl, trivial, ⟨rfl, (zr_in (n := 7) b134_ (by decide) (by decide))⟩, trivial⟩ (fun q136_ e138_ => ?_)
        have k137_ : pvkl q136_ = 3 := pvel_10 (zr_in (n := 7) b134_ (by decide) (by decide)) e138_
        have b139_ : 0 ≤ Int32.toInt (Mz129_.1 q136_ 5) ∧ Int32.toInt (Mz129_.1 q136_ 5) ≤ 1 := pvok_r oz129_ q136_ 5 ((pvrg_o 5 k137_ (by decide) (by decide)).trans rfl)
        refine pw_blk hT 1 (S' := (37, [some (pvR 0), some (pvI i1z129_), some (pvI i2z129_), some (pvI i3z129_), v4z129_], [pvI (Mz129_.1 q136_ 5)], Mz129_)) rfl ⟨k137_, trivial⟩ ?_
        refine pw_if hT (c := (Mz129_.1 q136_ 5) = 0) rfl rfl (fun c140_ => ?_) (fun c140_ => ?_)
        · have b141_ : 0 ≤ Int32.toInt (Mz129_.1 q136_ 5) ∧ Int32.toInt (Mz129_.1 q136_ 5) ≤ 0 := (by have u0 := b139_; have u1 := (zi_eq _ _).mp c140_; have u2 := (show 0 ≤ Int32.toInt 0 ∧ Int32.toInt 0 ≤ 0 from (by decide)); omega)
          refine pw_blk hT 3 (S' := (48, [some (pvR 0), some (pvI i1z129_), some (pvI i2z129_), some (pvI i3z129_), v4z129_], [pvI i3z129_, pvR 5], Mz129_)) rfl ⟨trivial, rfl, trivial, trivial⟩ ?_
          refine pw_callG hT (as := [pvR 5, pvI i3z129_]) (lo1 := [some (pvR 5), some (pvI i3z129_)]) (d1 := d) (rest := []) rfl rfl rfl rfl rfl (fun _ => rfl) (Nat.zero_le _) rfl rfl rfl (sf_X1_costOfOne_5_x Mz129_ oz129_ i3z129_ b134_ d) (fun x142_ M143_ b144_ o145_ g146_ => ?_)
          have f147_ : pvFr fp_X9_next_0 M M143_ := pvfr_t g146_ fz129_ fp_X9_next_0_fp_X1_costOfOne_5_x
          refine pw_blk hT 3 (S' := (56, [some (pvR 0), some (pvI i1z129_), some (pvI i2z129_), some (pvI i3z129_), some (pvI x142_)], [pvI (-5), pvI i1z129_], M143_)) rfl ⟨trivial, trivial, trivial, trivial⟩ ?_
          refine pw_ic hT (c := i1z129_ = (-5)) rfl rfl (fun c148_ => ?_) (fun c148_ => ?_)
          · have b149_ : (-5) ≤ Int32.toInt i1z129_ ∧ Int32.toInt i1z129_ ≤ (-5) := (by have u0 := h1z129_; have u1 := (zi_eq _ _).mp c148_; have u2 := (show (-5) ≤ Int32.toInt (-5) ∧ Int32.toInt (-5) ≤ (-5) from (by decide)); omega)
            obtain ⟨q151_, b150_⟩ : (Int32.toInt (i3z129_ + 1) = Int32.toInt i3z129_ + 1) ∧ (1 ≤ Int32.toInt (i3z129_ + 1) ∧ Int32.toInt (i3z129_ + 1) ≤ 7) := zadd_k i3z129_ 1 1 1 7 b134_ (by decide) (by decide) (by decide) (by decide) (by decide)
            refine pw_blk hT 6 (S' := (14, [some (pvR 0), some (pvI i3z129_), some (pvI x142_), some (pvI (i3z129_ + 1)), some (pvI x142_)], [], M143_)) rfl ⟨trivial, trivial, trivial, trivial, trivial, trivial, trivial⟩ ?_
            exact ihz129_ i3z129_ x142_ (i3z129_ + 1) (some (pvI x142_)) M143_ o145_ f147_ (zr_wide b134_ (by decide) (by decide)) (zr_wide b150_ (by decide) (by decide)) (zhid (pvms_up (zshow hmz129_) h3z129_ q151_ (by decide) (by decide)))
          · have b152_ : (-4) ≤ Int32.toInt i1z129_ ∧ Int32.toInt i1z129_ ≤ 2147483647 := (by have u0 := h1z129_; have u1 := (not_congr (zi_eq _ _)).mp c148_; have u2 := (show (-5) ≤ Int32.toInt (-5) ∧ Int32.toInt (-5) ≤ (-5) from (by decide)); omega)
            refine pw_blk hT 2 (S' := (62, [some (pvR 0), some (pvI i1z129_), some (pvI i2z129_), some (pvI i3z129_), some (pvI x142_)], [pvI i2z129_, pvI x142_], M143_)) rfl ⟨trivial, trivial, trivial⟩ ?_
            refine pw_ic hT (c := i2z129_ ≤ x142_) rfl rfl (fun c153_ => ?_) (fun c153_ => ?_)
            · have d154_ : Int32.toInt i2z129_ ≤ Int32.toInt x142_ := (zi_le _ _).mp c153_
              obtain ⟨q156_, b155_⟩ : (Int32.toInt (i3z129_ + 1) = Int32.toInt i3z129_ + 1) ∧ (1 ≤ Int32.toInt (i3z129_ + 1) ∧ Int32.toInt (i3z129_ + 1) ≤ 7) := zadd_k i3z129_ 1 1 1 7 b134_ (by decide) (by decide) (by decide) (by decide) (by decide)
              refine pw_blk hT 2 (S' := (14, [some (pvR 0), some (pvI i1z129_), some (pvI i2z129_), some (pvI (i3z129_ + 1)), some (pvI x142_)], [], M143_)) rfl ⟨trivial, trivial, trivial⟩ ?_
              exact ihz129_ i1z129_ i2z129_ (i3z129_ + 1) (some (pvI x142_)) M143_ o145_ f147_ (zr_wide b152_ (by decide) (by decide)) (zr_wide b155_ (by decide) (by decide)) (zhid (pvms_up (zshow hmz129_) h3z129_ q156_ (by decide) (by decide)))
            · have b157_ : (-2147483647) ≤ Int32.toInt i2z129_ ∧ Int32.toInt i2z129_ ≤ 2147483647 := zr_nle_l (-2147483647) c153_ (zbnd i2z129_) (zbnd x142_) (by decide)
              have b158_ : (-2147483648) ≤ Int32.toInt x142_ ∧ Int32.toInt x142_ ≤ 2147483646 := zr_nle_r 2147483646 c153_ (zbnd x142_) b157_ (by decide)
              have d159_ : Int32.toInt i2z129_ > Int32.toInt x142_ := Int.not_le.mp ((not_congr (zi_le _ _)).mp c153_)
              obtain ⟨q161_, b160_⟩ : (Int32.toInt (i3z129_ + 1) = Int32.toInt i3z129_ + 1) ∧ (1 ≤ Int32.toInt (i3z129_ + 1) ∧ Int32.toInt (i3z129_ + 1) ≤ 7) := zadd_k i3z129_ 1 1 1 7 b134_ (by decide) (by decide) (by decide) (by decide) (by decide)
              refine pw_blk hT 6 (S' := (14, [some (pvR 0), some (pvI i3z129_), some (pvI x142_), some (pvI (i3z129_ + 1)), some (pvI x142_)], [], M143_)) rfl ⟨trivial, trivial, trivial, trivial, trivial, trivial, trivial⟩ ?_
              exact ihz129_ i3z129_ x142_ (i3z129_ + 1) (some (pvI x142_)) M143_ o145_ f147_ (zr_wide b134_ (by decide) (by decide)) (zr_wide b160_ (by decide) (by decide)) (zhid (pvms_up (zshow hmz129_) h3z129_ q161_ (by decide) (by decide)))
        · have b162_ : 1 ≤ Int32.toInt (Mz129_.1 q136_ 5) ∧ Int32.toInt (Mz129_.1 q136_ 5) ≤ 1 := (by have u0 := b139_; have u1 := (not_congr (zi_eq _ _)).mp c140_; have u2 := (show 0 ≤ Int32.toInt 0 ∧ Int32.toInt 0 ≤ 0 from (by decide)); omega)
          obtain ⟨q164_, b163_⟩ : (Int32.toInt (i3z129_ + 1) = Int32.toInt i3z129_ + 1) ∧ (1 ≤ Int32.toInt (i3z129_ + 1) ∧ Int32.toInt (i3z129_ + 1) ≤ 7) := zadd_k i3z129_ 1 1 1 7 b134_ (by decide) (by decide) (by decide) (by decide) (by decide)
          refine pw_blk hT 3 (S' := (14, [some (pvR 0), some (pvI i1z129_), some (pvI i2z129_), some (pvI (i3z129_ + 1)), v4z129_], [], Mz129_)) rfl ⟨trivial, trivial, trivial, trivial⟩ ?_
          exact ihz129_ i1z129_ i2z129_ (i3z129_ + 1) v4z129_ Mz129_ oz129_ fz129_ h1z129_ (zr_wide b163_ (by decide) (by decide)) (zhid (pvms_up (zshow hmz129_) h3z129_ q164_ (by decide) (by decide)))
  exact hlz129_ _ (-5) 0 0 none M2_ o4_ f6_ (zr_wide (show (-5) ≤ Int32.toInt (-5) ∧ Int32.toInt (-5) ≤ (-5) from (by decide)) (by decide) (by decide)) (zr_wide (show 0 ≤ Int32.toInt 0 ∧ Int32.toInt 0 ≤ 0 from (by decide)) (by decide) (by decide)) (zhid (Nat.lt_succ_self _))
def fpL_X9_odds_0_x_x : List (Nat × Nat × Nat) := [(0, 12, 0), (0, 13, 0), (0, 14, 0), (0, 5, 2), (0, 5, 3), (1, 112, 0)]
def fp_X9_odds_0_x_x (q k : Nat) : Bool := pvfp fpL_X9_odds_0_x_x q k
theorem fp_X9_odds_0_x_x_fp_X1_beginFromNow_5 (a b : Nat) (h : fp_X1_beginFromNow_5 a b = true) : fp_X9_odds_0_x_x a b = true := pvfp_sub (l1 := fpL_X1_beginFromNow_5) (l2 := fpL_X9_odds_0_x_x) (by decide) a b h
theorem fp_X9_odds_0_x_x_fp_X1_goRound_5_x (a b : Nat) (h : fp_X1_goRound_5_x a b = true) : fp_X9_odds_0_x_x a b = true := pvfp_sub (l1 := fpL_X1_goRound_5_x) (l2 := fpL_X9_odds_0_x_x) (by decide) a b h
theorem fp_X9_odds_0_x_x_fp_X1_turnTo_5_x (a b : Nat) (h : fp_X1_turnTo_5_x a b = true) : fp_X9_odds_0_x_x a b = true := pvfp_sub (l1 := fpL_X1_turnTo_5_x) (l2 := fpL_X9_odds_0_x_x) (by decide) a b h
set_option maxHeartbeats 4000000 in
set_option maxRecDepth 10000 in
theorem sf_X9_odds_0_x_x (M : pvM) (hok : pvOk M) (n1 : Int32) (n2 : Int32) (d : Nat) : PW 188 d (0, [some (pvR 0), some (pvI n1), some (pvI n2), none, none], [], M) (fun r X => (∃ x : Int64, r = some (pvJ x)) ∧ pvOk X ∧ pvFr fp_X9_odds_0_x_x M X) := by
  have hT : pvdom 188 = pvD_188 := rfl
  refine pw_blk hT 3 (S' := (4, [some (pvR 0), some (pvI n1), some (pvI n2), none, none], [pvI 99999, pvI 0, pvI n1], M)) rfl ⟨trivial, trivial, trivial, trivial⟩ ?_
  refine pw_callT hT (as := [pvI n1, pvI 0, pvI 99999]) (lo1 := [some (pvI n1), some (pvI 0), some (pvI 99999)]) (d1 := d) (rest := []) rfl rfl rfl rfl rfl (fun h => absurd h (by decide)) (Nat.zero_le _) rfl rfl rfl (sf_X9_within_x_x_x M hok n1 0 99999 d) ?_
  by_cases c6_ : n1 < 0
  · refine pw_eqI (if_pos c6_) ?_
    have b7_ : (-2147483648) ≤ Int32.toInt n1 ∧ Int32.toInt n1 ≤ (-1) := zr_lt_l (-1) c6_ (zbnd n1) (show 0 ≤ Int32.toInt 0 ∧ Int32.toInt 0 ≤ 0 from (by decide)) (by decide)
    show PW 188 d (7, [some (pvR 0), some (pvI n1), some (pvI n2), none, none], [pvI 0], M) _
    refine pw_if hT (c := 0 = 0) rfl rfl (fun c8_ => ?_) (fun c8_ => absurd (by decide) c8_)
    refine pw_blk hT 1 (S' := (22, [some (pvR 0), some (pvI n1), some (pvI n2), none, none], [pvJ (-9223372036854775808)], M)) rfl ⟨trivial, trivial⟩ ?_
    exact pw_ret hT rfl (r := some (pvJ (-9223372036854775808))) (M' := M) ⟨rfl, rfl⟩ ⟨⟨_, rfl⟩, hok, pvfr_0⟩
  · refine pw_eqI (if_neg c6_) ?_
    have b9_ : 0 ≤ Int32.toInt n1 ∧ Int32.toInt n1 ≤ 2147483647 := zr_nlt_l 0 c6_ (zbnd n1) (show 0 ≤ Int32.toInt 0 ∧ Int32.toInt 0 ≤ 0 from (by decide)) (by decide)
    by_cases c10_ : 99999 < n1
    · refine pw_eqI (if_pos c10_) ?_
      have b11_ : 100000 ≤ Int32.toInt n1 ∧ Int32.toInt n1 ≤ 2147483647 := zr_lt_r 100000 c10_ b9_ (show 99999 ≤ Int32.toInt 99999 ∧ Int32.toInt 99999 ≤ 99999 from (by decide)) (by decide)
      show PW 188 d (7, [some (pvR 0), some (pvI n1), some (pvI n2), none, none], [pvI 0], M) _
      refine pw_if hT (c := 0 = 0) rfl rfl (fun c12_ => ?_) (fun c12_ => absurd (by decide) c12_)
      refine pw_blk hT 1 (S' := (22, [some (pvR 0), some (pvI n1), some (pvI n2), none, none], [pvJ (-9223372036854775808)], M)) rfl ⟨trivial, trivial⟩ ?_
      exact pw_ret hT rfl (r := some (pvJ (-9223372036854775808))) (M' := M) ⟨rfl, rfl⟩ ⟨⟨_, rfl⟩, hok, pvfr_0⟩
    · refine pw_eqI (if_neg c10_) ?_
      have b13_ : 0 ≤ Int32.toInt n1 ∧ Int32.toInt n1 ≤ 99999 := zr_nlt_r 99999 c10_ b9_ (show 99999 ≤ Int32.toInt 99999 ∧ Int32.toInt 99999 ≤ 99999 from (by decide)) (by decide)
      show PW 188 d (7, [some (pvR 0), some (pvI n1), some (pvI n2), none, none], [pvI 1], M) _
      refine pw_if hT (c := 1 = 0) rfl rfl (fun c14_ => absurd c14_ (by decide)) (fun c14_ => ?_)
      refine pw_blk hT 3 (S' := (13, [some (pvR 0), some (pvI n1), some (pvI n2), none, none], [pvI 1, pvI 0, pvI n2], M)) rfl ⟨trivial, trivial, trivial, trivial⟩ ?_
      refine pw_callT hT (as := [pvI n2, pvI 0, pvI 1]) (lo1 := [some (pvI n2), some (pvI 0), some (pvI 1)]) (d1 := d) (rest := []) rfl rfl rfl rfl rfl (fun h => absurd h (by decide)) (Nat.zero_le _) rfl rfl rfl (sf_X9_within_x_x_x M hok n2 0 1 d) ?_
      by_cases c20_ : n2 < 0
      · refine pw_eqI (if_pos c20_) ?_
        have b21_ : (-2147483648) ≤ Int32.toInt n2 ∧ Int32.toInt n2 ≤ (-1) := zr_lt_l (-1) c20_ (zbnd n2) (show 0 ≤ Int32.toInt 0 ∧ Int32.toInt 0 ≤ 0 from (by decide)) (by decide)
        show PW 188 d (16, [some (pvR 0), some (pvI n1), some (pvI n2), none, none], [pvI 0], M) _
        refine pw_ifn hT (c := 0 = 0) rfl rfl (fun c22_ => absurd (by decide) c22_) (fun c22_ => ?_)
        refine pw_blk hT 1 (S' := (22, [some (pvR 0), some (pvI n1), some (pvI n2), none, none], [pvJ (-9223372036854775808)], M)) rfl ⟨trivial, trivial⟩ ?_
        exact pw_ret hT rfl (r := some (pvJ (-9223372036854775808))) (M' := M) ⟨rfl, rfl⟩ ⟨⟨_, rfl⟩, hok, pvfr_0⟩
      · refine pw_eqI (if_neg c20_) ?_
        have b23_ : 0 ≤ Int32.toInt n2 ∧ Int32.toInt n2 ≤ 2147483647 := zr_nlt_l 0 c20_ (zbnd n2) (show 0 ≤ Int32.toInt 0 ∧ Int32.toInt 0 ≤ 0 from (by decide)) (by decide)
        by_cases c24_ : 1 < n2
        · refine pw_eqI (if_pos c24_) ?_
          have b25_ : 2 ≤ Int32.toInt n2 ∧ Int32.toInt n2 ≤ 2147483647 := zr_lt_r 2 c24_ b23_ (show 1 ≤ Int32.toInt 1 ∧ Int32.toInt 1 ≤ 1 from (by decide)) (by decide)
          show PW 188 d (16, [some (pvR 0), some (pvI n1), some (pvI n2), none, none], [pvI 0], M) _
          refine pw_ifn hT (c := 0 = 0) rfl rfl (fun c26_ => absurd (by decide) c26_) (fun c26_ => ?_)
          refine pw_blk hT 1 (S' := (22, [some (pvR 0), some (pvI n1), some (pvI n2), none, none], [pvJ (-9223372036854775808)], M)) rfl ⟨trivial, trivial⟩ ?_
          exact pw_ret hT rfl (r := some (pvJ (-9223372036854775808))) (M' := M) ⟨rfl, rfl⟩ ⟨⟨_, rfl⟩, hok, pvfr_0⟩
        · refine pw_eqI (if_neg c24_) ?_
          have b27_ : 0 ≤ Int32.toInt n2 ∧ Int32.toInt n2 ≤ 1 := zr_nlt_r 1 c24_ b23_ (show 1 ≤ Int32.toInt 1 ∧ Int32.toInt 1 ≤ 1 from (by decide)) (by decide)
          show PW 188 d (16, [some (pvR 0), some (pvI n1), some (pvI n2), none, none], [pvI 1], M) _
          refine pw_ifn hT (c := 1 = 0) rfl rfl (fun c28_ => ?_) (fun c28_ => absurd c28_ (by decide))
          refine pw_blk hT 2 (S' := (27, [some (pvR 0), some (pvI n1), some (pvI n2), none, none], [pvR 5], M)) rfl ⟨trivial, rfl, trivial⟩ ?_
          refine pw_callV hT (as := [pvR 5]) (lo1 := [some (pvR 5)]) (d1 := d) (rest := []) rfl rfl rfl rfl rfl (fun _ => rfl) (Nat.zero_le _) rfl rfl rfl (sf_X1_beginFromNow_5 M hok d) (fun M30_ o32_ g33_ => ?_)
          have f34_ : pvFr fp_X9_odds_0_x_x M M30_ := pvfr_t g33_ pvfr_0 fp_X9_odds_0_x_x_fp_X1_beginFromNow_5
          refine pw_blk hT 3 (S' := (35, [some (pvR 0), some (pvI n1), some (pvI n2), none, none], [pvI 0, pvR 5], M30_)) rfl ⟨trivial, rfl, trivial, trivial⟩ ?_
          refine pw_callG hT (as := [pvR 5, pvI 0]) (lo1 := [some (pvR 5), some (pvI 0)]) (d1 := d) (rest := []) rfl rfl rfl rfl rfl (fun _ => rfl) (Nat.zero_le _) rfl rfl rfl (sf_X1_goRound_5_x M30_ o32_ 0 (zr_wide (show 0 ≤ Int32.toInt 0 ∧ Int32.toInt 0 ≤ 0 from (by decide)) (by decide) (by decide)) d) (fun x35_ M36_ b37_ o38_ g39_ => ?_)
          have f40_ : pvFr fp_X9_odds_0_x_x M M36_ := pvfr_t g39_ f34_ fp_X9_odds_0_x_x_fp_X1_goRound_5_x
          refine pw_blk hT 5 (S' := (44, [some (pvR 0), some (pvI n1), some (pvI n2), some (pvI 0), some (pvI 0)], [], M36_)) rfl ⟨trivial, trivial, trivial, trivial, trivial, trivial⟩ ?_
          have hlz154_ : ∀ (nz154_ : Nat) (i3z154_ : Int32) (i4z154_ : Int32) (Mz154_ : pvM), (pvOk Mz154_) → (pvFr fp_X9_odds_0_x_x M Mz154_) → (0 ≤ Int32.toInt i3z154_ ∧ Int32.toInt i3z154_ ≤ 4) → (0 ≤ Int32.toInt i4z154_ ∧ Int32.toInt i4z154_ ≤ 4) → (Int32.toInt i3z154_ ≤ Int32.toInt i4z154_) → (zhide ((5 - Int32.toInt i4z154_).toNat < nz154_)) → PW 188 d (44, [some (pvR 0), some (pvI n1), some (pvI n2), some (pvI i3z154_), some (pvI i4z154_)], [], Mz154_) (fun r X => (∃ x : Int64, r = some (pvJ x)) ∧ pvOk X ∧ pvFr fp_X9_odds_0_x_x M X) := by
            intro nz154_
            induction nz154_ with
            | zero => intro i3z154_ i4z154_ Mz154_ oz154_ fz154_ h3z154_ h4z154_ j0z154_ hmz154_; exact absurd (zshow hmz154_) (Nat.not_lt_zero _)
            | succ nz154_ ihz154_ =>
              intro i3z154_ i4z154_ Mz154_ oz154_ fz154_ h3z154_ h4z154_ j0z154_ hmz154_
              refine pw_blk hT 2 (S' := (47, [some (pvR 0), some (pvI n1), some (pvI n2), some (pvI i3z154_), some (pvI i4z154_)], [pvI 4, pvI i4z154_], Mz154_)) rfl ⟨trivial, trivial, trivial⟩ ?_
              refine pw_ic hT (c := 4 ≤ i4z154_) rfl rfl (fun c155_ => ?_) (fun c155_ => ?_)
              · have b156_ : 4 ≤ Int32.toInt i4z154_ ∧ Int32.toInt i4z154_ ≤ 4 := zr_le_r 4 c155_ h4z154_ (show 4 ≤ Int32.toInt 4 ∧ Int32.toInt 4 ≤ 4 from (by decide)) (by decide)
                refine pw_blk hT 3 (S' := (82, [some (pvR 0), some (pvI n1), some (pvI n2), some (pvI i3z154_), some (pvI i4z154_)], [pvI n2, pvI 4, pvI i3z154_], Mz154_)) rfl ⟨trivial, trivial, trivial, trivial⟩ ?_
                refine pw_callJp hT (as := [pvI i3z154_, pvI 4, pvI n2]) (lo1 := [some (pvI i3z154_), some (pvI 4), some (pvI n2), none]) (d1 := d) (rest := []) rfl rfl rfl rfl rfl (fun h => absurd h (by decide)) (Nat.zero_le _) rfl rfl rfl (sf_X9_partOf_x_x_x Mz154_ oz154_ i3z154_ 4 n2 (zr_wide (show 4 ≤ Int32.toInt 4 ∧ Int32.toInt 4 ≤ 4 from (by decide)) (by decide) (by decide)) d) (fun x157_ b159_ => ?_)
                exact pw_ret hT rfl (r := some (pvJ x157_)) (M' := Mz154_) ⟨rfl, rfl⟩ ⟨⟨_, rfl⟩, oz154_, fz154_⟩
              · have b162_ : 0 ≤ Int32.toInt i4z154_ ∧ Int32.toInt i4z154_ ≤ 3 := zr_nle_r 3 c155_ h4z154_ (show 4 ≤ Int32.toInt 4 ∧ Int32.toInt 4 ≤ 4 from (by decide)) (by decide)
                refine pw_blk hT 3 (S' := (56, [some (pvR 0), some (pvI n1), some (pvI n2), some (pvI i3z154_), some (pvI i4z154_)], [pvI i4z154_, pvR 5], Mz154_)) rfl ⟨trivial, rfl, trivial, trivial⟩ ?_
                refine pw_callV hT (as := [pvR 5, pvI i4z154_]) (lo1 := [some (pvR 5), some (pvI i4z154_), none]) (d1 := d) (rest := []) rfl rfl rfl rfl rfl (fun _ => rfl) (Nat.zero_le _) rfl rfl rfl (sf_X1_turnTo_5_x Mz154_ oz154_ i4z154_ d) (fun M164_ o166_ g167_ => ?_)
                have f168_ : pvFr fp_X9_odds_0_x_x M M164_ := pvfr_t g167_ fz154_ fp_X9_odds_0_x_x_fp_X1_turnTo_5_x
                refine pw_blk hT 2 (S' := (63, [some (pvR 0), some (pvI n1), some (pvI n2), some (pvI i3z154_), some (pvI i4z154_)], [pvR 5], M164_)) rfl ⟨trivial, rfl, trivial⟩ ?_
                refine pw_callGp hT (as := [pvR 5]) (lo1 := [some (pvR 5)]) (d1 := d) (rest := []) rfl rfl rfl rfl rfl (fun _ => rfl) (Nat.zero_le _) rfl rfl rfl (sf_X1_cost_5 M164_ o166_ d) (fun x169_ b171_ => ?_)
                refine pw_blk hT 1 (S' := (67, [some (pvR 0), some (pvI n1), some (pvI n2), some (pvI i3z154_), some (pvI i4z154_)], [pvI n1, pvI x169_], M164_)) rfl ⟨trivial, trivial⟩ ?_
                refine pw_ic hT (c := n1 < x169_) rfl rfl (fun c174_ => ?_) (fun c174_ => ?_)
                · have b175_ : 1 ≤ Int32.toInt x169_ ∧ Int32.toInt x169_ ≤ 2147483647 := zr_lt_r 1 c174_ (zbnd x169_) b13_ (by decide)
                  have d176_ : Int32.toInt n1 < Int32.toInt x169_ := (zi_lt _ _).mp c174_
                  obtain ⟨q178_, b177_⟩ : (Int32.toInt (i4z154_ + 1) = Int32.toInt i4z154_ + 1) ∧ (1 ≤ Int32.toInt (i4z154_ + 1) ∧ Int32.toInt (i4z154_ + 1) ≤ 4) := zadd_k i4z154_ 1 1 1 4 b162_ (by decide) (by decide) (by decide) (by decide) (by decide)
                  refine pw_blk hT 2 (S' := (44, [some (pvR 0), some (pvI n1), some (pvI n2), some (pvI i3z154_), some (pvI (i4z154_ + 1))], [], M164_)) rfl ⟨trivial, trivial, trivial⟩ ?_
                  have j179_ : Int32.toInt i3z154_ ≤ Int32.toInt (i4z154_ + 1) := by omega
                  exact ihz154_ i3z154_ (i4z154_ + 1) M164_ o166_ f168_ h3z154_ (zr_wide b177_ (by decide) (by decide)) j179_ (zhid (pvms_up (zshow hmz154_) h4z154_ q178_ (by decide) (by decide)))
                · have b180_ : (-2147483648) ≤ Int32.toInt x169_ ∧ Int32.toInt x169_ ≤ 99999 := zr_nlt_r 99999 c174_ (zbnd x169_) b13_ (by decide)
                  have d181_ : Int32.toInt n1 ≥ Int32.toInt x169_ := Int.not_lt.mp ((not_congr (zi_lt _ _)).mp c174_)
                  obtain ⟨q183_, b182_⟩ : (Int32.toInt (i3z154_ + 1) = Int32.toInt i3z154_ + 1) ∧ (1 ≤ Int32.toInt (i3z154_ + 1) ∧ Int32.toInt (i3z154_ + 1) ≤ 5) := zadd_k i3z154_ 1 1 1 5 h3z154_ (by decide) (by decide) (by decide) (by decide) (by decide)
                  obtain ⟨q185_, b184_⟩ : (Int32.toInt (i4z154_ + 1) = Int32.toInt i4z154_ + 1) ∧ (1 ≤ Int32.toInt (i4z154_ + 1) ∧ Int32.toInt (i4z154_ + 1) ≤ 4) := zadd_k i4z154_ 1 1 1 4 b162_ (by decide) (by decide) (by decide) (by decide) (by decide)
                  refine pw_blk hT 3 (S' := (44, [some (pvR 0), some (pvI n1), some (pvI n2), some (pvI (i3z154_ + 1)), some (pvI (i4z154_ + 1))], [], M164_)) rfl ⟨trivial, trivial, trivial, trivial⟩ ?_
                  have j186_ : Int32.toInt (i3z154_ + 1) ≤ Int32.toInt (i4z154_ + 1) := by omega
                  exact ihz154_ (i3z154_ + 1) (i4z154_ + 1) M164_ o166_ f168_ (by have u0 := b182_; omega) (zr_wide b184_ (by decide) (by decide)) j186_ (zhid (pvms_up (zshow hmz154_) h4z154_ q185_ (by decide) (by decide)))
          have u187_ : Int32.toInt 0 = 0 := by decide
          have j188_ : Int32.toInt 0 ≤ Int32.toInt 0 := by omega
          exact hlz154_ _ 0 0 M36_ o38_ f40_ (zr_wide (show 0 ≤ Int32.toInt 0 ∧ Int32.toInt 0 ≤ 0 from (by decide)) (by decide) (by decide)) (zr_wide (show 0 ≤ Int32.toInt 0 ∧ Int32.toInt 0 ≤ 0 from (by decide)) (by decide) (by decide)) j188_ (zhid (Nat.lt_succ_self _))
def fpL_X9_of_0_x_x : List (Nat × Nat × Nat) := [(0, 12, 0), (0, 13, 0), (0, 14, 0), (0, 5, 2), (0, 5, 3), (1, 112, 0)]
def fp_X9_of_0_x_x (q k : Nat) : Bool := pvfp fpL_X9_of_0_x_x q k
theorem fp_X9_of_0_x_x_fp_X1_beginFromNow_5 (a b : Nat) (h : fp_X1_beginFromNow_5 a b = true) : fp_X9_of_0_x_x a b = true := pvfp_sub (l1 := fpL_X1_beginFromNow_5) (l2 := fpL_X9_of_0_x_x) (by decide) a b h
set_option maxHeartbeats 4000000 in
set_option maxRecDepth 10000 in
theorem sf_X9_of_0_x_x (M : pvM) (hok : pvOk M) (n1 : Int32) (n2 : Int32) (d : Nat) : PW 189 d (0, [some (pvR 0), some (pvI n1), some (pvI n2), none], [], M) (fun r X => (∃ x : Int32, r = some (pvI x) ∧ True) ∧ pvOk X ∧ pvFr fp_X9_of_0_x_x M X) := by
  have hT : pvdom 189 = pvD_189 := rfl
  refine pw_blk hT 3 (S' := (5, [some (pvR 0), some (pvI n1), some (pvI n2), none], [pvI n1, pvR 8], M)) rfl ⟨trivial, rfl, trivial, trivial⟩ ?_
  refine pw_callT hT (as := [pvR 8, pvI n1]) (lo1 := [some (pvR 8), some (pvI n1)]) (d1 := d) (rest := []) rfl rfl rfl rfl rfl (fun _ => rfl) (Nat.zero_le _) rfl rfl rfl (sf_X7_has_8_x M hok n1 d) ?_
  by_cases c6_ : n1 < 0
  · refine pw_eqI (if_pos c6_) ?_
    have b7_ : (-2147483648) ≤ Int32.toInt n1 ∧ Int32.toInt n1 ≤ (-1) := zr_lt_l (-1) c6_ (zbnd n1) (show 0 ≤ Int32.toInt 0 ∧ Int32.toInt 0 ≤ 0 from (by decide)) (by decide)
    show PW 189 d (8, [some (pvR 0), some (pvI n1), some (pvI n2), none], [pvI 0], M) _
    refine pw_ifn hT (c := 0 = 0) rfl rfl (fun c8_ => absurd (by decide) c8_) (fun c8_ => ?_)
    refine pw_blk hT 1 (S' := (12, [some (pvR 0), some (pvI n1), some (pvI n2), none], [pvI (-1)], M)) rfl ⟨trivial, trivial⟩ ?_
    exact pw_ret hT rfl (r := some (pvI (-1))) (M' := M) ⟨rfl, rfl⟩ ⟨⟨_, rfl, trivial⟩, hok, pvfr_0⟩
  · refine pw_eqI (if_neg c6_) ?_
    have b9_ : 0 ≤ Int32.toInt n1 ∧ Int32.toInt n1 ≤ 2147483647 := zr_nlt_l 0 c6_ (zbnd n1) (show 0 ≤ Int32.toInt 0 ∧ Int32.toInt 0 ≤ 0 from (by decide)) (by decide)
    have b10_ : 0 ≤ Int32.toInt (M.1 8 1) ∧ Int32.toInt (M.1 8 1) ≤ 7 := pvok_r hok 8 1 rfl
    by_cases c11_ : (M.1 8 1) ≤ n1
    · refine pw_eqI (if_pos c11_) ?_
      have d12_ : Int32.toInt (M.1 8 1) ≤ Int32.toInt n1 := (zi_le _ _).mp c11_
      show PW 189 d (8, [some (pvR 0), some (pvI n1), some (pvI n2), none], [pvI 0], M) _
      refine pw_ifn hT (c := 0 = 0) rfl rfl (fun c13_ => absurd (by decide) c13_) (fun c13_ => ?_)
      refine pw_blk hT 1 (S' := (12, [some (pvR 0), some (pvI n1), some (pvI n2), none], [pvI (-1)], M)) rfl ⟨trivial, trivial⟩ ?_
      exact pw_ret hT rfl (r := some (pvI (-1))) (M' := M) ⟨rfl, rfl⟩ ⟨⟨_, rfl, trivial⟩, hok, pvfr_0⟩
    · refine pw_eqI (if_neg c11_) ?_
      have b14_ : 1 ≤ Int32.toInt (M.1 8 1) ∧ Int32.toInt (M.1 8 1) ≤ 7 := zr_nle_l 1 c11_ b10_ b9_ (by decide)
      have b15_ : 0 ≤ Int32.toInt n1 ∧ Int32.toInt n1 ≤ 6 := zr_nle_r 6 c11_ b9_ b14_ (by decide)
      have d16_ : Int32.toInt (M.1 8 1) > Int32.toInt n1 := Int.not_le.mp ((not_congr (zi_le _ _)).mp c11_)
      show PW 189 d (8, [some (pvR 0), some (pvI n1), some (pvI n2), none], [pvI 1], M) _
      refine pw_ifn hT (c := 1 = 0) rfl rfl (fun c17_ => ?_) (fun c17_ => absurd c17_ (by decide))
      refine pw_blkr hT 5 (pc := 22) (lo := [some (pvR 0), some (pvI n1), some (pvI n2), none]) (st := []) (M := M) (z := (pvbs 10 + Int32.toNatClampNeg n1)) rfl ⟨trivial, rfl, rfl, trivial, ⟨rfl, (zr_in (n := 7) b15_ (by decide) (by decide))⟩, trivial⟩ (fun q18_ e20_ => ?_)
      have k19_ : pvkl q18_ = 3 := pvel_10 (zr_in (n := 7) b15_ (by decide) (by decide)) e20_
      refine pw_blk hT 2 (S' := (24, [some (pvR 0), some (pvI n1), some (pvI n2), some (pvR q18_)], [pvI n2], M)) rfl ⟨trivial, trivial, trivial⟩ ?_
      refine pw_sw hT rfl rfl ?_
      refine And.intro (fun c21_ => ?_) (fun c21_ => ?_)
      · show PW 189 d (72, [some (pvR 0), some (pvI n1), some (pvI n2), some (pvR q18_)], [], M) _
        have b22_ : 0 ≤ Int32.toInt n2 ∧ Int32.toInt n2 ≤ 0 := (by have u0 := (zbnd n2); have u1 := (zi_eq _ _).mp c21_; have u2 := (show 0 ≤ Int32.toInt 0 ∧ Int32.toInt 0 ≤ 0 from (by decide)); omega)
        have b23_ : 0 ≤ Int32.toInt (M.1 q18_ 0) ∧ Int32.toInt (M.1 q18_ 0) ≤ 6 := pvok_r hok q18_ 0 ((pvrg_o 0 k19_ (by decide) (by decide)).trans rfl)
        refine pw_blk hT 2 (S' := (76, [some (pvR 0), some (pvI n1), some (pvI n2), some (pvR q18_)], [pvI (M.1 q18_ 0)], M)) rfl ⟨trivial, k19_, trivial⟩ ?_
        exact pw_ret hT rfl (r := some (pvI (M.1 q18_ 0))) (M' := M) ⟨rfl, rfl⟩ ⟨⟨_, rfl, trivial⟩, hok, pvfr_0⟩
      · refine And.intro (fun c24_ => ?_) (fun c24_ => ?_)
        · show PW 189 d (77, [some (pvR 0), some (pvI n1), some (pvI n2), some (pvR q18_)], [], M) _
          have b25_ : 1 ≤ Int32.toInt n2 ∧ Int32.toInt n2 ≤ 1 := (by have u0 := (zbnd n2); have u1 := (zi_eq _ _).mp c24_; have u2 := (show 1 ≤ Int32.toInt 1 ∧ Int32.toInt 1 ≤ 1 from (by decide)); omega)
          have b26_ : 0 ≤ Int32.toInt (M.1 q18_ 1) ∧ Int32.toInt (M.1 q18_ 1) ≤ 9 := pvok_r hok q18_ 1 ((pvrg_o 1 k19_ (by decide) (by decide)).trans rfl)
          refine pw_blk hT 2 (S' := (81, [some (pvR 0), some (pvI n1), some (pvI n2), some (pvR q18_)], [pvI (M.1 q18_ 1)], M)) rfl ⟨trivial, k19_, trivial⟩ ?_
          exact pw_ret hT rfl (r := some (pvI (M.1 q18_ 1))) (M' := M) ⟨rfl, rfl⟩ ⟨⟨_, rfl, trivial⟩, hok, pvfr_0⟩
        · refine And.intro (fun c27_ => ?_) (fun c27_ => ?_)
          · show PW 189 d (82, [some (pvR 0), some (pvI n1), some (pvI n2), some (pvR q18_)], [], M) _
            have b28_ : 2 ≤ Int32.toInt n2 ∧ Int32.toInt n2 ≤ 2 := (by have u0 := (zbnd n2); have u1 := (zi_eq _ _).mp c27_; have u2 := (show 2 ≤ Int32.toInt 2 ∧ Int32.toInt 2 ≤ 2 from (by decide)); omega)
            have b29_ : 0 ≤ Int32.toInt (M.1 q18_ 2) ∧ Int32.toInt (M.1 q18_ 2) ≤ 3 := pvok_r hok q18_ 2 ((pvrg_o 2 k19_ (by decide) (by decide)).trans rfl)
            refine pw_blk hT 2 (S' := (86, [some (pvR 0), some (pvI n1), some (pvI n2), some (pvR q18_)], [pvI (M.1 q18_ 2)], M)) rfl ⟨trivial, k19_, trivial⟩ ?_
            exact pw_ret hT rfl (r := some (pvI (M.1 q18_ 2))) (M' := M) ⟨rfl, rfl⟩ ⟨⟨_, rfl, trivial⟩, hok, pvfr_0⟩
          · refine And.intro (fun c30_ => ?_) (fun c30_ => ?_)
            · show PW 189 d (87, [some (pvR 0), some (pvI n1), some (pvI n2), some (pvR q18_)], [], M) _
              have b31_ : 3 ≤ Int32.toInt n2 ∧ Int32.toInt n2 ≤ 3 := (by have u0 := (zbnd n2); have u1 := (zi_eq _ _).mp c30_; have u2 := (show 3 ≤ Int32.toInt 3 ∧ Int32.toInt 3 ≤ 3 from (by decide)); omega)
              have b32_ : 0 ≤ Int32.toInt (M.1 q18_ 3) ∧ Int32.toInt (M.1 q18_ 3) ≤ 4 := pvok_r hok q18_ 3 ((pvrg_o 3 k19_ (by decide) (by decide)).trans rfl)
              refine pw_blk hT 2 (S' := (91, [some (pvR 0), some (pvI n1), some (pvI n2), some (pvR q18_)], [pvI (M.1 q18_ 3)], M)) rfl ⟨trivial, k19_, trivial⟩ ?_
              exact pw_ret hT rfl (r := some (pvI (M.1 q18_ 3))) (M' := M) ⟨rfl, rfl⟩ ⟨⟨_, rfl, trivial⟩, hok, pvfr_0⟩
            · refine And.intro (fun c33_ => ?_) (fun c33_ => ?_)
              · show PW 189 d (92, [some (pvR 0), some (pvI n1), some (pvI n2), some (pvR q18_)], [], M) _
                have b34_ : 4 ≤ Int32.toInt n2 ∧ Int32.toInt n2 ≤ 4 := (by have u0 := (zbnd n2); have u1 := (zi_eq _ _).mp c33_; have u2 := (show 4 ≤ Int32.toInt 4 ∧ Int32.toInt 4 ≤ 4 from (by decide)); omega)
                have b35_ : 0 ≤ Int32.toInt (M.1 q18_ 4) ∧ Int32.toInt (M.1 q18_ 4) ≤ 9 := pvok_r hok q18_ 4 ((pvrg_o 4 k19_ (by decide) (by decide)).trans rfl)
                refine pw_blk hT 2 (S' := (96, [some (pvR 0), some (pvI n1), some (pvI n2), some (pvR q18_)], [pvI (M.1 q18_ 4)], M)) rfl ⟨trivial, k19_, trivial⟩ ?_
                exact pw_ret hT rfl (r := some (pvI (M.1 q18_ 4))) (M' := M) ⟨rfl, rfl⟩ ⟨⟨_, rfl, trivial⟩, hok, pvfr_0⟩
              · refine And.intro (fun c36_ => ?_) (fun c36_ => ?_)
                · show PW 189 d (97, [some (pvR 0), some (pvI n1), some (pvI n2), some (pvR q18_)], [], M) _
                  have b37_ : 5 ≤ Int32.toInt n2 ∧ Int32.toInt n2 ≤ 5 := (by have u0 := (zbnd n2); have u1 := (zi_eq _ _).mp c36_; have u2 := (show 5 ≤ Int32.toInt 5 ∧ Int32.toInt 5 ≤ 5 from (by decide)); omega)
                  have b38_ : 0 ≤ Int32.toInt (M.1 q18_ 5) ∧ Int32.toInt (M.1 q18_ 5) ≤ 1 := pvok_r hok q18_ 5 ((pvrg_o 5 k19_ (by decide) (by decide)).trans rfl)
                  refine pw_blk hT 2 (S' := (101, [some (pvR 0), some (pvI n1), some (pvI n2), some (pvR q18_)], [pvI (M.1 q18_ 5)], M)) rfl ⟨trivial, k19_, trivial⟩ ?_
                  refine pw_if hT (c := (M.1 q18_ 5) = 0) rfl rfl (fun c39_ => ?_) (fun c39_ => ?_)
                  · have b40_ : 0 ≤ Int32.toInt (M.1 q18_ 5) ∧ Int32.toInt (M.1 q18_ 5) ≤ 0 := (by have u0 := b38_; have u1 := (zi_eq _ _).mp c39_; have u2 := (show 0 ≤ Int32.toInt 0 ∧ Int32.toInt 0 ≤ 0 from (by decide)); omega)
                    refine pw_blk hT 1 (S' := (109, [some (pvR 0), some (pvI n1), some (pvI n2), some (pvR q18_)], [pvI 0], M)) rfl ⟨trivial, trivial⟩ ?_
                    exact pw_ret hT rfl (r := some (pvI 0)) (M' := M) ⟨rfl, rfl⟩ ⟨⟨_, rfl, trivial⟩, hok, pvfr_0⟩
                  · have b41_ : 1 ≤ Int32.toInt (M.1 q18_ 5) ∧ Int32.toInt (M.1 q18_ 5) ≤ 1 := (by have u0 := b38_; have u1 := (not_congr (zi_eq _ _)).mp c39_; have u2 := (show 0 ≤ Int32.toInt 0 ∧ Int32.toInt 0 ≤ 0 from (by decide)); omega)
                    refine pw_blk hT 2 (S' := (109, [some (pvR 0), some (pvI n1), some (pvI n2), some (pvR q18_)], [pvI 1], M)) rfl ⟨trivial, trivial, trivial⟩ ?_
                    exact pw_ret hT rfl (r := some (pvI 1)) (M' := M) ⟨rfl, rfl⟩ ⟨⟨_, rfl, trivial⟩, hok, pvfr_0⟩
                · refine And.intro (fun c42_ => ?_) (fun c42_ => ?_)
                  · show PW 189 d (110, [some (pvR 0), some (pvI n1), some (pvI n2), some (pvR q18_)], [], M) _
                    have b43_ : 6 ≤ Int32.toInt n2 ∧ Int32.toInt n2 ≤ 6 := (by have u0 := (zbnd n2); have u1 := (zi_eq _ _).mp c42_; have u2 := (show 6 ≤ Int32.toInt 6 ∧ Int32.toInt 6 ≤ 6 from (by decide)); omega)
                    have b44_ : 0 ≤ Int32.toInt (M.1 8 6) ∧ Int32.toInt (M.1 8 6) ≤ 3 := pvok_r hok 8 6 rfl
                    have b45_ : 0 ≤ Int32.toInt (M.1 8 7) ∧ Int32.toInt (M.1 8 7) ≤ 4 := pvok_r hok 8 7 rfl
                    have b46_ : 15 ≤ Int32.toInt (M.1 8 8) ∧ Int32.toInt (M.1 8 8) ≤ 23 := pvok_r hok 8 8 rfl
                    refine pw_blkr hT 10 (pc := 132) (lo := [some (pvR 0), some (pvI n1), some (pvI n2), some (pvR q18_)]) (st := [pvI (M.1 8 7), pvI (M.1 8 6), pvR q18_]) (M := M) (z := (pvhp (M.1 8 8))) rfl ⟨trivial, trivial, rfl, rfl, trivial, rfl, rfl, trivial, rfl, rfl, trivial⟩ (fun q47_ e49_ => ?_)
                    have k48_ : pvkl q47_ = 2 := pvhp_k b46_ e49_
                    have b50_ : 0 ≤ Int32.toInt (M.1 q47_ 0) ∧ Int32.toInt (M.1 q47_ 0) ≤ 99 := pvok_r hok q47_ 0 ((pvrg_o 0 k48_ (by decide) (by decide)).trans rfl)
                    refine pw_blk hT 1 (S' := (135, [some (pvR 0), some (pvI n1), some (pvI n2), some (pvR q18_)], [pvI (M.1 q47_ 0), pvI (M.1 8 7), pvI (M.1 8 6), pvR q18_], M)) rfl ⟨k48_, trivial⟩ ?_
                    refine pw_callGp hT (as := [pvR q18_, pvI (M.1 8 6), pvI (M.1 8 7), pvI (M.1 q47_ 0)]) (lo1 := [some (pvR q18_), some (pvI (M.1 8 6)), some (pvI (M.1 8 7)), some (pvI (M.1 q47_ 0))]) (d1 := d) (rest := []) rfl rfl rfl rfl rfl (fun _ => k19_) (Nat.zero_le _) rfl rfl rfl (sf_X4_wayFrom_x_x_x_x M hok q18_ (M.1 8 6) (M.1 8 7) (M.1 q47_ 0) k19_ b44_ b45_ b50_ d) (fun x51_ b53_ => ?_)
                    exact pw_ret hT rfl (r := some (pvI x51_)) (M' := M) ⟨rfl, rfl⟩ ⟨⟨_, rfl, trivial⟩, hok, pvfr_0⟩
                  · refine And.intro (fun c56_ => ?_) (fun c56_ => ?_)
                    · show PW 189 d (139, [some (pvR 0), some (pvI n1), some (pvI n2), some (pvR q18_)], [], M) _
                      have b57_ : 7 ≤ Int32.toInt n2 ∧ Int32.toInt n2 ≤ 7 := (by have u0 := (zbnd n2); have u1 := (zi_eq _ _).mp c56_; have u2 := (show 7 ≤ Int32.toInt 7 ∧ Int32.toInt 7 ≤ 7 from (by decide)); omega)
                      refine pw_blk hT 2 (S' := (143, [some (pvR 0), some (pvI n1), some (pvI n2), some (pvR q18_)], [pvR 5], M)) rfl ⟨trivial, rfl, trivial⟩ ?_
                      refine pw_callV hT (as := [pvR 5]) (lo1 := [some (pvR 5)]) (d1 := d) (rest := []) rfl rfl rfl rfl rfl (fun _ => rfl) (Nat.zero_le _) rfl rfl rfl (sf_X1_beginFromNow_5 M hok d) (fun M59_ o61_ g62_ => ?_)
                      have f63_ : pvFr fp_X9_of_0_x_x M M59_ := pvfr_t g62_ pvfr_0 fp_X9_of_0_x_x_fp_X1_beginFromNow_5
                      have b64_ : 0 ≤ Int32.toInt (M59_.1 8 4) ∧ Int32.toInt (M59_.1 8 4) ≤ 9999 := pvok_r o61_ 8 4 rfl
                      obtain ⟨q66_, b65_⟩ : (Int32.toInt ((M59_.1 8 4) + 1) = Int32.toInt (M59_.1 8 4) + 1) ∧ (1 ≤ Int32.toInt ((M59_.1 8 4) + 1) ∧ Int32.toInt ((M59_.1 8 4) + 1) ≤ 10000) := zadd_k (M59_.1 8 4) 1 1 1 10000 b64_ (by decide) (by decide) (by decide) (by decide) (by decide)
                      refine pw_blk hT 11 (S' := (167, [some (pvR 0), some (pvI n1), some (pvI n2), some (pvR q18_)], [pvI ((M59_.1 8 4) + 1), pvI (M59_.1 8 4), pvI n1, pvR 5], M59_)) rfl ⟨trivial, rfl, trivial, trivial, rfl, rfl, trivial, rfl, rfl, trivial, trivial, trivial⟩ ?_
                      refine pw_callGp hT (as := [pvR 5, pvI n1, pvI (M59_.1 8 4), pvI ((M59_.1 8 4) + 1)]) (lo1 := [some (pvR 5), some (pvI n1), some (pvI (M59_.1 8 4)), some (pvI ((M59_.1 8 4) + 1)), none, none, none, none]) (d1 := d) (rest := []) rfl rfl rfl rfl rfl (fun _ => rfl) (Nat.zero_le _) rfl rfl rfl (sf_X1_harmOf_5_x_x_x M59_ o61_ n1 (M59_.1 8 4) ((M59_.1 8 4) + 1) b15_ (zr_wide b64_ (by decide) (by decide)) (zr_wide b65_ (by decide) (by decide)) d) (fun x67_ b69_ => ?_)
                      exact pw_ret hT rfl (r := some (pvI x67_)) (M' := M59_) ⟨rfl, rfl⟩ ⟨⟨_, rfl, trivial⟩, o61_, f63_⟩
                    · show PW 189 d (171, [some (pvR 0), some (pvI n1), some (pvI n2), some (pvR q18_)], [], M) _
                      refine pw_blk hT 1 (S' := (172, [some (pvR 0), some (pvI n1), some (pvI n2), some (pvR q18_)], [pvI (-1)], M)) rfl ⟨trivial, trivial⟩ ?_
                      exact pw_ret hT rfl (r := some (pvI (-1))) (M' := M) ⟨rfl, rfl⟩ ⟨⟨_, rfl, trivial⟩, hok, pvfr_0⟩
set_option maxHeartbeats 4000000 in
set_option maxRecDepth 10000 in
theorem sf_X9_wetMore_0_x (M : pvM) (hok : pvOk M) (n1 : Int32) (hn1 : 0 ≤ Int32.toInt n1 ∧ Int32.toInt n1 ≤ 9999) (d : Nat) : PW 209 d (0, [some (pvR 0), some (pvI n1), none], [], M) (fun r X => (∃ x : Int32, r = some (pvI x) ∧ True) ∧ X = M) := by
  have hT : pvdom 209 = pvD_209 := rfl
  have b1_ : 0 ≤ Int32.toInt (M.1 8 4) ∧ Int32.toInt (M.1 8 4) ≤ 9999 := pvok_r hok 8 4 rfl
  obtain ⟨q3_, b2_⟩ : (Int32.toInt ((M.1 8 4) + n1) = Int32.toInt (M.1 8 4) + Int32.toInt n1) ∧ (0 ≤ Int32.toInt ((M.1 8 4) + n1) ∧ Int32.toInt ((M.1 8 4) + n1) ≤ 19998) := zadd_r (M.1 8 4) n1 0 19998 b1_ hn1 (by decide) (by decide) (by decide) (by decide)
  refine pw_blk hT 10 (S' := (20, [some (pvR 0), some (pvI n1), none], [pvI ((M.1 8 4) + n1), pvI (M.1 8 4), pvR 5], M)) rfl ⟨trivial, rfl, trivial, rfl, rfl, trivial, rfl, rfl, trivial, trivial, trivial⟩ ?_
  refine pw_callGp hT (as := [pvR 5, pvI (M.1 8 4), pvI ((M.1 8 4) + n1)]) (lo1 := [some (pvR 5), some (pvI (M.1 8 4)), some (pvI ((M.1 8 4) + n1)), none, none]) (d1 := d) (rest := []) rfl rfl rfl rfl rfl (fun _ => rfl) (Nat.zero_le _) rfl rfl rfl (sf_X1_harmOfAll_5_x_x M hok (M.1 8 4) ((M.1 8 4) + n1) (zr_wide b1_ (by decide) (by decide)) (zr_wide b2_ (by decide) (by decide)) d) (fun x4_ b6_ => ?_)
  have q9_ : Int32.toInt (if (999999 - (M.1 8 5)) < x4_ then (999999 - (M.1 8 5)) else x4_) = min (Int32.toInt x4_) (Int32.toInt (999999 - (M.1 8 5))) := pvmin x4_ (999999 - (M.1 8 5))
  have b10_ : (-2147483648) ≤ Int32.toInt (if (999999 - (M.1 8 5)) < x4_ then (999999 - (M.1 8 5)) else x4_) ∧ Int32.toInt (if (999999 - (M.1 8 5)) < x4_ then (999999 - (M.1 8 5)) else x4_) ≤ 2147483647 := (by have u0 := (zbnd x4_); have u1 := (zbnd (999999 - (M.1 8 5))); omega)
  refine pw_blk hT 8 (S' := (39, [some (pvR 0), some (pvI n1), some (pvI x4_)], [pvI (if (999999 - (M.1 8 5)) < x4_ then (999999 - (M.1 8 5)) else x4_)], M)) rfl ⟨trivial, trivial, trivial, trivial, rfl, rfl, trivial, (Nat.le_of_ble_eq_true rfl), trivial⟩ ?_
  exact pw_ret hT rfl (r := some (pvI (if (999999 - (M.1 8 5)) < x4_ then (999999 - (M.1 8 5)) else x4_))) (M' := M) ⟨rfl, rfl⟩ ⟨⟨_, rfl, trivial⟩, rfl⟩
def fpL_X9_on_0_x : List (Nat × Nat × Nat) := [(0, 12, 0), (0, 13, 0), (0, 14, 0), (0, 5, 2), (0, 5, 3), (1, 112, 0)]
def fp_X9_on_0_x (q k : Nat) : Bool := pvfp fpL_X9_on_0_x q k
theorem fp_X9_on_0_x_fp_X1_beginFromNow_5 (a b : Nat) (h : fp_X1_beginFromNow_5 a b = true) : fp_X9_on_0_x a b = true := pvfp_sub (l1 := fpL_X1_beginFromNow_5) (l2 := fpL_X9_on_0_x) (by decide) a b h
set_option maxHeartbeats 4000000 in
set_option maxRecDepth 10000 in
theorem sf_X9_on_0_x (M : pvM) (hok : pvOk M) (n1 : Int32) (d : Nat) : PW 190 d (0, [some (pvR 0), some (pvI n1)], [], M) (fun r X => (∃ x : Int32, r = some (pvI x) ∧ True) ∧ pvOk X ∧ pvFr fp_X9_on_0_x M X) := by
  have hT : pvdom 190 = pvD_190 := rfl
  refine pw_blk hT 3 (S' := (4, [some (pvR 0), some (pvI n1)], [pvI 99, pvI 0, pvI n1], M)) rfl ⟨trivial, trivial, trivial, trivial⟩ ?_
  refine pw_callT hT (as := [pvI n1, pvI 0, pvI 99]) (lo1 := [some (pvI n1), some (pvI 0), some (pvI 99)]) (d1 := d) (rest := []) rfl rfl rfl rfl rfl (fun h => absurd h (by decide)) (Nat.zero_le _) rfl rfl rfl (sf_X9_within_x_x_x M hok n1 0 99 d) ?_
  by_cases c6_ : n1 < 0
  · refine pw_eqI (if_pos c6_) ?_
    have b7_ : (-2147483648) ≤ Int32.toInt n1 ∧ Int32.toInt n1 ≤ (-1) := zr_lt_l (-1) c6_ (zbnd n1) (show 0 ≤ Int32.toInt 0 ∧ Int32.toInt 0 ≤ 0 from (by decide)) (by decide)
    show PW 190 d (7, [some (pvR 0), some (pvI n1)], [pvI 0], M) _
    refine pw_ifn hT (c := 0 = 0) rfl rfl (fun c8_ => absurd (by decide) c8_) (fun c8_ => ?_)
    refine pw_blk hT 1 (S' := (12, [some (pvR 0), some (pvI n1)], [pvI (-2)], M)) rfl ⟨trivial, trivial⟩ ?_
    exact pw_ret hT rfl (r := some (pvI (-2))) (M' := M) ⟨rfl, rfl⟩ ⟨⟨_, rfl, trivial⟩, hok, pvfr_0⟩
  · refine pw_eqI (if_neg c6_) ?_
    have b9_ : 0 ≤ Int32.toInt n1 ∧ Int32.toInt n1 ≤ 2147483647 := zr_nlt_l 0 c6_ (zbnd n1) (show 0 ≤ Int32.toInt 0 ∧ Int32.toInt 0 ≤ 0 from (by decide)) (by decide)
    by_cases c10_ : 99 < n1
    · refine pw_eqI (if_pos c10_) ?_
      have b11_ : 100 ≤ Int32.toInt n1 ∧ Int32.toInt n1 ≤ 2147483647 := zr_lt_r 100 c10_ b9_ (show 99 ≤ Int32.toInt 99 ∧ Int32.toInt 99 ≤ 99 from (by decide)) (by decide)
      show PW 190 d (7, [some (pvR 0), some (pvI n1)], [pvI 0], M) _
      refine pw_ifn hT (c := 0 = 0) rfl rfl (fun c12_ => absurd (by decide) c12_) (fun c12_ => ?_)
      refine pw_blk hT 1 (S' := (12, [some (pvR 0), some (pvI n1)], [pvI (-2)], M)) rfl ⟨trivial, trivial⟩ ?_
      exact pw_ret hT rfl (r := some (pvI (-2))) (M' := M) ⟨rfl, rfl⟩ ⟨⟨_, rfl, trivial⟩, hok, pvfr_0⟩
    · refine pw_eqI (if_neg c10_) ?_
      have b13_ : 0 ≤ Int32.toInt n1 ∧ Int32.toInt n1 ≤ 99 := zr_nlt_r 99 c10_ b9_ (show 99 ≤ Int32.toInt 99 ∧ Int32.toInt 99 ≤ 99 from (by decide)) (by decide)
      show PW 190 d (7, [some (pvR 0), some (pvI n1)], [pvI 1], M) _
      refine pw_ifn hT (c := 1 = 0) rfl rfl (fun c14_ => ?_) (fun c14_ => absurd c14_ (by decide))
      refine pw_blk hT 2 (S' := (17, [some (pvR 0), some (pvI n1)], [pvR 5], M)) rfl ⟨trivial, rfl, trivial⟩ ?_
      refine pw_callV hT (as := [pvR 5]) (lo1 := [some (pvR 5)]) (d1 := d) (rest := []) rfl rfl rfl rfl rfl (fun _ => rfl) (Nat.zero_le _) rfl rfl rfl (sf_X1_beginFromNow_5 M hok d) (fun M16_ o18_ g19_ => ?_)
      have f20_ : pvFr fp_X9_on_0_x M M16_ := pvfr_t g19_ pvfr_0 fp_X9_on_0_x_fp_X1_beginFromNow_5
      refine pw_blk hT 2 (S' := (22, [some (pvR 0), some (pvI n1)], [pvI n1, pvR 0], M16_)) rfl ⟨trivial, trivial, trivial⟩ ?_
      refine pw_callGp hT (as := [pvR 0, pvI n1]) (lo1 := [some (pvR 0), some (pvI n1), none]) (d1 := d) (rest := []) rfl rfl rfl rfl rfl (fun _ => rfl) (Nat.zero_le _) rfl rfl rfl (sf_X9_wetMore_0_x M16_ o18_ n1 (zr_wide b13_ (by decide) (by decide)) d) (fun x21_ b23_ => ?_)
      exact pw_ret hT rfl (r := some (pvI x21_)) (M' := M16_) ⟨rfl, rfl⟩ ⟨⟨_, rfl, trivial⟩, o18_, f20_⟩
def fpL_X9_go_0_x : List (Nat × Nat × Nat) := [(0, 8, 5), (0, 8, 6)]
def fp_X9_go_0_x (q k : Nat) : Bool := pvfp fpL_X9_go_0_x q k
set_option maxHeartbeats 4000000 in
set_option maxRecDepth 10000 in
theorem sf_X9_go_0_x (M : pvM) (hok : pvOk M) (n1 : Int32) (hn1 : 0 ≤ Int32.toInt n1 ∧ Int32.toInt n1 ≤ 9999) (hx0 : Int32.toInt (M.1 8 4) + Int32.toInt n1 ≤ 9999) (d : Nat) : PW 175 d (0, [some (pvR 0), some (pvI n1), none], [], M) (fun r X => (∃ x : Int32, r = some (pvI x) ∧ True) ∧ pvOk X ∧ pvFr fp_X9_go_0_x M X) := by
  have hT : pvdom 175 = pvD_175 := rfl
  have b1_ : 0 ≤ Int32.toInt (M.1 8 4) ∧ Int32.toInt (M.1 8 4) ≤ 9999 := pvok_r hok 8 4 rfl
  refine pw_blk hT 2 (S' := (2, [some (pvR 0), some (pvI n1), none], [pvI n1, pvR 0], M)) rfl ⟨trivial, trivial, trivial⟩ ?_
  refine pw_callGp hT (as := [pvR 0, pvI n1]) (lo1 := [some (pvR 0), some (pvI n1), none]) (d1 := d) (rest := []) rfl rfl rfl rfl rfl (fun _ => rfl) (Nat.zero_le _) rfl rfl rfl (sf_X9_wetMore_0_x M hok n1 hn1 d) (fun x2_ b4_ => ?_)
  refine pw_blkw hT 8 (pc := 19) (lo := [some (pvR 0), some (pvI n1), some (pvI x2_)]) (st := []) (M := pvu M 8 5 ((M.1 8 5) + x2_)) rfl ⟨trivial, trivial, rfl, trivial, rfl, trivial, trivial, rfl, trivial⟩ (fun M7_ e8_ => ?_)
  have o9_ : pvOk M7_ := pvok_u2 e8_ hok rfl (zbnd ((M.1 8 5) + x2_))
  have f10_ : pvFr fp_X9_go_0_x M M7_ := pvfr_u e8_ pvfr_0 rfl
  have e11_ : (M7_.1 8 4) = (M.1 8 4) := (pvu_n e8_ 8 4 (Or.inr (by decide)))
  have b12_ : 0 ≤ Int32.toInt (M7_.1 8 4) ∧ Int32.toInt (M7_.1 8 4) ≤ 9999 := pvok_r o9_ 8 4 rfl
  have d13_ : Int32.toInt (M7_.1 8 4) = Int32.toInt (M.1 8 4) := congrArg Int32.toInt e11_
  obtain ⟨q15_, b14_⟩ : (Int32.toInt ((M7_.1 8 4) + n1) = Int32.toInt (M7_.1 8 4) + Int32.toInt n1) ∧ (0 ≤ Int32.toInt ((M7_.1 8 4) + n1) ∧ Int32.toInt ((M7_.1 8 4) + n1) ≤ 19998) := zadd_r (M7_.1 8 4) n1 0 19998 b12_ hn1 (by decide) (by decide) (by decide) (by decide)
  refine pw_blkw hT 7 (pc := 32) (lo := [some (pvR 0), some (pvI n1), some (pvI x2_)]) (st := []) (M := pvu M7_ 8 4 ((M7_.1 8 4) + n1)) rfl ⟨trivial, rfl, trivial, rfl, trivial, trivial, rfl, trivial⟩ (fun M16_ e17_ => ?_)
  have o18_ : pvOk M16_ := pvok_u2 e17_ o9_ rfl (by have u0 := b14_; omega)
  have f19_ : pvFr fp_X9_go_0_x M M16_ := pvfr_u e17_ f10_ rfl
  refine pw_blk hT 1 (S' := (33, [some (pvR 0), some (pvI n1), some (pvI x2_)], [pvI x2_], M16_)) rfl ⟨trivial, trivial⟩ ?_
  exact pw_ret hT rfl (r := some (pvI x2_)) (M' := M16_) ⟨rfl, rfl⟩ ⟨⟨_, rfl, trivial⟩, o18_, f19_⟩
def fpL_X9_pass_0_x : List (Nat × Nat × Nat) := [(0, 12, 0), (0, 13, 0), (0, 14, 0), (0, 5, 2), (0, 5, 3), (0, 8, 5), (0, 8, 6), (1, 112, 0)]
def fp_X9_pass_0_x (q k : Nat) : Bool := pvfp fpL_X9_pass_0_x q k
theorem fp_X9_pass_0_x_fp_X1_beginFromNow_5 (a b : Nat) (h : fp_X1_beginFromNow_5 a b = true) : fp_X9_pass_0_x a b = true := pvfp_sub (l1 := fpL_X1_beginFromNow_5) (l2 := fpL_X9_pass_0_x) (by decide) a b h
theorem fp_X9_pass_0_x_fp_X9_go_0_x (a b : Nat) (h : fp_X9_go_0_x a b = true) : fp_X9_pass_0_x a b = true := pvfp_sub (l1 := fpL_X9_go_0_x) (l2 := fpL_X9_pass_0_x) (by decide) a b h
set_option maxHeartbeats 4000000 in
set_option maxRecDepth 10000 in
theorem sf_X9_pass_0_x (M : pvM) (hok : pvOk M) (n1 : Int32) (d : Nat) : PW 192 d (0, [some (pvR 0), some (pvI n1)], [], M) (fun r X => (∃ x : Int32, r = some (pvI x) ∧ True) ∧ pvOk X ∧ pvFr fp_X9_pass_0_x M X) := by
  have hT : pvdom 192 = pvD_192 := rfl
  have b1_ : 0 ≤ Int32.toInt (M.1 8 4) ∧ Int32.toInt (M.1 8 4) ≤ 9999 := pvok_r hok 8 4 rfl
  refine pw_blk hT 3 (S' := (4, [some (pvR 0), some (pvI n1)], [pvI 99, pvI 0, pvI n1], M)) rfl ⟨trivial, trivial, trivial, trivial⟩ ?_
  refine pw_callT hT (as := [pvI n1, pvI 0, pvI 99]) (lo1 := [some (pvI n1), some (pvI 0), some (pvI 99)]) (d1 := d) (rest := []) rfl rfl rfl rfl rfl (fun h => absurd h (by decide)) (Nat.zero_le _) rfl rfl rfl (sf_X9_within_x_x_x M hok n1 0 99 d) ?_
  by_cases c7_ : n1 < 0
  · refine pw_eqI (if_pos c7_) ?_
    have b8_ : (-2147483648) ≤ Int32.toInt n1 ∧ Int32.toInt n1 ≤ (-1) := zr_lt_l (-1) c7_ (zbnd n1) (show 0 ≤ Int32.toInt 0 ∧ Int32.toInt 0 ≤ 0 from (by decide)) (by decide)
    show PW 192 d (7, [some (pvR 0), some (pvI n1)], [pvI 0], M) _
    refine pw_ifn hT (c := 0 = 0) rfl rfl (fun c9_ => absurd (by decide) c9_) (fun c9_ => ?_)
    refine pw_blk hT 1 (S' := (12, [some (pvR 0), some (pvI n1)], [pvI (-2)], M)) rfl ⟨trivial, trivial⟩ ?_
    exact pw_ret hT rfl (r := some (pvI (-2))) (M' := M) ⟨rfl, rfl⟩ ⟨⟨_, rfl, trivial⟩, hok, pvfr_0⟩
  · refine pw_eqI (if_neg c7_) ?_
    have b10_ : 0 ≤ Int32.toInt n1 ∧ Int32.toInt n1 ≤ 2147483647 := zr_nlt_l 0 c7_ (zbnd n1) (show 0 ≤ Int32.toInt 0 ∧ Int32.toInt 0 ≤ 0 from (by decide)) (by decide)
    by_cases c11_ : 99 < n1
    · refine pw_eqI (if_pos c11_) ?_
      have b12_ : 100 ≤ Int32.toInt n1 ∧ Int32.toInt n1 ≤ 2147483647 := zr_lt_r 100 c11_ b10_ (show 99 ≤ Int32.toInt 99 ∧ Int32.toInt 99 ≤ 99 from (by decide)) (by decide)
      show PW 192 d (7, [some (pvR 0), some (pvI n1)], [pvI 0], M) _
      refine pw_ifn hT (c := 0 = 0) rfl rfl (fun c13_ => absurd (by decide) c13_) (fun c13_ => ?_)
      refine pw_blk hT 1 (S' := (12, [some (pvR 0), some (pvI n1)], [pvI (-2)], M)) rfl ⟨trivial, trivial⟩ ?_
      exact pw_ret hT rfl (r := some (pvI (-2))) (M' := M) ⟨rfl, rfl⟩ ⟨⟨_, rfl, trivial⟩, hok, pvfr_0⟩
    · refine pw_eqI (if_neg c11_) ?_
      have b14_ : 0 ≤ Int32.toInt n1 ∧ Int32.toInt n1 ≤ 99 := zr_nlt_r 99 c11_ b10_ (show 99 ≤ Int32.toInt 99 ∧ Int32.toInt 99 ≤ 99 from (by decide)) (by decide)
      show PW 192 d (7, [some (pvR 0), some (pvI n1)], [pvI 1], M) _
      refine pw_ifn hT (c := 1 = 0) rfl rfl (fun c15_ => ?_) (fun c15_ => absurd c15_ (by decide))
      obtain ⟨q17_, b16_⟩ : (Int32.toInt ((M.1 8 4) + n1) = Int32.toInt (M.1 8 4) + Int32.toInt n1) ∧ (0 ≤ Int32.toInt ((M.1 8 4) + n1) ∧ Int32.toInt ((M.1 8 4) + n1) ≤ 10098) := zadd_r (M.1 8 4) n1 0 10098 b1_ b14_ (by decide) (by decide) (by decide) (by decide)
      refine pw_blk hT 6 (S' := (25, [some (pvR 0), some (pvI n1)], [pvI 9999, pvI ((M.1 8 4) + n1)], M)) rfl ⟨trivial, rfl, rfl, trivial, trivial, trivial, trivial⟩ ?_
      refine pw_ic hT (c := ((M.1 8 4) + n1) ≤ 9999) rfl rfl (fun c18_ => ?_) (fun c18_ => ?_)
      · have b19_ : 0 ≤ Int32.toInt ((M.1 8 4) + n1) ∧ Int32.toInt ((M.1 8 4) + n1) ≤ 9999 := zr_le_l 9999 c18_ b16_ (show 9999 ≤ Int32.toInt 9999 ∧ Int32.toInt 9999 ≤ 9999 from (by decide)) (by decide)
        refine pw_blk hT 2 (S' := (35, [some (pvR 0), some (pvI n1)], [pvR 5], M)) rfl ⟨trivial, rfl, trivial⟩ ?_
        refine pw_callV hT (as := [pvR 5]) (lo1 := [some (pvR 5)]) (d1 := d) (rest := []) rfl rfl rfl rfl rfl (fun _ => rfl) (Nat.zero_le _) rfl rfl rfl (sf_X1_beginFromNow_5 M hok d) (fun M21_ o23_ g24_ => ?_)
        have f25_ : pvFr fp_X9_pass_0_x M M21_ := pvfr_t g24_ pvfr_0 fp_X9_pass_0_x_fp_X1_beginFromNow_5
        refine pw_blk hT 2 (S' := (40, [some (pvR 0), some (pvI n1)], [pvI n1, pvR 0], M21_)) rfl ⟨trivial, trivial, trivial⟩ ?_
        have e26_ : (M21_.1 8 4) = (M.1 8 4) := (g24_ 8 4 rfl)
        have b27_ : 0 ≤ Int32.toInt (M21_.1 8 4) ∧ Int32.toInt (M21_.1 8 4) ≤ 9999 := pvok_r o23_ 8 4 rfl
        have d28_ : Int32.toInt (M21_.1 8 4) = Int32.toInt (M.1 8 4) := congrArg Int32.toInt e26_
        refine pw_callG hT (as := [pvR 0, pvI n1]) (lo1 := [some (pvR 0), some (pvI n1), none]) (d1 := d) (rest := []) rfl rfl rfl rfl rfl (fun _ => rfl) (Nat.zero_le _) rfl rfl rfl (sf_X9_go_0_x M21_ o23_ n1 (zr_wide b14_ (by decide) (by decide)) (show Int32.toInt (M21_.1 8 4) + Int32.toInt n1 ≤ 9999 from (by omega)) d) (fun x29_ M30_ b31_ o32_ g33_ => ?_)
        have f34_ : pvFr fp_X9_pass_0_x M M30_ := pvfr_t g33_ f25_ fp_X9_pass_0_x_fp_X9_go_0_x
        exact pw_ret hT rfl (r := some (pvI x29_)) (M' := M30_) ⟨rfl, rfl⟩ ⟨⟨_, rfl, trivial⟩, o32_, f34_⟩
      · have b35_ : 10000 ≤ Int32.toInt ((M.1 8 4) + n1) ∧ Int32.toInt ((M.1 8 4) + n1) ≤ 10098 := zr_nle_l 10000 c18_ b16_ (show 9999 ≤ Int32.toInt 9999 ∧ Int32.toInt 9999 ≤ 9999 from (by decide)) (by decide)
        refine pw_blk hT 1 (S' := (30, [some (pvR 0), some (pvI n1)], [pvI (-3)], M)) rfl ⟨trivial, trivial⟩ ?_
        exact pw_ret hT rfl (r := some (pvI (-3))) (M' := M) ⟨rfl, rfl⟩ ⟨⟨_, rfl, trivial⟩, hok, pvfr_0⟩
def fpL_X9_put_0_x_x : List (Nat × Nat × Nat) := [(1, 3, 6)]
def fp_X9_put_0_x_x (q k : Nat) : Bool := pvfp fpL_X9_put_0_x_x q k
set_option maxHeartbeats 4000000 in
set_option maxRecDepth 10000 in
theorem sf_X9_put_0_x_x (M : pvM) (hok : pvOk M) (n1 : Int32) (n2 : Int32) (hn2 : 0 ≤ Int32.toInt n2 ∧ Int32.toInt n2 ≤ 1) (d : Nat) : PW 193 d (0, [some (pvR 0), some (pvI n1), some (pvI n2), none, none], [], M) (fun r X => (∃ x : Int32, r = some (pvI x) ∧ (-1) ≤ Int32.toInt x ∧ Int32.toInt x ≤ 1) ∧ pvOk X ∧ pvFr fp_X9_put_0_x_x M X) := by
  have hT : pvdom 193 = pvD_193 := rfl
  refine pw_blk hT 3 (S' := (5, [some (pvR 0), some (pvI n1), some (pvI n2), none, none], [pvI n1, pvR 8], M)) rfl ⟨trivial, rfl, trivial, trivial⟩ ?_
  refine pw_callT hT (as := [pvR 8, pvI n1]) (lo1 := [some (pvR 8), some (pvI n1)]) (d1 := d) (rest := []) rfl rfl rfl rfl rfl (fun _ => rfl) (Nat.zero_le _) rfl rfl rfl (sf_X7_has_8_x M hok n1 d) ?_
  by_cases c6_ : n1 < 0
  · refine pw_eqI (if_pos c6_) ?_
    have b7_ : (-2147483648) ≤ Int32.toInt n1 ∧ Int32.toInt n1 ≤ (-1) := zr_lt_l (-1) c6_ (zbnd n1) (show 0 ≤ Int32.toInt 0 ∧ Int32.toInt 0 ≤ 0 from (by decide)) (by decide)
    show PW 193 d (8, [some (pvR 0), some (pvI n1), some (pvI n2), none, none], [pvI 0], M) _
    refine pw_ifn hT (c := 0 = 0) rfl rfl (fun c8_ => absurd (by decide) c8_) (fun c8_ => ?_)
    refine pw_blk hT 1 (S' := (12, [some (pvR 0), some (pvI n1), some (pvI n2), none, none], [pvI (-1)], M)) rfl ⟨trivial, trivial⟩ ?_
    exact pw_ret hT rfl (r := some (pvI (-1))) (M' := M) ⟨rfl, rfl⟩ ⟨⟨_, rfl, (zr_wide (show (-1) ≤ Int32.toInt (-1) ∧ Int32.toInt (-1) ≤ (-1) from (by decide)) (by decide) (by decide))⟩, hok, pvfr_0⟩
  · refine pw_eqI (if_neg c6_) ?_
    have b9_ : 0 ≤ Int32.toInt n1 ∧ Int32.toInt n1 ≤ 2147483647 := zr_nlt_l 0 c6_ (zbnd n1) (show 0 ≤ Int32.toInt 0 ∧ Int32.toInt 0 ≤ 0 from (by decide)) (by decide)
    have b10_ : 0 ≤ Int32.toInt (M.1 8 1) ∧ Int32.toInt (M.1 8 1) ≤ 7 := pvok_r hok 8 1 rfl
    by_cases c11_ : (M.1 8 1) ≤ n1
    · refine pw_eqI (if_pos c11_) ?_
      have d12_ : Int32.toInt (M.1 8 1) ≤ Int32.toInt n1 := (zi_le _ _).mp c11_
      show PW 193 d (8, [some (pvR 0), some (pvI n1), some (pvI n2), none, none], [pvI 0], M) _
      refine pw_ifn hT (c := 0 = 0) rfl rfl (fun c13_ => absurd (by decide) c13_) (fun c13_ => ?_)
      refine pw_blk hT 1 (S' := (12, [some (pvR 0), some (pvI n1), some (pvI n2), none, none], [pvI (-1)], M)) rfl ⟨trivial, trivial⟩ ?_
      exact pw_ret hT rfl (r := some (pvI (-1))) (M' := M) ⟨rfl, rfl⟩ ⟨⟨_, rfl, (zr_wide (show (-1) ≤ Int32.toInt (-1) ∧ Int32.toInt (-1) ≤ (-1) from (by decide)) (by decide) (by decide))⟩, hok, pvfr_0⟩
    · refine pw_eqI (if_neg c11_) ?_
      have b14_ : 1 ≤ Int32.toInt (M.1 8 1) ∧ Int32.toInt (M.1 8 1) ≤ 7 := zr_nle_l 1 c11_ b10_ b9_ (by decide)
      have b15_ : 0 ≤ Int32.toInt n1 ∧ Int32.toInt n1 ≤ 6 := zr_nle_r 6 c11_ b9_ b14_ (by decide)
      have d16_ : Int32.toInt (M.1 8 1) > Int32.toInt n1 := Int.not_le.mp ((not_congr (zi_le _ _)).mp c11_)
      show PW 193 d (8, [some (pvR 0), some (pvI n1), some (pvI n2), none, none], [pvI 1], M) _
      refine pw_ifn hT (c := 1 = 0) rfl rfl (fun c17_ => ?_) (fun c17_ => absurd c17_ (by decide))
      refine pw_blkr hT 5 (pc := 22) (lo := [some (pvR 0), some (pvI n1), some (pvI n2), none, none]) (st := []) (M := M) (z := (pvbs 10 + Int32.toNatClampNeg n1)) rfl ⟨trivial, rfl, rfl, trivial, ⟨rfl, (zr_in (n := 7) b15_ (by decide) (by decide))⟩, trivial⟩ (fun q18_ e20_ => ?_)
      have k19_ : pvkl q18_ = 3 := pvel_10 (zr_in (n := 7) b15_ (by decide) (by decide)) e20_
      have b21_ : 0 ≤ Int32.toInt (M.1 q18_ 5) ∧ Int32.toInt (M.1 q18_ 5) ≤ 1 := pvok_r hok q18_ 5 ((pvrg_o 5 k19_ (by decide) (by decide)).trans rfl)
      refine pw_blk hT 3 (S' := (27, [some (pvR 0), some (pvI n1), some (pvI n2), some (pvR q18_), none], [pvI (M.1 q18_ 5)], M)) rfl ⟨trivial, trivial, k19_, trivial⟩ ?_
      refine pw_if hT (c := (M.1 q18_ 5) = 0) rfl rfl (fun c22_ => ?_) (fun c22_ => ?_)
      · have b23_ : 0 ≤ Int32.toInt (M.1 q18_ 5) ∧ Int32.toInt (M.1 q18_ 5) ≤ 0 := (by have u0 := b21_; have u1 := (zi_eq _ _).mp c22_; have u2 := (show 0 ≤ Int32.toInt 0 ∧ Int32.toInt 0 ≤ 0 from (by decide)); omega)
        refine pw_blkw hT 5 (pc := 42) (lo := [some (pvR 0), some (pvI n1), some (pvI n2), some (pvR q18_), some (pvI 0)]) (st := []) (M := pvu M q18_ 5 n2) rfl ⟨trivial, trivial, trivial, trivial, ⟨k19_, pv01 hn2⟩, trivial⟩ (fun M24_ e25_ => ?_)
        have o26_ : pvOk M24_ := pvok_u2 e25_ hok ((pvrg_o 5 k19_ (by decide) (by decide)).trans rfl) hn2
        have f27_ : pvFr fp_X9_put_0_x_x M M24_ := pvfr_u e25_ pvfr_0 (pvfp_r (l := fpL_X9_put_0_x_x) (pvowr_3 k19_) (kk := 6) (by decide) (Or.inr rfl))
        refine pw_blk hT 1 (S' := (44, [some (pvR 0), some (pvI n1), some (pvI n2), some (pvR q18_), some (pvI 0)], [pvI 0], M24_)) rfl ⟨trivial, trivial⟩ ?_
        exact pw_ret hT rfl (r := some (pvI 0)) (M' := M24_) ⟨rfl, rfl⟩ ⟨⟨_, rfl, (zr_wide (show 0 ≤ Int32.toInt 0 ∧ Int32.toInt 0 ≤ 0 from (by decide)) (by decide) (by decide))⟩, o26_, f27_⟩
      · have b28_ : 1 ≤ Int32.toInt (M.1 q18_ 5) ∧ Int32.toInt (M.1 q18_ 5) ≤ 1 := (by have u0 := b21_; have u1 := (not_congr (zi_eq _ _)).mp c22_; have u2 := (show 0 ≤ Int32.toInt 0 ∧ Int32.toInt 0 ≤ 0 from (by decide)); omega)
        refine pw_blkw hT 6 (pc := 42) (lo := [some (pvR 0), some (pvI n1), some (pvI n2), some (pvR q18_), some (pvI 1)]) (st := []) (M := pvu M q18_ 5 n2) rfl ⟨trivial, trivial, trivial, trivial, trivial, ⟨k19_, pv01 hn2⟩, trivial⟩ (fun M29_ e30_ => ?_)
        have o31_ : pvOk M29_ := pvok_u2 e30_ hok ((pvrg_o 5 k19_ (by decide) (by decide)).trans rfl) hn2
        have f32_ : pvFr fp_X9_put_0_x_x M M29_ := pvfr_u e30_ pvfr_0 (pvfp_r (l := fpL_X9_put_0_x_x) (pvowr_3 k19_) (kk := 6) (by decide) (Or.inr rfl))
        refine pw_blk hT 1 (S' := (44, [some (pvR 0), some (pvI n1), some (pvI n2), some (pvR q18_), some (pvI 1)], [pvI 1], M29_)) rfl ⟨trivial, trivial⟩ ?_
        exact pw_ret hT rfl (r := some (pvI 1)) (M' := M29_) ⟨rfl, rfl⟩ ⟨⟨_, rfl, (zr_wide (show 1 ≤ Int32.toInt 1 ∧ Int32.toInt 1 ≤ 1 from (by decide)) (by decide) (by decide))⟩, o31_, f32_⟩
set_option maxHeartbeats 4000000 in
set_option maxRecDepth 10000 in
theorem sf_X9_read_0_x_x (M : pvM) (hok : pvOk M) (n1 : Int32) (n2 : Int32) (d : Nat) : PW 194 d (0, [some (pvR 0), some (pvI n1), some (pvI n2)], [], M) (fun r X => (∃ x : Int64, r = some (pvJ x)) ∧ X = M) := by
  have hT : pvdom 194 = pvD_194 := rfl
  refine pw_blk hT 1 (S' := (1, [some (pvR 0), some (pvI n1), some (pvI n2)], [pvI n1], M)) rfl ⟨trivial, trivial⟩ ?_
  refine pw_callT hT (as := [pvI n1]) (lo1 := [some (pvI n1)]) (d1 := d) (rest := []) rfl rfl rfl rfl rfl (fun h => absurd h (by decide)) (Nat.zero_le _) rfl rfl rfl (sf_X9_isTape_x M hok n1 d) ?_
  by_cases c6_ : n1 < 0
  · refine pw_eqI (if_pos c6_) ?_
    have b7_ : (-2147483648) ≤ Int32.toInt n1 ∧ Int32.toInt n1 ≤ (-1) := zr_lt_l (-1) c6_ (zbnd n1) (show 0 ≤ Int32.toInt 0 ∧ Int32.toInt 0 ≤ 0 from (by decide)) (by decide)
    show PW 194 d (4, [some (pvR 0), some (pvI n1), some (pvI n2)], [pvI 0], M) _
    refine pw_if hT (c := 0 = 0) rfl rfl (fun c8_ => ?_) (fun c8_ => absurd (by decide) c8_)
    refine pw_blk hT 1 (S' := (23, [some (pvR 0), some (pvI n1), some (pvI n2)], [pvJ (-9223372036854775808)], M)) rfl ⟨trivial, trivial⟩ ?_
    exact pw_ret hT rfl (r := some (pvJ (-9223372036854775808))) (M' := M) ⟨rfl, rfl⟩ ⟨⟨_, rfl⟩, rfl⟩
  · refine pw_eqI (if_neg c6_) ?_
    have b9_ : 0 ≤ Int32.toInt n1 ∧ Int32.toInt n1 ≤ 2147483647 := zr_nlt_l 0 c6_ (zbnd n1) (show 0 ≤ Int32.toInt 0 ∧ Int32.toInt 0 ≤ 0 from (by decide)) (by decide)
    by_cases c10_ : 5 < n1
    · refine pw_eqI (if_pos c10_) ?_
      have b11_ : 6 ≤ Int32.toInt n1 ∧ Int32.toInt n1 ≤ 2147483647 := zr_lt_r 6 c10_ b9_ (show 5 ≤ Int32.toInt 5 ∧ Int32.toInt 5 ≤ 5 from (by decide)) (by decide)
      show PW 194 d (4, [some (pvR 0), some (pvI n1), some (pvI n2)], [pvI 0], M) _
      refine pw_if hT (c := 0 = 0) rfl rfl (fun c12_ => ?_) (fun c12_ => absurd (by decide) c12_)
      refine pw_blk hT 1 (S' := (23, [some (pvR 0), some (pvI n1), some (pvI n2)], [pvJ (-9223372036854775808)], M)) rfl ⟨trivial, trivial⟩ ?_
      exact pw_ret hT rfl (r := some (pvJ (-9223372036854775808))) (M' := M) ⟨rfl, rfl⟩ ⟨⟨_, rfl⟩, rfl⟩
    · refine pw_eqI (if_neg c10_) ?_
      have b13_ : 0 ≤ Int32.toInt n1 ∧ Int32.toInt n1 ≤ 5 := zr_nlt_r 5 c10_ b9_ (show 5 ≤ Int32.toInt 5 ∧ Int32.toInt 5 ≤ 5 from (by decide)) (by decide)
      show PW 194 d (4, [some (pvR 0), some (pvI n1), some (pvI n2)], [pvI 1], M) _
      refine pw_if hT (c := 1 = 0) rfl rfl (fun c14_ => absurd c14_ (by decide)) (fun c14_ => ?_)
      refine pw_blkr hT 4 (pc := 13) (lo := [some (pvR 0), some (pvI n1), some (pvI n2)]) (st := []) (M := M) (z := (pvbs 2 + Int32.toNatClampNeg n1)) rfl ⟨trivial, rfl, trivial, ⟨rfl, (zr_in (n := 6) b13_ (by decide) (by decide))⟩, trivial⟩ (fun q15_ e17_ => ?_)
      have k16_ : pvkl q15_ = 7 := pvel_2 (zr_in (n := 6) b13_ (by decide) (by decide)) e17_
      refine pw_blk hT 1 (S' := (14, [some (pvR 0), some (pvI n1), some (pvI n2)], [pvI n2, pvR q15_], M)) rfl ⟨trivial, trivial⟩ ?_
      refine pw_callT hT (as := [pvR q15_, pvI n2]) (lo1 := [some (pvR q15_), some (pvI n2)]) (d1 := d) (rest := []) rfl rfl rfl rfl rfl (fun _ => k16_) (Nat.zero_le _) rfl rfl rfl (sf_X8_hasPlace_x_x M hok q15_ n2 k16_ d) ?_
      by_cases c23_ : n2 < 0
      · refine pw_eqI (if_pos c23_) ?_
        have b24_ : (-2147483648) ≤ Int32.toInt n2 ∧ Int32.toInt n2 ≤ (-1) := zr_lt_l (-1) c23_ (zbnd n2) (show 0 ≤ Int32.toInt 0 ∧ Int32.toInt 0 ≤ 0 from (by decide)) (by decide)
        show PW 194 d (17, [some (pvR 0), some (pvI n1), some (pvI n2)], [pvI 0], M) _
        refine pw_ifn hT (c := 0 = 0) rfl rfl (fun c25_ => absurd (by decide) c25_) (fun c25_ => ?_)
        refine pw_blk hT 1 (S' := (23, [some (pvR 0), some (pvI n1), some (pvI n2)], [pvJ (-9223372036854775808)], M)) rfl ⟨trivial, trivial⟩ ?_
        exact pw_ret hT rfl (r := some (pvJ (-9223372036854775808))) (M' := M) ⟨rfl, rfl⟩ ⟨⟨_, rfl⟩, rfl⟩
      · refine pw_eqI (if_neg c23_) ?_
        have b26_ : 0 ≤ Int32.toInt n2 ∧ Int32.toInt n2 ≤ 2147483647 := zr_nlt_l 0 c23_ (zbnd n2) (show 0 ≤ Int32.toInt 0 ∧ Int32.toInt 0 ≤ 0 from (by decide)) (by decide)
        have b27_ : 0 ≤ Int32.toInt (M.1 q15_ 1) ∧ Int32.toInt (M.1 q15_ 1) ≤ 60 := pvok_r hok q15_ 1 ((pvrg_o 1 k16_ (by decide) (by decide)).trans rfl)
        by_cases c28_ : (M.1 q15_ 1) ≤ n2
        · refine pw_eqI (if_pos c28_) ?_
          have d29_ : Int32.toInt (M.1 q15_ 1) ≤ Int32.toInt n2 := (zi_le _ _).mp c28_
          show PW 194 d (17, [some (pvR 0), some (pvI n1), some (pvI n2)], [pvI 0], M) _
          refine pw_ifn hT (c := 0 = 0) rfl rfl (fun c30_ => absurd (by decide) c30_) (fun c30_ => ?_)
          refine pw_blk hT 1 (S' := (23, [some (pvR 0), some (pvI n1), some (pvI n2)], [pvJ (-9223372036854775808)], M)) rfl ⟨trivial, trivial⟩ ?_
          exact pw_ret hT rfl (r := some (pvJ (-9223372036854775808))) (M' := M) ⟨rfl, rfl⟩ ⟨⟨_, rfl⟩, rfl⟩
        · refine pw_eqI (if_neg c28_) ?_
          have b31_ : 1 ≤ Int32.toInt (M.1 q15_ 1) ∧ Int32.toInt (M.1 q15_ 1) ≤ 60 := zr_nle_l 1 c28_ b27_ b26_ (by decide)
          have b32_ : 0 ≤ Int32.toInt n2 ∧ Int32.toInt n2 ≤ 59 := zr_nle_r 59 c28_ b26_ b31_ (by decide)
          have d33_ : Int32.toInt (M.1 q15_ 1) > Int32.toInt n2 := Int.not_le.mp ((not_congr (zi_le _ _)).mp c28_)
          show PW 194 d (17, [some (pvR 0), some (pvI n1), some (pvI n2)], [pvI 1], M) _
          refine pw_ifn hT (c := 1 = 0) rfl rfl (fun c34_ => ?_) (fun c34_ => absurd c34_ (by decide))
          refine pw_blkr hT 4 (pc := 30) (lo := [some (pvR 0), some (pvI n1), some (pvI n2)]) (st := []) (M := M) (z := (pvbs 2 + Int32.toNatClampNeg n1)) rfl ⟨trivial, rfl, trivial, ⟨rfl, (zr_in (n := 6) b13_ (by decide) (by decide))⟩, trivial⟩ (fun q35_ e37_ => ?_)
          have k36_ : pvkl q35_ = 7 := pvel_2 (zr_in (n := 6) b13_ (by decide) (by decide)) e37_
          refine pw_blk hT 3 (S' := (35, [some (pvR 0), some (pvI n1), some (pvI n2)], [pvJ (M.2 (q35_ + 6) (Int32.toNatClampNeg n2))], M)) rfl ⟨k36_, trivial, ⟨(pvow_7_6 k36_).1, (by rw [(pvow_7_6 k36_).2.1]; exact (zr_in (n := 60) b32_ (by decide) (by decide)))⟩, trivial⟩ ?_
          exact pw_ret hT rfl (r := some (pvJ (M.2 (q35_ + 6) (Int32.toNatClampNeg n2)))) (M' := M) ⟨rfl, rfl⟩ ⟨⟨_, rfl⟩, rfl⟩
