def fpL_X6_swap_106_x_x : List (Nat × Nat × Nat) := [(0, 114, 0)]
def fp_X6_swap_106_x_x (q k : Nat) : Bool := pvfp fpL_X6_swap_106_x_x q k
set_option maxHeartbeats 4000000 in
set_option maxRecDepth 10000 in
theorem sf_X6_swap_106_x_x (M : pvM) (hok : pvOk M) (n1 : Int32) (n2 : Int32) (hn1 : 0 ≤ Int32.toInt n1 ∧ Int32.toInt n1 ≤ 6) (hn2 : 0 ≤ Int32.toInt n2 ∧ Int32.toInt n2 ≤ 6) (d : Nat) : PW 157 d (0, [some (pvR 106), some (pvI n1), some (pvI n2), none], [], M) (fun r X => r = none ∧ pvOk X ∧ pvFr fp_X6_swap_106_x_x M X) := by
  have hT : pvdom 157 = pvD_157 := rfl
  have b1_ : 0 ≤ Int32.toInt (M.1 114 (Int32.toNatClampNeg n1)) ∧ Int32.toInt (M.1 114 (Int32.toNatClampNeg n1)) ≤ 6 := pvok_r hok 114 (Int32.toNatClampNeg n1) rfl
  have b2_ : 0 ≤ Int32.toInt (M.1 114 (Int32.toNatClampNeg n2)) ∧ Int32.toInt (M.1 114 (Int32.toNatClampNeg n2)) ≤ 6 := pvok_r hok 114 (Int32.toNatClampNeg n2) rfl
  refine pw_blkw hT 13 (pc := 19) (lo := [some (pvR 106), some (pvI n1), some (pvI n2), some (pvI (M.1 114 (Int32.toNatClampNeg n1)))]) (st := []) (M := pvu M 114 (Int32.toNatClampNeg n1) (M.1 114 (Int32.toNatClampNeg n2))) rfl ⟨trivial, rfl, trivial, ⟨rfl, (zr_in (n := 7) hn1 (by decide) (by decide))⟩, trivial, trivial, rfl, trivial, trivial, rfl, trivial, ⟨rfl, (zr_in (n := 7) hn2 (by decide) (by decide))⟩, ⟨rfl, (zr_in (n := 7) hn1 (by decide) (by decide))⟩, trivial⟩ (fun M3_ e4_ => ?_)
  have o5_ : pvOk M3_ := pvok_u2 e4_ hok rfl b2_
  have f6_ : pvFr fp_X6_swap_106_x_x M M3_ := pvfr_u e4_ pvfr_0 rfl
  refine pw_blkw hT 5 (pc := 26) (lo := [some (pvR 106), some (pvI n1), some (pvI n2), some (pvI (M.1 114 (Int32.toNatClampNeg n1)))]) (st := []) (M := pvu M3_ 114 (Int32.toNatClampNeg n2) (M.1 114 (Int32.toNatClampNeg n1))) rfl ⟨trivial, rfl, trivial, trivial, ⟨rfl, (zr_in (n := 7) hn2 (by decide) (by decide))⟩, trivial⟩ (fun M7_ e8_ => ?_)
  have o9_ : pvOk M7_ := pvok_u2 e8_ o5_ rfl b1_
  have f10_ : pvFr fp_X6_swap_106_x_x M M7_ := pvfr_u e8_ f6_ rfl
  exact pw_ret hT rfl (r := none) (M' := M7_) ⟨rfl, rfl⟩ ⟨rfl, o9_, f10_⟩
def fpL_X6_permute_106 : List (Nat × Nat × Nat) := [(0, 114, 0)]
def fp_X6_permute_106 (q k : Nat) : Bool := pvfp fpL_X6_permute_106 q k
theorem fp_X6_permute_106_fp_X6_swap_106_x_x (a b : Nat) (h : fp_X6_swap_106_x_x a b = true) : fp_X6_permute_106 a b = true := pvfp_sub (l1 := fpL_X6_swap_106_x_x) (l2 := fpL_X6_permute_106) (by decide) a b h
set_option maxHeartbeats 4000000 in
set_option maxRecDepth 10000 in
theorem sf_X6_permute_106 (M : pvM) (hok : pvOk M) (d : Nat) : PW 156 d (0, [some (pvR 106), none, none, none, none], [], M) (fun r X => (∃ x : Int32, r = some (pvI x) ∧ 0 ≤ Int32.toInt x ∧ Int32.toInt x ≤ 1) ∧ pvOk X ∧ pvFr fp_X6_permute_106 M X) := by
  have hT : pvdom 156 = pvD_156 := rfl
  have b1_ : 0 ≤ Int32.toInt (M.1 106 0) ∧ Int32.toInt (M.1 106 0) ≤ 7 := pvok_r hok 106 0 rfl
  obtain ⟨q3_, b2_⟩ : (Int32.toInt ((M.1 106 0) - 2) = Int32.toInt (M.1 106 0) - 2) ∧ ((-2) ≤ Int32.toInt ((M.1 106 0) - 2) ∧ Int32.toInt ((M.1 106 0) - 2) ≤ 5) := zsub_k (M.1 106 0) 2 2 (-2) 5 b1_ (by decide) (by decide) (by decide) (by decide) (by decide)
  refine pw_blk hT 5 (S' := (7, [some (pvR 106), some (pvI ((M.1 106 0) - 2)), none, none, none], [], M)) rfl ⟨trivial, rfl, trivial, trivial, trivial, trivial⟩ ?_
  have hlz408_ : ∀ (nz408_ : Nat) (i1z408_ : Int32), ((-2) ≤ Int32.toInt i1z408_ ∧ Int32.toInt i1z408_ ≤ 5) → (Int32.toInt i1z408_ ≤ Int32.toInt (M.1 106 0) - 2) → (zhide ((Int32.toInt i1z408_ + 3).toNat < nz408_)) → PW 156 d (7, [some (pvR 106), some (pvI i1z408_), none, none, none], [], M) (fun r X => (∃ x : Int32, r = some (pvI x) ∧ 0 ≤ Int32.toInt x ∧ Int32.toInt x ≤ 1) ∧ pvOk X ∧ pvFr fp_X6_permute_106 M X) := by
    intro nz408_
    induction nz408_ with
    | zero => intro i1z408_ h1z408_ j0z408_ hmz408_; exact absurd (zshow hmz408_) (Nat.not_lt_zero _)
    | succ nz408_ ihz408_ =>
      intro i1z408_ h1z408_ j0z408_ hmz408_
      refine pw_blk hT 1 (S' := (8, [some (pvR 106), some (pvI i1z408_), none, none, none], [pvI i1z408_], M)) rfl ⟨trivial, trivial⟩ ?_
      refine pw_if hT (c := i1z408_ < 0) rfl rfl (fun c409_ => ?_) (fun c409_ => ?_)
      · have b410_ : (-2) ≤ Int32.toInt i1z408_ ∧ Int32.toInt i1z408_ ≤ (-1) := zr_lt_l (-1) c409_ h1z408_ (show 0 ≤ Int32.toInt 0 ∧ Int32.toInt 0 ≤ 0 from (by decide)) (by decide)
        refine pw_blk hT 1 (S' := (35, [some (pvR 106), some (pvI i1z408_), none, none, none], [pvI i1z408_], M)) rfl ⟨trivial, trivial⟩ ?_
        refine pw_if hT (c := 0 ≤ i1z408_) rfl rfl (fun c411_ => absurd c411_ (by have z0 := (show 0 ≤ Int32.toInt 0 ∧ Int32.toInt 0 ≤ 0 from (by decide)); have z1 := b410_; rw [zi_le]; omega)) (fun c411_ => ?_)
        refine pw_blk hT 1 (S' := (39, [some (pvR 106), some (pvI i1z408_), none, none, none], [pvI 0], M)) rfl ⟨trivial, trivial⟩ ?_
        exact pw_ret hT rfl (r := some (pvI 0)) (M' := M) ⟨Or.inl rfl, rfl, rfl⟩ ⟨⟨_, rfl, (zr_wide (show 0 ≤ Int32.toInt 0 ∧ Int32.toInt 0 ≤ 0 from (by decide)) (by decide) (by decide))⟩, hok, pvfr_0⟩
      · have b412_ : 0 ≤ Int32.toInt i1z408_ ∧ Int32.toInt i1z408_ ≤ 5 := zr_nlt_l 0 c409_ h1z408_ (show 0 ≤ Int32.toInt 0 ∧ Int32.toInt 0 ≤ 0 from (by decide)) (by decide)
        have b413_ : 0 ≤ Int32.toInt (M.1 114 (Int32.toNatClampNeg i1z408_)) ∧ Int32.toInt (M.1 114 (Int32.toNatClampNeg i1z408_)) ≤ 6 := pvok_r hok 114 (Int32.toNatClampNeg i1z408_) rfl
        obtain ⟨q415_, b414_⟩ : (Int32.toInt (i1z408_ + 1) = Int32.toInt i1z408_ + 1) ∧ (1 ≤ Int32.toInt (i1z408_ + 1) ∧ Int32.toInt (i1z408_ + 1) ≤ 6) := zadd_k i1z408_ 1 1 1 6 b412_ (by decide) (by decide) (by decide) (by decide) (by decide)
        have b416_ : 0 ≤ Int32.toInt (M.1 114 (Int32.toNatClampNeg (i1z408_ + 1))) ∧ Int32.toInt (M.1 114 (Int32.toNatClampNeg (i1z408_ + 1))) ≤ 6 := pvok_r hok 114 (Int32.toNatClampNeg (i1z408_ + 1)) rfl
        refine pw_blk hT 10 (S' := (25, [some (pvR 106), some (pvI i1z408_), none, none, none], [pvI (M.1 114 (Int32.toNatClampNeg (i1z408_ + 1))), pvI (M.1 114 (Int32.toNatClampNeg i1z408_))], M)) rfl ⟨trivial, rfl, trivial, ⟨rfl, (zr_in (n := 7) b412_ (by decide) (by decide))⟩, trivial, rfl, trivial, trivial, trivial, ⟨rfl, (zr_in (n := 7) b414_ (by decide) (by decide))⟩, trivial⟩ ?_
        refine pw_ic hT (c := (M.1 114 (Int32.toNatClampNeg i1z408_)) < (M.1 114 (Int32.toNatClampNeg (i1z408_ + 1)))) rfl rfl (fun c417_ => ?_) (fun c417_ => ?_)
        · have b418_ : 0 ≤ Int32.toInt (M.1 114 (Int32.toNatClampNeg i1z408_)) ∧ Int32.toInt (M.1 114 (Int32.toNatClampNeg i1z408_)) ≤ 5 := zr_lt_l 5 c417_ b413_ b416_ (by decide)
          have b419_ : 1 ≤ Int32.toInt (M.1 114 (Int32.toNatClampNeg (i1z408_ + 1))) ∧ Int32.toInt (M.1 114 (Int32.toNatClampNeg (i1z408_ + 1))) ≤ 6 := zr_lt_r 1 c417_ b416_ b418_ (by decide)
          have d420_ : Int32.toInt (M.1 114 (Int32.toNatClampNeg i1z408_)) < Int32.toInt (M.1 114 (Int32.toNatClampNeg (i1z408_ + 1))) := (zi_lt _ _).mp c417_
          refine pw_blk hT 1 (S' := (35, [some (pvR 106), some (pvI i1z408_), none, none, none], [pvI i1z408_], M)) rfl ⟨trivial, trivial⟩ ?_
          refine pw_if hT (c := 0 ≤ i1z408_) rfl rfl (fun c421_ => ?_) (fun c421_ => absurd (by have z0 := (show 0 ≤ Int32.toInt 0 ∧ Int32.toInt 0 ≤ 0 from (by decide)); have z1 := b412_; rw [zi_le]; omega) c421_)
          obtain ⟨q423_, b422_⟩ : (Int32.toInt ((M.1 106 0) - 1) = Int32.toInt (M.1 106 0) - 1) ∧ ((-1) ≤ Int32.toInt ((M.1 106 0) - 1) ∧ Int32.toInt ((M.1 106 0) - 1) ≤ 6) := zsub_k (M.1 106 0) 1 1 (-1) 6 b1_ (by decide) (by decide) (by decide) (by decide) (by decide)
          refine pw_blk hT 5 (S' := (47, [some (pvR 106), some (pvI i1z408_), some (pvI ((M.1 106 0) - 1)), none, none], [], M)) rfl ⟨trivial, rfl, trivial, trivial, trivial, trivial⟩ ?_
          have hlz680_ : ∀ (nz680_ : Nat) (i2z680_ : Int32), (0 ≤ Int32.toInt i2z680_ ∧ Int32.toInt i2z680_ ≤ 6) → (Int32.toInt i1z408_ ≤ Int32.toInt i2z680_) → (zhide ((Int32.toInt i2z680_ + 1).toNat < nz680_)) → PW 156 d (47, [some (pvR 106), some (pvI i1z408_), some (pvI i2z680_), none, none], [], M) (fun r X => (∃ x : Int32, r = some (pvI x) ∧ 0 ≤ Int32.toInt x ∧ Int32.toInt x ≤ 1) ∧ pvOk X ∧ pvFr fp_X6_permute_106 M X) := by
            intro nz680_
            induction nz680_ with
            | zero => intro i2z680_ h2z680_ j0z680_ hmz680_; exact absurd (zshow hmz680_) (Nat.not_lt_zero _)
            | succ nz680_ ihz680_ =>
              intro i2z680_ h2z680_ j0z680_ hmz680_
              refine pw_blk hT 2 (S' := (49, [some (pvR 106), some (pvI i1z408_), some (pvI i2z680_), none, none], [pvI i1z408_, pvI i2z680_], M)) rfl ⟨trivial, trivial, trivial⟩ ?_
              refine pw_ic hT (c := i2z680_ ≤ i1z408_) rfl rfl (fun c681_ => ?_) (fun c681_ => ?_)
              · have b682_ : 0 ≤ Int32.toInt i2z680_ ∧ Int32.toInt i2z680_ ≤ 5 := zr_le_l 5 c681_ h2z680_ b412_ (by decide)
                have d683_ : Int32.toInt i2z680_ ≤ Int32.toInt i1z408_ := (zi_le _ _).mp c681_
                refine pw_blk hT 3 (S' := (76, [some (pvR 106), some (pvI i1z408_), some (pvI i2z680_), none, none], [pvI i2z680_, pvI i1z408_, pvR 106], M)) rfl ⟨trivial, trivial, trivial, trivial⟩ ?_
                refine pw_callV hT (as := [pvR 106, pvI i1z408_, pvI i2z680_]) (lo1 := [some (pvR 106), some (pvI i1z408_), some (pvI i2z680_), none]) (d1 := d) (rest := []) rfl rfl rfl rfl rfl (fun _ => rfl) (Nat.zero_le _) rfl rfl rfl (sf_X6_swap_106_x_x M hok i1z408_ i2z680_ (zr_wide b412_ (by decide) (by decide)) (zr_wide b682_ (by decide) (by decide)) d) (fun M685_ o687_ g688_ => ?_)
                have f689_ : pvFr fp_X6_permute_106 M M685_ := pvfr_t g688_ pvfr_0 fp_X6_permute_106_fp_X6_swap_106_x_x
                have b690_ : 0 ≤ Int32.toInt (M685_.1 106 0) ∧ Int32.toInt (M685_.1 106 0) ≤ 7 := pvok_r o687_ 106 0 rfl
                obtain ⟨q692_, b691_⟩ : (Int32.toInt ((M685_.1 106 0) - 1) = Int32.toInt (M685_.1 106 0) - 1) ∧ ((-1) ≤ Int32.toInt ((M685_.1 106 0) - 1) ∧ Int32.toInt ((M685_.1 106 0) - 1) ≤ 6) := zsub_k (M685_.1 106 0) 1 1 (-1) 6 b690_ (by decide) (by decide) (by decide) (by decide) (by decide)
                refine pw_blk hT 9 (S' := (91, [some (pvR 106), some (pvI i1z408_), some (pvI i2z680_), some (pvI (i1z408_ + 1)), some (pvI ((M685_.1 106 0) - 1))], [], M685_)) rfl ⟨trivial, trivial, trivial, trivial, trivial, rfl, trivial, trivial, trivial, trivial⟩ ?_
                have hlz725_ : ∀ (nz725_ : Nat) (i3z725_ : Int32) (i4z725_ : Int32) (Mz725_ : pvM), (pvOk Mz725_) → (pvFr fp_X6_permute_106 M Mz725_) → (1 ≤ Int32.toInt i3z725_ ∧ Int32.toInt i3z725_ ≤ 6) → ((-1) ≤ Int32.toInt i4z725_ ∧ Int32.toInt i4z725_ ≤ 6) → (zhide ((7 - Int32.toInt i3z725_).toNat < nz725_)) → PW 156 d (91, [some (pvR 106), some (pvI i1z408_), some (pvI i2z680_), some (pvI i3z725_), some (pvI i4z725_)], [], Mz725_) (fun r X => (∃ x : Int32, r = some (pvI x) ∧ 0 ≤ Int32.toInt x ∧ Int32.toInt x ≤ 1) ∧ pvOk X ∧ pvFr fp_X6_permute_106 M X) := by
                  intro nz725_
                  induction nz725_ with
                  | zero => intro i3z725_ i4z725_ Mz725_ oz725_ fz725_ h3z725_ h4z725_ hmz725_; exact absurd (zshow hmz725_) (Nat.not_lt_zero _)
                  | succ nz725_ ihz725_ =>
                    intro i3z725_ i4z725_ Mz725_ oz725_ fz725_ h3z725_ h4z725_ hmz725_
                    refine pw_blk hT 2 (S' := (94, [some (pvR 106), some (pvI i1z408_), some (pvI i2z680_), some (pvI i3z725_), some (pvI i4z725_)], [pvI i4z725_, pvI i3z725_], Mz725_)) rfl ⟨trivial, trivial, trivial⟩ ?_
                    refine pw_ic hT (c := i4z725_ ≤ i3z725_) rfl rfl (fun c726_ => ?_) (fun c726_ => ?_)
                    · have d727_ : Int32.toInt i4z725_ ≤ Int32.toInt i3z725_ := (zi_le _ _).mp c726_
                      refine pw_blk hT 1 (S' := (114, [some (pvR 106), some (pvI i1z408_), some (pvI i2z680_), some (pvI i3z725_), some (pvI i4z725_)], [pvI 1], Mz725_)) rfl ⟨trivial, trivial⟩ ?_
                      exact pw_ret hT rfl (r := some (pvI 1)) (M' := Mz725_) ⟨Or.inr rfl, rfl, rfl⟩ ⟨⟨_, rfl, (zr_wide (show 1 ≤ Int32.toInt 1 ∧ Int32.toInt 1 ≤ 1 from (by decide)) (by decide) (by decide))⟩, oz725_, fz725_⟩
                    · have b728_ : 2 ≤ Int32.toInt i4z725_ ∧ Int32.toInt i4z725_ ≤ 6 := zr_nle_l 2 c726_ h4z725_ h3z725_ (by decide)
                      have b729_ : 1 ≤ Int32.toInt i3z725_ ∧ Int32.toInt i3z725_ ≤ 5 := zr_nle_r 5 c726_ h3z725_ b728_ (by decide)
                      have d730_ : Int32.toInt i4z725_ > Int32.toInt i3z725_ := Int.not_le.mp ((not_congr (zi_le _ _)).mp c726_)
                      refine pw_blk hT 3 (S' := (101, [some (pvR 106), some (pvI i1z408_), some (pvI i2z680_), some (pvI i3z725_), some (pvI i4z725_)], [pvI i4z725_, pvI i3z725_, pvR 106], Mz725_)) rfl ⟨trivial, trivial, trivial, trivial⟩ ?_
                      refine pw_callV hT (as := [pvR 106, pvI i3z725_, pvI i4z725_]) (lo1 := [some (pvR 106), some (pvI i3z725_), some (pvI i4z725_), none]) (d1 := d) (rest := []) rfl rfl rfl rfl rfl (fun _ => rfl) (Nat.zero_le _) rfl rfl rfl (sf_X6_swap_106_x_x Mz725_ oz725_ i3z725_ i4z725_ (zr_wide b729_ (by decide) (by decide)) (zr_wide b728_ (by decide) (by decide)) d) (fun M732_ o734_ g735_ => ?_)
                      have f736_ : pvFr fp_X6_permute_106 M M732_ := pvfr_t g735_ fz725_ fp_X6_permute_106_fp_X6_swap_106_x_x
                      obtain ⟨q738_, b737_⟩ : (Int32.toInt (i3z725_ + 1) = Int32.toInt i3z725_ + 1) ∧ (2 ≤ Int32.toInt (i3z725_ + 1) ∧ Int32.toInt (i3z725_ + 1) ≤ 6) := zadd_k i3z725_ 1 1 2 6 b729_ (by decide) (by decide) (by decide) (by decide) (by decide)
                      obtain ⟨q740_, b739_⟩ : (Int32.toInt (i4z725_ + (-1)) = Int32.toInt i4z725_ + (-1)) ∧ (1 ≤ Int32.toInt (i4z725_ + (-1)) ∧ Int32.toInt (i4z725_ + (-1)) ≤ 5) := zadd_k i4z725_ (-1) (-1) 1 5 b728_ (by decide) (by decide) (by decide) (by decide) (by decide)
                      refine pw_blk hT 3 (S' := (91, [some (pvR 106), some (pvI i1z408_), some (pvI i2z680_), some (pvI (i3z725_ + 1)), some (pvI (i4z725_ + (-1)))], [], M732_)) rfl ⟨trivial, trivial, trivial, trivial⟩ ?_
                      exact ihz725_ (i3z725_ + 1) (i4z725_ + (-1)) M732_ o734_ f736_ (zr_wide b737_ (by decide) (by decide)) (zr_wide b739_ (by decide) (by decide)) (zhid (pvms_up (zshow hmz725_) h3z725_ q738_ (by decide) (by decide)))
                exact hlz725_ _ (i1z408_ + 1) ((M685_.1 106 0) - 1) M685_ o687_ f689_ b414_ b691_ (zhid (Nat.lt_succ_self _))
              · have b741_ : 1 ≤ Int32.toInt i2z680_ ∧ Int32.toInt i2z680_ ≤ 6 := zr_nle_l 1 c681_ h2z680_ b412_ (by decide)
                have d742_ : Int32.toInt i2z680_ > Int32.toInt i1z408_ := Int.not_le.mp ((not_congr (zi_le _ _)).mp c681_)
                have b743_ : 0 ≤ Int32.toInt (M.1 114 (Int32.toNatClampNeg i2z680_)) ∧ Int32.toInt (M.1 114 (Int32.toNatClampNeg i2z680_)) ≤ 6 := pvok_r hok 114 (Int32.toNatClampNeg i2z680_) rfl
                refine pw_blk hT 8 (S' := (64, [some (pvR 106), some (pvI i1z408_), some (pvI i2z680_), none, none], [pvI (M.1 114 (Int32.toNatClampNeg i1z408_)), pvI (M.1 114 (Int32.toNatClampNeg i2z680_))], M)) rfl ⟨trivial, rfl, trivial, ⟨rfl, (zr_in (n := 7) b741_ (by decide) (by decide))⟩, trivial, rfl, trivial, ⟨rfl, (zr_in (n := 7) b412_ (by decide) (by decide))⟩, trivial⟩ ?_
                refine pw_ic hT (c := (M.1 114 (Int32.toNatClampNeg i1z408_)) < (M.1 114 (Int32.toNatClampNeg i2z680_))) rfl rfl (fun c744_ => ?_) (fun c744_ => ?_)
                · have b745_ : 1 ≤ Int32.toInt (M.1 114 (Int32.toNatClampNeg i2z680_)) ∧ Int32.toInt (M.1 114 (Int32.toNatClampNeg i2z680_)) ≤ 6 := zr_lt_r 1 c744_ b743_ b418_ (by decide)
                  have d746_ : Int32.toInt (M.1 114 (Int32.toNatClampNeg i1z408_)) < Int32.toInt (M.1 114 (Int32.toNatClampNeg i2z680_)) := (zi_lt _ _).mp c744_
                  refine pw_blk hT 3 (S' := (76, [some (pvR 106), some (pvI i1z408_), some (pvI i2z680_), none, none], [pvI i2z680_, pvI i1z408_, pvR 106], M)) rfl ⟨trivial, trivial, trivial, trivial⟩ ?_
                  refine pw_callV hT (as := [pvR 106, pvI i1z408_, pvI i2z680_]) (lo1 := [some (pvR 106), some (pvI i1z408_), some (pvI i2z680_), none]) (d1 := d) (rest := []) rfl rfl rfl rfl rfl (fun _ => rfl) (Nat.zero_le _) rfl rfl rfl (sf_X6_swap_106_x_x M hok i1z408_ i2z680_ (zr_wide b412_ (by decide) (by decide)) (zr_wide b741_ (by decide) (by decide)) d) (fun M748_ o750_ g751_ => ?_)
                  have f752_ : pvFr fp_X6_permute_106 M M748_ := pvfr_t g751_ pvfr_0 fp_X6_permute_106_fp_X6_swap_106_x_x
                  have b753_ : 0 ≤ Int32.toInt (M748_.1 106 0) ∧ Int32.toInt (M748_.1 106 0) ≤ 7 := pvok_r o750_ 106 0 rfl
                  obtain ⟨q755_, b754_⟩ : (Int32.toInt ((M748_.1 106 0) - 1) = Int32.toInt (M748_.1 106 0) - 1) ∧ ((-1) ≤ Int32.toInt ((M748_.1 106 0) - 1) ∧ Int32.toInt ((M748_.1 106 0) - 1) ≤ 6) := zsub_k (M748_.1 106 0) 1 1 (-1) 6 b753_ (by decide) (by decide) (by decide) (by decide) (by decide)
                  refine pw_blk hT 9 (S' := (91, [some (pvR 106), some (pvI i1z408_), some (pvI i2z680_), some (pvI (i1z408_ + 1)), some (pvI ((M748_.1 106 0) - 1))], [], M748_)) rfl ⟨trivial, trivial, trivial, trivial, trivial, rfl, trivial, trivial, trivial, trivial⟩ ?_
                  have hlz788_ : ∀ (nz788_ : Nat) (i3z788_ : Int32) (i4z788_ : Int32) (Mz788_ : pvM), (pvOk Mz788_) → (pvFr fp_X6_permute_106 M Mz788_) → (1 ≤ Int32.toInt i3z788_ ∧ Int32.toInt i3z788_ ≤ 6) → ((-1) ≤ Int32.toInt i4z788_ ∧ Int32.toInt i4z788_ ≤ 6) → (zhide ((7 - Int32.toInt i3z788_).toNat < nz788_)) → PW 156 d (91, [some (pvR 106), some (pvI i1z408_), some (pvI i2z680_), some (pvI i3z788_), some (pvI i4z788_)], [], Mz788_) (fun r X => (∃ x : Int32, r = some (pvI x) ∧ 0 ≤ Int32.toInt x ∧ Int32.toInt x ≤ 1) ∧ pvOk X ∧ pvFr fp_X6_permute_106 M X) := by
                    intro nz788_
                    induction nz788_ with
                    | zero => intro i3z788_ i4z788_ Mz788_ oz788_ fz788_ h3z788_ h4z788_ hmz788_; exact absurd (zshow hmz788_) (Nat.not_lt_zero _)
                    | succ nz788_ ihz788_ =>
                      intro i3z788_ i4z788_ Mz788_ oz788_ fz788_ h3z788_ h4z788_ hmz788_
                      refine pw_blk hT 2 (S' := (94, [some (pvR 106), some (pvI i1z408_), some (pvI i2z680_), some (pvI i3z788_), some (pvI i4z788_)], [pvI i4z788_, pvI i3z788_], Mz788_)) rfl ⟨trivial, trivial, trivial⟩ ?_
                      refine pw_ic hT (c := i4z788_ ≤ i3z788_) rfl rfl (fun c789_ => ?_) (fun c789_ => ?_)
                      · have d790_ : Int32.toInt i4z788_ ≤ Int32.toInt i3z788_ := (zi_le _ _).mp c789_
                        refine pw_blk hT 1 (S' := (114, [some (pvR 106), some (pvI i1z408_), some (pvI i2z680_), some (pvI i3z788_), some (pvI i4z788_)], [pvI 1], Mz788_)) rfl ⟨trivial, trivial⟩ ?_
                        exact pw_ret hT rfl (r := some (pvI 1)) (M' := Mz788_) ⟨Or.inr rfl, rfl, rfl⟩ ⟨⟨_, rfl, (zr_wide (show 1 ≤ Int32.toInt 1 ∧ Int32.toInt 1 ≤ 1 from (by decide)) (by decide) (by decide))⟩, oz788_, fz788_⟩
                      · have b791_ : 2 ≤ Int32.toInt i4z788_ ∧ Int32.toInt i4z788_ ≤ 6 := zr_nle_l 2 c789_ h4z788_ h3z788_ (by decide)
                        have b792_ : 1 ≤ Int32.toInt i3z788_ ∧ Int32.toInt i3z788_ ≤ 5 := zr_nle_r 5 c789_ h3z788_ b791_ (by decide)
                        have d793_ : Int32.toInt i4z788_ > Int32.toInt i3z788_ := Int.not_le.mp ((not_congr (zi_le _ _)).mp c789_)
                        refine pw_blk hT 3 (S' := (101, [some (pvR 106), some (pvI i1z408_), some (pvI i2z680_), some (pvI i3z788_), some (pvI i4z788_)], [pvI i4z788_, pvI i3z788_, pvR 106], Mz788_)) rfl ⟨trivial, trivial, trivial, trivial⟩ ?_
                        refine pw_callV hT (as := [pvR 106, pvI i3z788_, pvI i4z788_]) (lo1 := [some (pvR 106), some (pvI i3z788_), some (pvI i4z788_), none]) (d1 := d) (rest := []) rfl rfl rfl rfl rfl (fun _ => rfl) (Nat.zero_le _) rfl rfl rfl (sf_X6_swap_106_x_x Mz788_ oz788_ i3z788_ i4z788_ (zr_wide b792_ (by decide) (by decide)) (zr_wide b791_ (by decide) (by decide)) d) (fun M795_ o797_ g798_ => ?_)
                        have f799_ : pvFr fp_X6_permute_106 M M795_ := pvfr_t g798_ fz788_ fp_X6_permute_106_fp_X6_swap_106_x_x
                        obtain ⟨q801_, b800_⟩ : (Int32.toInt (i3z788_ + 1) = Int32.toInt i3z788_ + 1) ∧ (2 ≤ Int32.toInt (i3z788_ + 1) ∧ Int32.toInt (i3z788_ + 1) ≤ 6) := zadd_k i3z788_ 1 1 2 6 b792_ (by decide) (by decide) (by decide) (by decide) (by decide)
                        obtain ⟨q803_, b802_⟩ : (Int32.toInt (i4z788_ + (-1)) = Int32.toInt i4z788_ + (-1)) ∧ (1 ≤ Int32.toInt (i4z788_ + (-1)) ∧ Int32.toInt (i4z788_ + (-1)) ≤ 5) := zadd_k i4z788_ (-1) (-1) 1 5 b791_ (by decide) (by decide) (by decide) (by decide) (by decide)
                        refine pw_blk hT 3 (S' := (91, [some (pvR 106), some (pvI i1z408_), some (pvI i2z680_), some (pvI (i3z788_ + 1)), some (pvI (i4z788_ + (-1)))], [], M795_)) rfl ⟨trivial, trivial, trivial, trivial⟩ ?_
                        exact ihz788_ (i3z788_ + 1) (i4z788_ + (-1)) M795_ o797_ f799_ (zr_wide b800_ (by decide) (by decide)) (zr_wide b802_ (by decide) (by decide)) (zhid (pvms_up (zshow hmz788_) h3z788_ q801_ (by decide) (by decide)))
                  exact hlz788_ _ (i1z408_ + 1) ((M748_.1 106 0) - 1) M748_ o750_ f752_ b414_ b754_ (zhid (Nat.lt_succ_self _))
                · have b804_ : 0 ≤ Int32.toInt (M.1 114 (Int32.toNatClampNeg i2z680_)) ∧ Int32.toInt (M.1 114 (Int32.toNatClampNeg i2z680_)) ≤ 5 := zr_nlt_r 5 c744_ b743_ b418_ (by decide)
                  have d805_ : Int32.toInt (M.1 114 (Int32.toNatClampNeg i1z408_)) ≥ Int32.toInt (M.1 114 (Int32.toNatClampNeg i2z680_)) := Int.not_lt.mp ((not_congr (zi_lt _ _)).mp c744_)
                  obtain ⟨q807_, b806_⟩ : (Int32.toInt (i2z680_ + (-1)) = Int32.toInt i2z680_ + (-1)) ∧ (0 ≤ Int32.toInt (i2z680_ + (-1)) ∧ Int32.toInt (i2z680_ + (-1)) ≤ 5) := zadd_k i2z680_ (-1) (-1) 0 5 b741_ (by decide) (by decide) (by decide) (by decide) (by decide)
                  refine pw_blk hT 2 (S' := (47, [some (pvR 106), some (pvI i1z408_), some (pvI (i2z680_ + (-1))), none, none], [], M)) rfl ⟨trivial, trivial, trivial⟩ ?_
                  have j808_ : Int32.toInt i1z408_ ≤ Int32.toInt (i2z680_ + (-1)) := by omega
                  exact ihz680_ (i2z680_ + (-1)) (zr_wide b806_ (by decide) (by decide)) j808_ (zhid (pvms_dn (zshow hmz680_) h2z680_ q807_ (by decide) (by decide)))
          have j809_ : Int32.toInt i1z408_ ≤ Int32.toInt ((M.1 106 0) - 1) := by omega
          exact hlz680_ _ ((M.1 106 0) - 1) (by have u0 := b422_; omega) j809_ (zhid (Nat.lt_succ_self _))
        · have d810_ : Int32.toInt (M.1 114 (Int32.toNatClampNeg i1z408_)) ≥ Int32.toInt (M.1 114 (Int32.toNatClampNeg (i1z408_ + 1))) := Int.not_lt.mp ((not_congr (zi_lt _ _)).mp c417_)
          obtain ⟨q812_, b811_⟩ : (Int32.toInt (i1z408_ + (-1)) = Int32.toInt i1z408_ + (-1)) ∧ ((-1) ≤ Int32.toInt (i1z408_ + (-1)) ∧ Int32.toInt (i1z408_ + (-1)) ≤ 4) := zadd_k i1z408_ (-1) (-1) (-1) 4 b412_ (by decide) (by decide) (by decide) (by decide) (by decide)
          refine pw_blk hT 2 (S' := (7, [some (pvR 106), some (pvI (i1z408_ + (-1))), none, none, none], [], M)) rfl ⟨trivial, trivial, trivial⟩ ?_
          have j813_ : Int32.toInt (i1z408_ + (-1)) ≤ Int32.toInt (M.1 106 0) - 2 := by omega
          exact ihz408_ (i1z408_ + (-1)) (zr_wide b811_ (by decide) (by decide)) j813_ (zhid (pvms_dn (zshow hmz408_) h1z408_ q812_ (by decide) (by decide)))
  have j814_ : Int32.toInt ((M.1 106 0) - 2) ≤ Int32.toInt (M.1 106 0) - 2 := by omega
  exact hlz408_ _ ((M.1 106 0) - 2) b2_ j814_ (zhid (Nat.lt_succ_self _))
set_option maxHeartbeats 4000000 in
set_option maxRecDepth 10000 in
theorem sf_X6_isFull_106 (M : pvM) (hok : pvOk M) (d : Nat) : PW 154 d (0, [some (pvR 106)], [], M) (fun r X => r = some (pvI ((if (M.1 106 0) < (Int32.ofNat 7) then 0 else 1))) ∧ X = M) := by
  have hT : pvdom 154 = pvD_154 := rfl
  have b1_ : 0 ≤ Int32.toInt (M.1 106 0) ∧ Int32.toInt (M.1 106 0) ≤ 7 := pvok_r hok 106 0 rfl
  refine pw_blk hT 5 (S' := (9, [some (pvR 106)], [pvI (Int32.ofNat 7), pvI (M.1 106 0)], M)) rfl ⟨trivial, rfl, trivial, rfl, rfl, trivial⟩ ?_
  refine pw_ic hT (c := (M.1 106 0) < (Int32.ofNat 7)) rfl rfl (fun c2_ => ?_) (fun c2_ => ?_)
  · have b3_ : 0 ≤ Int32.toInt (M.1 106 0) ∧ Int32.toInt (M.1 106 0) ≤ 6 := zr_lt_l 6 c2_ b1_ (show 7 ≤ Int32.toInt (Int32.ofNat 7) ∧ Int32.toInt (Int32.ofNat 7) ≤ 7 from (by decide)) (by decide)
    refine pw_blk hT 1 (S' := (17, [some (pvR 106)], [pvI 0], M)) rfl ⟨trivial, trivial⟩ ?_
    exact pw_ret hT rfl (r := some (pvI 0)) (M' := M) ⟨Or.inl rfl, rfl, rfl⟩ ⟨(by rw [if_pos c2_]), rfl⟩
  · have b4_ : 7 ≤ Int32.toInt (M.1 106 0) ∧ Int32.toInt (M.1 106 0) ≤ 7 := zr_nlt_l 7 c2_ b1_ (show 7 ≤ Int32.toInt (Int32.ofNat 7) ∧ Int32.toInt (Int32.ofNat 7) ≤ 7 from (by decide)) (by decide)
    refine pw_blk hT 2 (S' := (17, [some (pvR 106)], [pvI 1], M)) rfl ⟨trivial, trivial, trivial⟩ ?_
    exact pw_ret hT rfl (r := some (pvI 1)) (M' := M) ⟨Or.inr rfl, rfl, rfl⟩ ⟨(by rw [if_neg c2_]), rfl⟩
def fpL_X6_append_106_x_x : List (Nat × Nat × Nat) := [(0, 106, 1), (0, 114, 0), (0, 122, 0)]
def fp_X6_append_106_x_x (q k : Nat) : Bool := pvfp fpL_X6_append_106_x_x q k
set_option maxHeartbeats 4000000 in
set_option maxRecDepth 10000 in
theorem sf_X6_append_106_x_x (M : pvM) (hok : pvOk M) (n1 : Int32) (n2 : Int32) (hn1 : 0 ≤ Int32.toInt n1 ∧ Int32.toInt n1 ≤ 6) (hn2 : 0 ≤ Int32.toInt n2 ∧ Int32.toInt n2 ≤ 9999) (d : Nat) : PW 151 d (0, [some (pvR 106), some (pvI n1), some (pvI n2)], [], M) (fun r X => (∃ x : Int32, r = some (pvI x) ∧ 1 ≤ Int32.toInt x ∧ Int32.toInt x ≤ 7) ∧ pvOk X ∧ pvFr fp_X6_append_106_x_x M X) := by
  have hT : pvdom 151 = pvD_151 := rfl
  refine pw_blk hT 1 (S' := (1, [some (pvR 106), some (pvI n1), some (pvI n2)], [pvR 106], M)) rfl ⟨trivial, trivial⟩ ?_
  refine pw_callT hT (as := [pvR 106]) (lo1 := [some (pvR 106)]) (d1 := d) (rest := []) rfl rfl rfl rfl rfl (fun _ => rfl) (Nat.zero_le _) rfl rfl rfl (sf_X6_isFull_106 M hok d) ?_
  have b6_ : 0 ≤ Int32.toInt (M.1 106 0) ∧ Int32.toInt (M.1 106 0) ≤ 7 := pvok_r hok 106 0 rfl
  by_cases c7_ : (M.1 106 0) < (Int32.ofNat 7)
  · refine pw_eqI (if_pos c7_) ?_
    have b8_ : 0 ≤ Int32.toInt (M.1 106 0) ∧ Int32.toInt (M.1 106 0) ≤ 6 := zr_lt_l 6 c7_ b6_ (show 7 ≤ Int32.toInt (Int32.ofNat 7) ∧ Int32.toInt (Int32.ofNat 7) ≤ 7 from (by decide)) (by decide)
    show PW 151 d (4, [some (pvR 106), some (pvI n1), some (pvI n2)], [pvI 0], M) _
    refine pw_if hT (c := 0 = 0) rfl rfl (fun c9_ => ?_) (fun c9_ => absurd (by decide) c9_)
    refine pw_blkw hT 6 (pc := 22) (lo := [some (pvR 106), some (pvI n1), some (pvI n2)]) (st := []) (M := pvu M 114 (Int32.toNatClampNeg (M.1 106 0)) n1) rfl ⟨trivial, rfl, trivial, rfl, trivial, ⟨rfl, (zr_in (n := 7) b8_ (by decide) (by decide))⟩, trivial⟩ (fun M10_ e11_ => ?_)
    have o12_ : pvOk M10_ := pvok_u2 e11_ hok rfl hn1
    have f13_ : pvFr fp_X6_append_106_x_x M M10_ := pvfr_u e11_ pvfr_0 rfl
    have e14_ : (M10_.1 106 0) = (M.1 106 0) := (pvu_n e11_ 106 0 (Or.inl (by decide)))
    have b15_ : 0 ≤ Int32.toInt (M10_.1 106 0) ∧ Int32.toInt (M10_.1 106 0) ≤ 6 := (by rw [e14_]; exact b8_)
    refine pw_blkw hT 6 (pc := 32) (lo := [some (pvR 106), some (pvI n1), some (pvI n2)]) (st := []) (M := pvu M10_ 122 (Int32.toNatClampNeg (M10_.1 106 0)) n2) rfl ⟨trivial, rfl, trivial, rfl, trivial, ⟨rfl, (zr_in (n := 7) b15_ (by decide) (by decide))⟩, trivial⟩ (fun M16_ e17_ => ?_)
    have o18_ : pvOk M16_ := pvok_u2 e17_ o12_ rfl hn2
    have f19_ : pvFr fp_X6_append_106_x_x M M16_ := pvfr_u e17_ f13_ rfl
    have e20_ : (M16_.1 106 0) = (M10_.1 106 0) := (pvu_n e17_ 106 0 (Or.inl (by decide)))
    have b21_ : 0 ≤ Int32.toInt (M16_.1 106 0) ∧ Int32.toInt (M16_.1 106 0) ≤ 6 := (by rw [e20_]; exact b15_)
    obtain ⟨q23_, b22_⟩ : (Int32.toInt ((M16_.1 106 0) + 1) = Int32.toInt (M16_.1 106 0) + 1) ∧ (1 ≤ Int32.toInt ((M16_.1 106 0) + 1) ∧ Int32.toInt ((M16_.1 106 0) + 1) ≤ 7) := zadd_k (M16_.1 106 0) 1 1 1 7 b21_ (by decide) (by decide) (by decide) (by decide) (by decide)
    refine pw_blkw hT 6 (pc := 42) (lo := [some (pvR 106), some (pvI n1), some (pvI n2)]) (st := []) (M := pvu M16_ 106 0 ((M16_.1 106 0) + 1)) rfl ⟨trivial, trivial, rfl, trivial, trivial, rfl, trivial⟩ (fun M24_ e25_ => ?_)
    have o26_ : pvOk M24_ := pvok_u2 e25_ o18_ rfl (zr_wide b22_ (by decide) (by decide))
    have f27_ : pvFr fp_X6_append_106_x_x M M24_ := pvfr_u e25_ f19_ rfl
    have e28_ : (M24_.1 106 0) = ((M16_.1 106 0) + 1) := (pvu_s e25_)
    have b29_ : 1 ≤ Int32.toInt (M24_.1 106 0) ∧ Int32.toInt (M24_.1 106 0) ≤ 7 := (by rw [e28_]; exact b22_)
    refine pw_blk hT 2 (S' := (46, [some (pvR 106), some (pvI n1), some (pvI n2)], [pvI (M24_.1 106 0)], M24_)) rfl ⟨trivial, rfl, trivial⟩ ?_
    exact pw_ret hT rfl (r := some (pvI (M24_.1 106 0))) (M' := M24_) ⟨rfl, rfl⟩ ⟨⟨_, rfl, b29_⟩, o26_, f27_⟩
  · refine pw_eqI (if_neg c7_) ?_
    have b30_ : 7 ≤ Int32.toInt (M.1 106 0) ∧ Int32.toInt (M.1 106 0) ≤ 7 := zr_nlt_l 7 c7_ b6_ (show 7 ≤ Int32.toInt (Int32.ofNat 7) ∧ Int32.toInt (Int32.ofNat 7) ≤ 7 from (by decide)) (by decide)
    show PW 151 d (4, [some (pvR 106), some (pvI n1), some (pvI n2)], [pvI 1], M) _
    refine pw_if hT (c := 1 = 0) rfl rfl (fun c31_ => absurd c31_ (by decide)) (fun c31_ => ?_)
    refine pw_blk hT 2 (S' := (11, [some (pvR 106), some (pvI n1), some (pvI n2)], [pvI (M.1 106 0)], M)) rfl ⟨trivial, rfl, trivial⟩ ?_
    exact pw_ret hT rfl (r := some (pvI (M.1 106 0))) (M' := M) ⟨rfl, rfl⟩ ⟨⟨_, rfl, (zr_wide b30_ (by decide) (by decide))⟩, hok, pvfr_0⟩
def fpL_X1_seekBest_5 : List (Nat × Nat × Nat) := [(0, 106, 1), (0, 107, 1), (0, 114, 0), (0, 115, 0), (0, 12, 0), (0, 122, 0), (0, 123, 0), (0, 5, 7)]
def fp_X1_seekBest_5 (q k : Nat) : Bool := pvfp fpL_X1_seekBest_5 q k
theorem fp_X1_seekBest_5_fp_X1_costOfTried_5 (a b : Nat) (h : fp_X1_costOfTried_5 a b = true) : fp_X1_seekBest_5 a b = true := pvfp_sub (l1 := fpL_X1_costOfTried_5) (l2 := fpL_X1_seekBest_5) (by decide) a b h
theorem fp_X1_seekBest_5_fp_X6_append_106_x_x (a b : Nat) (h : fp_X6_append_106_x_x a b = true) : fp_X1_seekBest_5 a b = true := pvfp_sub (l1 := fpL_X6_append_106_x_x) (l2 := fpL_X1_seekBest_5) (by decide) a b h
theorem fp_X1_seekBest_5_fp_X6_becomeAs_107_106 (a b : Nat) (h : fp_X6_becomeAs_107_106 a b = true) : fp_X1_seekBest_5 a b = true := pvfp_sub (l1 := fpL_X6_becomeAs_107_106) (l2 := fpL_X1_seekBest_5) (by decide) a b h
theorem fp_X1_seekBest_5_fp_X6_clear_106 (a b : Nat) (h : fp_X6_clear_106 a b = true) : fp_X1_seekBest_5 a b = true := pvfp_sub (l1 := fpL_X6_clear_106) (l2 := fpL_X1_seekBest_5) (by decide) a b h
theorem fp_X1_seekBest_5_fp_X6_permute_106 (a b : Nat) (h : fp_X6_permute_106 a b = true) : fp_X1_seekBest_5 a b = true := pvfp_sub (l1 := fpL_X6_permute_106) (l2 := fpL_X1_seekBest_5) (by decide) a b h
set_option maxHeartbeats 4000000 in
set_option maxRecDepth 10000 in
theorem sf_X1_seekBest_5 (M : pvM) (hok : pvOk M) (d : Nat) : PW 117 d (0, [some (pvR 5), none, none], [], M) (fun r X => r = none ∧ pvOk X ∧ pvFr fp_X1_seekBest_5 M X) := by
  have hT : pvdom 117 = pvD_117 := rfl
  refine pw_blk hT 2 (S' := (4, [some (pvR 5), none, none], [pvR 106], M)) rfl ⟨trivial, rfl, trivial⟩ ?_
  refine pw_callG hT (as := [pvR 106]) (lo1 := [some (pvR 106)]) (d1 := d) (rest := []) rfl rfl rfl rfl rfl (fun _ => rfl) (Nat.zero_le _) rfl rfl rfl (sf_X6_clear_106 M hok d) (fun x1_ M2_ b3_ o4_ g5_ => ?_)
  have f6_ : pvFr fp_X1_seekBest_5 M M2_ := pvfr_t g5_ pvfr_0 fp_X1_seekBest_5_fp_X6_clear_106
  refine pw_blk hT 3 (S' := (10, [some (pvR 5), some (pvI 0), none], [], M2_)) rfl ⟨trivial, trivial, trivial, trivial⟩ ?_
  have hlz1359_ : ∀ (nz1359_ : Nat) (i1z1359_ : Int32) (Mz1359_ : pvM), (pvOk Mz1359_) → (pvFr fp_X1_seekBest_5 M Mz1359_) → (0 ≤ Int32.toInt i1z1359_ ∧ Int32.toInt i1z1359_ ≤ 7) → (zhide ((8 - Int32.toInt i1z1359_).toNat < nz1359_)) → PW 117 d (10, [some (pvR 5), some (pvI i1z1359_), none], [], Mz1359_) (fun r X => r = none ∧ pvOk X ∧ pvFr fp_X1_seekBest_5 M X) := by
    intro nz1359_
    induction nz1359_ with
    | zero => intro i1z1359_ Mz1359_ oz1359_ fz1359_ h1z1359_ hmz1359_; exact absurd (zshow hmz1359_) (Nat.not_lt_zero _)
    | succ nz1359_ ihz1359_ =>
      intro i1z1359_ Mz1359_ oz1359_ fz1359_ h1z1359_ hmz1359_
      have b1360_ : 0 ≤ Int32.toInt (Mz1359_.1 8 1) ∧ Int32.toInt (Mz1359_.1 8 1) ≤ 7 := pvok_r oz1359_ 8 1 rfl
      refine pw_blk hT 4 (S' := (18, [some (pvR 5), some (pvI i1z1359_), none], [pvI (Mz1359_.1 8 1), pvI i1z1359_], Mz1359_)) rfl ⟨trivial, trivial, rfl, rfl, trivial⟩ ?_
      refine pw_ic hT (c := (Mz1359_.1 8 1) ≤ i1z1359_) rfl rfl (fun c1361_ => ?_) (fun c1361_ => ?_)
      · have d1362_ : Int32.toInt (Mz1359_.1 8 1) ≤ Int32.toInt i1z1359_ := (zi_le _ _).mp c1361_
        refine pw_blk hT 2 (S' := (54, [some (pvR 5), some (pvI 0), none], [], Mz1359_)) rfl ⟨trivial, trivial, trivial⟩ ?_
        have hlz1606_ : ∀ (nz1606_ : Nat) (i1z1606_ : Int32) (v2z1606_ : Option pvV) (Mz1606_ : pvM), (pvOk Mz1606_) → (pvFr fp_X1_seekBest_5 M Mz1606_) → (0 ≤ Int32.toInt i1z1606_ ∧ Int32.toInt i1z1606_ ≤ 120) → (zhide ((121 - Int32.toInt i1z1606_).toNat < nz1606_)) → PW 117 d (54, [some (pvR 5), some (pvI i1z1606_), v2z1606_], [], Mz1606_) (fun r X => r = none ∧ pvOk X ∧ pvFr fp_X1_seekBest_5 M X) := by
          intro nz1606_
          induction nz1606_ with
          | zero => intro i1z1606_ v2z1606_ Mz1606_ oz1606_ fz1606_ h1z1606_ hmz1606_; exact absurd (zshow hmz1606_) (Nat.not_lt_zero _)
          | succ nz1606_ ihz1606_ =>
            intro i1z1606_ v2z1606_ Mz1606_ oz1606_ fz1606_ h1z1606_ hmz1606_
            refine pw_blk hT 2 (S' := (57, [some (pvR 5), some (pvI i1z1606_), v2z1606_], [pvI 120, pvI i1z1606_], Mz1606_)) rfl ⟨trivial, trivial, trivial⟩ ?_
            refine pw_ic hT (c := 120 ≤ i1z1606_) rfl rfl (fun c1607_ => ?_) (fun c1607_ => ?_)
            · have b1608_ : 120 ≤ Int32.toInt i1z1606_ ∧ Int32.toInt i1z1606_ ≤ 120 := zr_le_r 120 c1607_ h1z1606_ (show 120 ≤ Int32.toInt 120 ∧ Int32.toInt 120 ≤ 120 from (by decide)) (by decide)
              exact pw_ret hT rfl (r := none) (M' := Mz1606_) ⟨rfl, rfl⟩ ⟨rfl, oz1606_, fz1606_⟩
            · have b1609_ : 0 ≤ Int32.toInt i1z1606_ ∧ Int32.toInt i1z1606_ ≤ 119 := zr_nle_r 119 c1607_ h1z1606_ (show 120 ≤ Int32.toInt 120 ∧ Int32.toInt 120 ≤ 120 from (by decide)) (by decide)
              refine pw_blk hT 1 (S' := (61, [some (pvR 5), some (pvI i1z1606_), v2z1606_], [pvR 5], Mz1606_)) rfl ⟨trivial, trivial⟩ ?_
              refine pw_callG hT (as := [pvR 5]) (lo1 := [some (pvR 5)]) (d1 := d) (rest := []) rfl rfl rfl rfl rfl (fun _ => rfl) (Nat.zero_le _) rfl rfl rfl (sf_X1_costOfTried_5 Mz1606_ oz1606_ d) (fun x1610_ M1611_ b1612_ o1613_ g1614_ => ?_)
              have f1615_ : pvFr fp_X1_seekBest_5 M M1611_ := pvfr_t g1614_ fz1606_ fp_X1_seekBest_5_fp_X1_costOfTried_5
              refine pw_blk hT 2 (S' := (66, [some (pvR 5), some (pvI i1z1606_), some (pvI x1610_)], [pvI i1z1606_], M1611_)) rfl ⟨trivial, trivial, trivial⟩ ?_
              refine pw_if hT (c := i1z1606_ = 0) rfl rfl (fun c1616_ => ?_) (fun c1616_ => ?_)
              · have b1617_ : 0 ≤ Int32.toInt i1z1606_ ∧ Int32.toInt i1z1606_ ≤ 0 := (by have u0 := b1609_; have u1 := (zi_eq _ _).mp c1616_; have u2 := (show 0 ≤ Int32.toInt 0 ∧ Int32.toInt 0 ≤ 0 from (by decide)); omega)
                refine pw_blkw hT 3 (pc := 82) (lo := [some (pvR 5), some (pvI i1z1606_), some (pvI x1610_)]) (st := []) (M := pvu M1611_ 5 6 x1610_) rfl ⟨trivial, trivial, rfl, trivial⟩ (fun M1618_ e1619_ => ?_)
                have o1620_ : pvOk M1618_ := pvok_u2 e1619_ o1613_ rfl (zbnd x1610_)
                have f1621_ : pvFr fp_X1_seekBest_5 M M1618_ := pvfr_u e1619_ f1615_ rfl
                refine pw_blk hT 4 (S' := (90, [some (pvR 5), some (pvI i1z1606_), some (pvI x1610_)], [pvR 106, pvR 107], M1618_)) rfl ⟨trivial, rfl, trivial, rfl, trivial⟩ ?_
                refine pw_callV hT (as := [pvR 107, pvR 106]) (lo1 := [some (pvR 107), some (pvR 106), none]) (d1 := d) (rest := []) rfl rfl rfl rfl rfl (fun _ => rfl) (Nat.zero_le _) rfl rfl rfl (sf_X6_becomeAs_107_106 M1618_ o1620_ d) (fun M1623_ o1625_ g1626_ => ?_)
                have f1627_ : pvFr fp_X1_seekBest_5 M M1623_ := pvfr_t g1626_ f1621_ fp_X1_seekBest_5_fp_X6_becomeAs_107_106
                refine pw_blk hT 2 (S' := (97, [some (pvR 5), some (pvI i1z1606_), some (pvI x1610_)], [pvR 106], M1623_)) rfl ⟨trivial, rfl, trivial⟩ ?_
                refine pw_callG hT (as := [pvR 106]) (lo1 := [some (pvR 106), none, none, none, none]) (d1 := d) (rest := []) rfl rfl rfl rfl rfl (fun _ => rfl) (Nat.zero_le _) rfl rfl rfl (sf_X6_permute_106 M1623_ o1625_ d) (fun x1628_ M1629_ b1630_ o1631_ g1632_ => ?_)
                have f1633_ : pvFr fp_X1_seekBest_5 M M1629_ := pvfr_t g1632_ f1627_ fp_X1_seekBest_5_fp_X6_permute_106
                refine pw_ifn hT (c := x1628_ = 0) rfl rfl (fun c1634_ => ?_) (fun c1634_ => ?_)
                · have b1635_ : 1 ≤ Int32.toInt x1628_ ∧ Int32.toInt x1628_ ≤ 1 := (by have u0 := b1630_; have u1 := (not_congr (zi_eq _ _)).mp c1634_; have u2 := (show 0 ≤ Int32.toInt 0 ∧ Int32.toInt 0 ≤ 0 from (by decide)); omega)
                  obtain ⟨q1637_, b1636_⟩ : (Int32.toInt (i1z1606_ + 1) = Int32.toInt i1z1606_ + 1) ∧ (1 ≤ Int32.toInt (i1z1606_ + 1) ∧ Int32.toInt (i1z1606_ + 1) ≤ 1) := zadd_k i1z1606_ 1 1 1 1 b1617_ (by decide) (by decide) (by decide) (by decide) (by decide)
                  refine pw_blk hT 2 (S' := (54, [some (pvR 5), some (pvI (i1z1606_ + 1)), some (pvI x1610_)], [], M1629_)) rfl ⟨trivial, trivial, trivial⟩ ?_
                  exact ihz1606_ (i1z1606_ + 1) (some (pvI x1610_)) M1629_ o1631_ f1633_ (zr_wide b1636_ (by decide) (by decide)) (zhid (pvms_up (zshow hmz1606_) h1z1606_ q1637_ (by decide) (by decide)))
                · have b1638_ : 0 ≤ Int32.toInt x1628_ ∧ Int32.toInt x1628_ ≤ 0 := (by have u0 := b1630_; have u1 := (zi_eq _ _).mp c1634_; have u2 := (show 0 ≤ Int32.toInt 0 ∧ Int32.toInt 0 ≤ 0 from (by decide)); omega)
                  exact pw_ret hT rfl (r := none) (M' := M1629_) ⟨rfl, rfl⟩ ⟨rfl, o1631_, f1633_⟩
              · have b1639_ : 1 ≤ Int32.toInt i1z1606_ ∧ Int32.toInt i1z1606_ ≤ 119 := (by have u0 := b1609_; have u1 := (not_congr (zi_eq _ _)).mp c1616_; have u2 := (show 0 ≤ Int32.toInt 0 ∧ Int32.toInt 0 ≤ 0 from (by decide)); omega)
                refine pw_blk hT 3 (S' := (74, [some (pvR 5), some (pvI i1z1606_), some (pvI x1610_)], [pvI (M1611_.1 5 6), pvI x1610_], M1611_)) rfl ⟨trivial, trivial, rfl, trivial⟩ ?_
                refine pw_ic hT (c := (M1611_.1 5 6) ≤ x1610_) rfl rfl (fun c1640_ => ?_) (fun c1640_ => ?_)
                · have d1641_ : Int32.toInt (M1611_.1 5 6) ≤ Int32.toInt x1610_ := (zi_le _ _).mp c1640_
                  refine pw_blk hT 2 (S' := (97, [some (pvR 5), some (pvI i1z1606_), some (pvI x1610_)], [pvR 106], M1611_)) rfl ⟨trivial, rfl, trivial⟩ ?_
                  refine pw_callG hT (as := [pvR 106]) (lo1 := [some (pvR 106), none, none, none, none]) (d1 := d) (rest := []) rfl rfl rfl rfl rfl (fun _ => rfl) (Nat.zero_le _) rfl rfl rfl (sf_X6_permute_106 M1611_ o1613_ d) (fun x1642_ M1643_ b1644_ o1645_ g1646_ => ?_)
                  have f1647_ : pvFr fp_X1_seekBest_5 M M1643_ := pvfr_t g1646_ f1615_ fp_X1_seekBest_5_fp_X6_permute_106
                  refine pw_ifn hT (c := x1642_ = 0) rfl rfl (fun c1648_ => ?_) (fun c1648_ => ?_)
                  · have b1649_ : 1 ≤ Int32.toInt x1642_ ∧ Int32.toInt x1642_ ≤ 1 := (by have u0 := b1644_; have u1 := (not_congr (zi_eq _ _)).mp c1648_; have u2 := (show 0 ≤ Int32.toInt 0 ∧ Int32.toInt 0 ≤ 0 from (by decide)); omega)
                    obtain ⟨q1651_, b1650_⟩ : (Int32.toInt (i1z1606_ + 1) = Int32.toInt i1z1606_ + 1) ∧ (2 ≤ Int32.toInt (i1z1606_ + 1) ∧ Int32.toInt (i1z1606_ + 1) ≤ 120) := zadd_k i1z1606_ 1 1 2 120 b1639_ (by decide) (by decide) (by decide) (by decide) (by decide)
                    refine pw_blk hT 2 (S' := (54, [some (pvR 5), some (pvI (i1z1606_ + 1)), some (pvI x1610_)], [], M1643_)) rfl ⟨trivial, trivial, trivial⟩ ?_
                    exact ihz1606_ (i1z1606_ + 1) (some (pvI x1610_)) M1643_ o1645_ f1647_ (zr_wide b1650_ (by decide) (by decide)) (zhid (pvms_up (zshow hmz1606_) h1z1606_ q1651_ (by decide) (by decide)))
                  · have b1652_ : 0 ≤ Int32.toInt x1642_ ∧ Int32.toInt x1642_ ≤ 0 := (by have u0 := b1644_; have u1 := (zi_eq _ _).mp c1648_; have u2 := (show 0 ≤ Int32.toInt 0 ∧ Int32.toInt 0 ≤ 0 from (by decide)); omega)
                    exact pw_ret hT rfl (r := none) (M' := M1643_) ⟨rfl, rfl⟩ ⟨rfl, o1645_, f1647_⟩
                · have b1653_ : (-2147483647) ≤ Int32.toInt (M1611_.1 5 6) ∧ Int32.toInt (M1611_.1 5 6) ≤ 2147483647 := zr_nle_l (-2147483647) c1640_ (zbnd (M1611_.1 5 6)) (zbnd x1610_) (by decide)
                  have b1654_ : (-2147483648) ≤ Int32.toInt x1610_ ∧ Int32.toInt x1610_ ≤ 2147483646 := zr_nle_r 2147483646 c1640_ (zbnd x1610_) b1653_ (by decide)
                  have d1655_ : Int32.toInt (M1611_.1 5 6) > Int32.toInt x1610_ := Int.not_le.mp ((not_congr (zi_le _ _)).mp c1640_)
                  refine pw_blkw hT 3 (pc := 82) (lo := [some (pvR 5), some (pvI i1z1606_), some (pvI x1610_)]) (st := []) (M := pvu M1611_ 5 6 x1610_) rfl ⟨trivial, trivial, rfl, trivial⟩ (fun M1656_ e1657_ => ?_)
                  have o1658_ : pvOk M1656_ := pvok_u2 e1657_ o1613_ rfl (zbnd x1610_)
                  have f1659_ : pvFr fp_X1_seekBest_5 M M1656_ := pvfr_u e1657_ f1615_ rfl
                  refine pw_blk hT 4 (S' := (90, [some (pvR 5), some (pvI i1z1606_), some (pvI x1610_)], [pvR 106, pvR 107], M1656_)) rfl ⟨trivial, rfl, trivial, rfl, trivial⟩ ?_
                  refine pw_callV hT (as := [pvR 107, pvR 106]) (lo1 := [some (pvR 107), some (pvR 106), none]) (d1 := d) (rest := []) rfl rfl rfl rfl rfl (fun _ => rfl) (Nat.zero_le _) rfl rfl rfl (sf_X6_becomeAs_107_106 M1656_ o1658_ d) (fun M1661_ o1663_ g1664_ => ?_)
                  have f1665_ : pvFr fp_X1_seekBest_5 M M1661_ := pvfr_t g1664_ f1659_ fp_X1_seekBest_5_fp_X6_becomeAs_107_106
                  refine pw_blk hT 2 (S' := (97, [some (pvR 5), some (pvI i1z1606_), some (pvI x1610_)], [pvR 106], M1661_)) rfl ⟨trivial, rfl, trivial⟩ ?_
                  refine pw_callG hT (as := [pvR 106]) (lo1 := [some (pvR 106), none, none, none, none]) (d1 := d) (rest := []) rfl rfl rfl rfl rfl (fun _ => rfl) (Nat.zero_le _) rfl rfl rfl (sf_X6_permute_106 M1661_ o1663_ d) (fun x1666_ M1667_ b1668_ o1669_ g1670_ => ?_)
                  have f1671_ : pvFr fp_X1_seekBest_5 M M1667_ := pvfr_t g1670_ f1665_ fp_X1_seekBest_5_fp_X6_permute_106
                  refine pw_ifn hT (c := x1666_ = 0) rfl rfl (fun c1672_ => ?_) (fun c1672_ => ?_)
                  · have b1673_ : 1 ≤ Int32.toInt x1666_ ∧ Int32.toInt x1666_ ≤ 1 := (by have u0 := b1668_; have u1 := (not_congr (zi_eq _ _)).mp c1672_; have u2 := (show 0 ≤ Int32.toInt 0 ∧ Int32.toInt 0 ≤ 0 from (by decide)); omega)
                    obtain ⟨q1675_, b1674_⟩ : (Int32.toInt (i1z1606_ + 1) = Int32.toInt i1z1606_ + 1) ∧ (2 ≤ Int32.toInt (i1z1606_ + 1) ∧ Int32.toInt (i1z1606_ + 1) ≤ 120) := zadd_k i1z1606_ 1 1 2 120 b1639_ (by decide) (by decide) (by decide) (by decide) (by decide)
                    refine pw_blk hT 2 (S' := (54, [some (pvR 5), some (pvI (i1z1606_ + 1)), some (pvI x1610_)], [], M1667_)) rfl ⟨trivial, trivial, trivial⟩ ?_
                    exact ihz1606_ (i1z1606_ + 1) (some (pvI x1610_)) M1667_ o1669_ f1671_ (zr_wide b1674_ (by decide) (by decide)) (zhid (pvms_up (zshow hmz1606_) h1z1606_ q1675_ (by decide) (by decide)))
                  · have b1676_ : 0 ≤ Int32.toInt x1666_ ∧ Int32.toInt x1666_ ≤ 0 := (by have u0 := b1668_; have u1 := (zi_eq _ _).mp c1672_; have u2 := (show 0 ≤ Int32.toInt 0 ∧ Int32.toInt 0 ≤ 0 from (by decide)); omega)
                    exact pw_ret hT rfl (r := none) (M' := M1667_) ⟨rfl, rfl⟩ ⟨rfl, o1669_, f1671_⟩
        exact hlz1606_ _ 0 none Mz1359_ oz1359_ fz1359_ (zr_wide (show 0 ≤ Int32.toInt 0 ∧ Int32.toInt 0 ≤ 0 from (by decide)) (by decide) (by decide)) (zhid (Nat.lt_succ_self _))
      · have b1677_ : 1 ≤ Int32.toInt (Mz1359_.1 8 1) ∧ Int32.toInt (Mz1359_.1 8 1) ≤ 7 := zr_nle_l 1 c1361_ b1360_ h1z1359_ (by decide)
        have b1678_ : 0 ≤ Int32.toInt i1z1359_ ∧ Int32.toInt i1z1359_ ≤ 6 := zr_nle_r 6 c1361_ h1z1359_ b1677_ (by decide)
        have d1679_ : Int32.toInt (Mz1359_.1 8 1) > Int32.toInt i1z1359_ := Int.not_le.mp ((not_congr (zi_le _ _)).mp c1361_)
        refine pw_blkr hT 5 (pc := 30) (lo := [some (pvR 5), some (pvI i1z1359_), none]) (st := []) (M := Mz1359_) (z := (pvbs 10 + Int32.toNatClampNeg i1z1359_)) rfl ⟨trivial, rfl, rfl, trivial, ⟨rfl, (zr_in (n := 7) b1678_ (by decide) (by decide))⟩, trivial⟩ (fun q1680_ e1682_ => ?_)
        have k1681_ : pvkl q1680_ = 3 := pvel_10 (zr_in (n := 7) b1678_ (by decide) (by decide)) e1682_
        have b1683_ : 0 ≤ Int32.toInt (Mz1359_.1 q1680_ 5) ∧ Int32.toInt (Mz1359_.1 q1680_ 5) ≤ 1 := pvok_r oz1359_ q1680_ 5 ((pvrg_o 5 k1681_ (by decide) (by decide)).trans rfl)
        refine pw_blk hT 1 (S' := (33, [some (pvR 5), some (pvI i1z1359_), none], [pvI (Mz1359_.1 q1680_ 5)], Mz1359_)) rfl ⟨k1681_, trivial⟩ ?_
        refine pw_ifn hT (c := (Mz1359_.1 q1680_ 5) = 0) rfl rfl (fun c1684_ => ?_) (fun c1684_ => ?_)
        · have b1685_ : 1 ≤ Int32.toInt (Mz1359_.1 q1680_ 5) ∧ Int32.toInt (Mz1359_.1 q1680_ 5) ≤ 1 := (by have u0 := b1683_; have u1 := (not_congr (zi_eq _ _)).mp c1684_; have u2 := (show 0 ≤ Int32.toInt 0 ∧ Int32.toInt 0 ≤ 0 from (by decide)); omega)
          obtain ⟨q1687_, b1686_⟩ : (Int32.toInt (i1z1359_ + 1) = Int32.toInt i1z1359_ + 1) ∧ (1 ≤ Int32.toInt (i1z1359_ + 1) ∧ Int32.toInt (i1z1359_ + 1) ≤ 7) := zadd_k i1z1359_ 1 1 1 7 b1678_ (by decide) (by decide) (by decide) (by decide) (by decide)
          refine pw_blk hT 2 (S' := (10, [some (pvR 5), some (pvI (i1z1359_ + 1)), none], [], Mz1359_)) rfl ⟨trivial, trivial, trivial⟩ ?_
          exact ihz1359_ (i1z1359_ + 1) Mz1359_ oz1359_ fz1359_ (zr_wide b1686_ (by decide) (by decide)) (zhid (pvms_up (zshow hmz1359_) h1z1359_ q1687_ (by decide) (by decide)))
        · have b1688_ : 0 ≤ Int32.toInt (Mz1359_.1 q1680_ 5) ∧ Int32.toInt (Mz1359_.1 q1680_ 5) ≤ 0 := (by have u0 := b1683_; have u1 := (zi_eq _ _).mp c1684_; have u2 := (show 0 ≤ Int32.toInt 0 ∧ Int32.toInt 0 ≤ 0 from (by decide)); omega)
          refine pw_blk hT 4 (S' := (42, [some (pvR 5), some (pvI i1z1359_), none], [pvI 0, pvI i1z1359_, pvR 106], Mz1359_)) rfl ⟨trivial, rfl, trivial, trivial, trivial⟩ ?_
          refine pw_callG hT (as := [pvR 106, pvI i1z1359_, pvI 0]) (lo1 := [some (pvR 106), some (pvI i1z1359_), some (pvI 0)]) (d1 := d) (rest := []) rfl rfl rfl rfl rfl (fun _ => rfl) (Nat.zero_le _) rfl rfl rfl (sf_X6_append_106_x_x Mz1359_ oz1359_ i1z1359_ 0 b1678_ (zr_wide (show 0 ≤ Int32.toInt 0 ∧ Int32.toInt 0 ≤ 0 from (by decide)) (by decide) (by decide)) d) (fun x1689_ M1690_ b1691_ o1692_ g1693_ => ?_)
          have f1694_ : pvFr fp_X1_seekBest_5 M M1690_ := pvfr_t g1693_ fz1359_ fp_X1_seekBest_5_fp_X6_append_106_x_x
          obtain ⟨q1696_, b1695_⟩ : (Int32.toInt (i1z1359_ + 1) = Int32.toInt i1z1359_ + 1) ∧ (1 ≤ Int32.toInt (i1z1359_ + 1) ∧ Int32.toInt (i1z1359_ + 1) ≤ 7) := zadd_k i1z1359_ 1 1 1 7 b1678_ (by decide) (by decide) (by decide) (by decide) (by decide)
          refine pw_blk hT 3 (S' := (10, [some (pvR 5), some (pvI (i1z1359_ + 1)), none], [], M1690_)) rfl ⟨trivial, trivial, trivial, trivial⟩ ?_
          exact ihz1359_ (i1z1359_ + 1) M1690_ o1692_ f1694_ (zr_wide b1695_ (by decide) (by decide)) (zhid (pvms_up (zshow hmz1359_) h1z1359_ q1696_ (by decide) (by decide)))
  exact hlz1359_ _ 0 M2_ o4_ f6_ (zr_wide (show 0 ≤ Int32.toInt 0 ∧ Int32.toInt 0 ≤ 0 from (by decide)) (by decide) (by decide)) (zhid (Nat.lt_succ_self _))
set_option maxHeartbeats 4000000 in
set_option maxRecDepth 10000 in
theorem sf_X6_isFull_104 (M : pvM) (hok : pvOk M) (d : Nat) : PW 154 d (0, [some (pvR 104)], [], M) (fun r X => r = some (pvI ((if (M.1 104 0) < (Int32.ofNat 8) then 0 else 1))) ∧ X = M) := by
  have hT : pvdom 154 = pvD_154 := rfl
  have b1_ : 0 ≤ Int32.toInt (M.1 104 0) ∧ Int32.toInt (M.1 104 0) ≤ 8 := pvok_r hok 104 0 rfl
  refine pw_blk hT 5 (S' := (9, [some (pvR 104)], [pvI (Int32.ofNat 8), pvI (M.1 104 0)], M)) rfl ⟨trivial, rfl, trivial, rfl, rfl, trivial⟩ ?_
  refine pw_ic hT (c := (M.1 104 0) < (Int32.ofNat 8)) rfl rfl (fun c2_ => ?_) (fun c2_ => ?_)
  · have b3_ : 0 ≤ Int32.toInt (M.1 104 0) ∧ Int32.toInt (M.1 104 0) ≤ 7 := zr_lt_l 7 c2_ b1_ (show 8 ≤ Int32.toInt (Int32.ofNat 8) ∧ Int32.toInt (Int32.ofNat 8) ≤ 8 from (by decide)) (by decide)
    refine pw_blk hT 1 (S' := (17, [some (pvR 104)], [pvI 0], M)) rfl ⟨trivial, trivial⟩ ?_
    exact pw_ret hT rfl (r := some (pvI 0)) (M' := M) ⟨Or.inl rfl, rfl, rfl⟩ ⟨(by rw [if_pos c2_]), rfl⟩
  · have b4_ : 8 ≤ Int32.toInt (M.1 104 0) ∧ Int32.toInt (M.1 104 0) ≤ 8 := zr_nlt_l 8 c2_ b1_ (show 8 ≤ Int32.toInt (Int32.ofNat 8) ∧ Int32.toInt (Int32.ofNat 8) ≤ 8 from (by decide)) (by decide)
    refine pw_blk hT 2 (S' := (17, [some (pvR 104)], [pvI 1], M)) rfl ⟨trivial, trivial, trivial⟩ ?_
    exact pw_ret hT rfl (r := some (pvI 1)) (M' := M) ⟨Or.inr rfl, rfl, rfl⟩ ⟨(by rw [if_neg c2_]), rfl⟩
set_option maxHeartbeats 4000000 in
set_option maxRecDepth 10000 in
theorem sf_X6_isFull_101 (M : pvM) (hok : pvOk M) (d : Nat) : PW 154 d (0, [some (pvR 101)], [], M) (fun r X => r = some (pvI ((if (M.1 101 0) < (Int32.ofNat 7) then 0 else 1))) ∧ X = M) := by
  have hT : pvdom 154 = pvD_154 := rfl
  have b1_ : 0 ≤ Int32.toInt (M.1 101 0) ∧ Int32.toInt (M.1 101 0) ≤ 7 := pvok_r hok 101 0 rfl
  refine pw_blk hT 5 (S' := (9, [some (pvR 101)], [pvI (Int32.ofNat 7), pvI (M.1 101 0)], M)) rfl ⟨trivial, rfl, trivial, rfl, rfl, trivial⟩ ?_
  refine pw_ic hT (c := (M.1 101 0) < (Int32.ofNat 7)) rfl rfl (fun c2_ => ?_) (fun c2_ => ?_)
  · have b3_ : 0 ≤ Int32.toInt (M.1 101 0) ∧ Int32.toInt (M.1 101 0) ≤ 6 := zr_lt_l 6 c2_ b1_ (show 7 ≤ Int32.toInt (Int32.ofNat 7) ∧ Int32.toInt (Int32.ofNat 7) ≤ 7 from (by decide)) (by decide)
    refine pw_blk hT 1 (S' := (17, [some (pvR 101)], [pvI 0], M)) rfl ⟨trivial, trivial⟩ ?_
    exact pw_ret hT rfl (r := some (pvI 0)) (M' := M) ⟨Or.inl rfl, rfl, rfl⟩ ⟨(by rw [if_pos c2_]), rfl⟩
  · have b4_ : 7 ≤ Int32.toInt (M.1 101 0) ∧ Int32.toInt (M.1 101 0) ≤ 7 := zr_nlt_l 7 c2_ b1_ (show 7 ≤ Int32.toInt (Int32.ofNat 7) ∧ Int32.toInt (Int32.ofNat 7) ≤ 7 from (by decide)) (by decide)
    refine pw_blk hT 2 (S' := (17, [some (pvR 101)], [pvI 1], M)) rfl ⟨trivial, trivial, trivial⟩ ?_
    exact pw_ret hT rfl (r := some (pvI 1)) (M' := M) ⟨Or.inr rfl, rfl, rfl⟩ ⟨(by rw [if_neg c2_]), rfl⟩
set_option maxHeartbeats 4000000 in
set_option maxRecDepth 10000 in
theorem sf_X6_isFull_103 (M : pvM) (hok : pvOk M) (d : Nat) : PW 154 d (0, [some (pvR 103)], [], M) (fun r X => r = some (pvI ((if (M.1 103 0) < (Int32.ofNat 6) then 0 else 1))) ∧ X = M) := by
  have hT : pvdom 154 = pvD_154 := rfl
  have b1_ : 0 ≤ Int32.toInt (M.1 103 0) ∧ Int32.toInt (M.1 103 0) ≤ 6 := pvok_r hok 103 0 rfl
  refine pw_blk hT 5 (S' := (9, [some (pvR 103)], [pvI (Int32.ofNat 6), pvI (M.1 103 0)], M)) rfl ⟨trivial, rfl, trivial, rfl, rfl, trivial⟩ ?_
  refine pw_ic hT (c := (M.1 103 0) < (Int32.ofNat 6)) rfl rfl (fun c2_ => ?_) (fun c2_ => ?_)
  · have b3_ : 0 ≤ Int32.toInt (M.1 103 0) ∧ Int32.toInt (M.1 103 0) ≤ 5 := zr_lt_l 5 c2_ b1_ (show 6 ≤ Int32.toInt (Int32.ofNat 6) ∧ Int32.toInt (Int32.ofNat 6) ≤ 6 from (by decide)) (by decide)
    refine pw_blk hT 1 (S' := (17, [some (pvR 103)], [pvI 0], M)) rfl ⟨trivial, trivial⟩ ?_
    exact pw_ret hT rfl (r := some (pvI 0)) (M' := M) ⟨Or.inl rfl, rfl, rfl⟩ ⟨(by rw [if_pos c2_]), rfl⟩
  · have b4_ : 6 ≤ Int32.toInt (M.1 103 0) ∧ Int32.toInt (M.1 103 0) ≤ 6 := zr_nlt_l 6 c2_ b1_ (show 6 ≤ Int32.toInt (Int32.ofNat 6) ∧ Int32.toInt (Int32.ofNat 6) ≤ 6 from (by decide)) (by decide)
    refine pw_blk hT 2 (S' := (17, [some (pvR 103)], [pvI 1], M)) rfl ⟨trivial, trivial, trivial⟩ ?_
    exact pw_ret hT rfl (r := some (pvI 1)) (M' := M) ⟨Or.inr rfl, rfl, rfl⟩ ⟨(by rw [if_neg c2_]), rfl⟩
set_option maxHeartbeats 4000000 in
set_option maxRecDepth 10000 in
theorem sf_X6_isFull_105 (M : pvM) (hok : pvOk M) (d : Nat) : PW 154 d (0, [some (pvR 105)], [], M) (fun r X => r = some (pvI ((if (M.1 105 0) < (Int32.ofNat 8) then 0 else 1))) ∧ X = M) := by
  have hT : pvdom 154 = pvD_154 := rfl
  have b1_ : 0 ≤ Int32.toInt (M.1 105 0) ∧ Int32.toInt (M.1 105 0) ≤ 8 := pvok_r hok 105 0 rfl
  refine pw_blk hT 5 (S' := (9, [some (pvR 105)], [pvI (Int32.ofNat 8), pvI (M.1 105 0)], M)) rfl ⟨trivial, rfl, trivial, rfl, rfl, trivial⟩ ?_
  refine pw_ic hT (c := (M.1 105 0) < (Int32.ofNat 8)) rfl rfl (fun c2_ => ?_) (fun c2_ => ?_)
  · have b3_ : 0 ≤ Int32.toInt (M.1 105 0) ∧ Int32.toInt (M.1 105 0) ≤ 7 := zr_lt_l 7 c2_ b1_ (show 8 ≤ Int32.toInt (Int32.ofNat 8) ∧ Int32.toInt (Int32.ofNat 8) ≤ 8 from (by decide)) (by decide)
    refine pw_blk hT 1 (S' := (17, [some (pvR 105)], [pvI 0], M)) rfl ⟨trivial, trivial⟩ ?_
    exact pw_ret hT rfl (r := some (pvI 0)) (M' := M) ⟨Or.inl rfl, rfl, rfl⟩ ⟨(by rw [if_pos c2_]), rfl⟩
  · have b4_ : 8 ≤ Int32.toInt (M.1 105 0) ∧ Int32.toInt (M.1 105 0) ≤ 8 := zr_nlt_l 8 c2_ b1_ (show 8 ≤ Int32.toInt (Int32.ofNat 8) ∧ Int32.toInt (Int32.ofNat 8) ≤ 8 from (by decide)) (by decide)
    refine pw_blk hT 2 (S' := (17, [some (pvR 105)], [pvI 1], M)) rfl ⟨trivial, trivial, trivial⟩ ?_
    exact pw_ret hT rfl (r := some (pvI 1)) (M' := M) ⟨Or.inr rfl, rfl, rfl⟩ ⟨(by rw [if_neg c2_]), rfl⟩
set_option maxHeartbeats 4000000 in
set_option maxRecDepth 10000 in
theorem sf_X9_isPlace_x_x (M : pvM) (hok : pvOk M) (n0 : Int32) (n1 : Int32) (d : Nat) : PW 179 d (0, [some (pvI n0), some (pvI n1)], [], M) (fun r X => r = some (pvI ((if n0 < 0 then 0 else (if 3 < n0 then 0 else (if n1 < 0 then 0 else (if 4 < n1 then 0 else 1)))))) ∧ X = M) := by
  have hT : pvdom 179 = pvD_179 := rfl
  refine pw_blk hT 3 (S' := (3, [some (pvI n0), some (pvI n1)], [pvI 3, pvI 0, pvI n0], M)) rfl ⟨trivial, trivial, trivial, trivial⟩ ?_
  refine pw_callT hT (as := [pvI n0, pvI 0, pvI 3]) (lo1 := [some (pvI n0), some (pvI 0), some (pvI 3)]) (d1 := d) (rest := []) rfl rfl rfl rfl rfl (fun h => absurd h (by decide)) (Nat.zero_le _) rfl rfl rfl (sf_X9_within_x_x_x M hok n0 0 3 d) ?_
  by_cases c6_ : n0 < 0
  · refine pw_eqI (if_pos c6_) ?_
    have b7_ : (-2147483648) ≤ Int32.toInt n0 ∧ Int32.toInt n0 ≤ (-1) := zr_lt_l (-1) c6_ (zbnd n0) (show 0 ≤ Int32.toInt 0 ∧ Int32.toInt 0 ≤ 0 from (by decide)) (by decide)
    show PW 179 d (6, [some (pvI n0), some (pvI n1)], [pvI 0], M) _
    refine pw_if hT (c := 0 = 0) rfl rfl (fun c8_ => ?_) (fun c8_ => absurd (by decide) c8_)
    refine pw_blk hT 1 (S' := (23, [some (pvI n0), some (pvI n1)], [pvI 0], M)) rfl ⟨trivial, trivial⟩ ?_
    exact pw_ret hT rfl (r := some (pvI 0)) (M' := M) ⟨Or.inl rfl, rfl, rfl⟩ ⟨(by rw [if_pos c6_]), rfl⟩
  · refine pw_eqI (if_neg c6_) ?_
    have b9_ : 0 ≤ Int32.toInt n0 ∧ Int32.toInt n0 ≤ 2147483647 := zr_nlt_l 0 c6_ (zbnd n0) (show 0 ≤ Int32.toInt 0 ∧ Int32.toInt 0 ≤ 0 from (by decide)) (by decide)
    by_cases c10_ : 3 < n0
    · refine pw_eqI (if_pos c10_) ?_
      have b11_ : 4 ≤ Int32.toInt n0 ∧ Int32.toInt n0 ≤ 2147483647 := zr_lt_r 4 c10_ b9_ (show 3 ≤ Int32.toInt 3 ∧ Int32.toInt 3 ≤ 3 from (by decide)) (by decide)
      show PW 179 d (6, [some (pvI n0), some (pvI n1)], [pvI 0], M) _
      refine pw_if hT (c := 0 = 0) rfl rfl (fun c12_ => ?_) (fun c12_ => absurd (by decide) c12_)
      refine pw_blk hT 1 (S' := (23, [some (pvI n0), some (pvI n1)], [pvI 0], M)) rfl ⟨trivial, trivial⟩ ?_
      exact pw_ret hT rfl (r := some (pvI 0)) (M' := M) ⟨Or.inl rfl, rfl, rfl⟩ ⟨(by rw [if_neg c6_, if_pos c10_]), rfl⟩
    · refine pw_eqI (if_neg c10_) ?_
      have b13_ : 0 ≤ Int32.toInt n0 ∧ Int32.toInt n0 ≤ 3 := zr_nlt_r 3 c10_ b9_ (show 3 ≤ Int32.toInt 3 ∧ Int32.toInt 3 ≤ 3 from (by decide)) (by decide)
      show PW 179 d (6, [some (pvI n0), some (pvI n1)], [pvI 1], M) _
      refine pw_if hT (c := 1 = 0) rfl rfl (fun c14_ => absurd c14_ (by decide)) (fun c14_ => ?_)
      refine pw_blk hT 3 (S' := (12, [some (pvI n0), some (pvI n1)], [pvI 4, pvI 0, pvI n1], M)) rfl ⟨trivial, trivial, trivial, trivial⟩ ?_
      refine pw_callT hT (as := [pvI n1, pvI 0, pvI 4]) (lo1 := [some (pvI n1), some (pvI 0), some (pvI 4)]) (d1 := d) (rest := []) rfl rfl rfl rfl rfl (fun h => absurd h (by decide)) (Nat.zero_le _) rfl rfl rfl (sf_X9_within_x_x_x M hok n1 0 4 d) ?_
      by_cases c20_ : n1 < 0
      · refine pw_eqI (if_pos c20_) ?_
        have b21_ : (-2147483648) ≤ Int32.toInt n1 ∧ Int32.toInt n1 ≤ (-1) := zr_lt_l (-1) c20_ (zbnd n1) (show 0 ≤ Int32.toInt 0 ∧ Int32.toInt 0 ≤ 0 from (by decide)) (by decide)
        show PW 179 d (15, [some (pvI n0), some (pvI n1)], [pvI 0], M) _
        refine pw_if hT (c := 0 = 0) rfl rfl (fun c22_ => ?_) (fun c22_ => absurd (by decide) c22_)
        refine pw_blk hT 1 (S' := (23, [some (pvI n0), some (pvI n1)], [pvI 0], M)) rfl ⟨trivial, trivial⟩ ?_
        exact pw_ret hT rfl (r := some (pvI 0)) (M' := M) ⟨Or.inl rfl, rfl, rfl⟩ ⟨(by rw [if_neg c6_, if_neg c10_, if_pos c20_]), rfl⟩
      · refine pw_eqI (if_neg c20_) ?_
        have b23_ : 0 ≤ Int32.toInt n1 ∧ Int32.toInt n1 ≤ 2147483647 := zr_nlt_l 0 c20_ (zbnd n1) (show 0 ≤ Int32.toInt 0 ∧ Int32.toInt 0 ≤ 0 from (by decide)) (by decide)
        by_cases c24_ : 4 < n1
        · refine pw_eqI (if_pos c24_) ?_
          have b25_ : 5 ≤ Int32.toInt n1 ∧ Int32.toInt n1 ≤ 2147483647 := zr_lt_r 5 c24_ b23_ (show 4 ≤ Int32.toInt 4 ∧ Int32.toInt 4 ≤ 4 from (by decide)) (by decide)
          show PW 179 d (15, [some (pvI n0), some (pvI n1)], [pvI 0], M) _
          refine pw_if hT (c := 0 = 0) rfl rfl (fun c26_ => ?_) (fun c26_ => absurd (by decide) c26_)
          refine pw_blk hT 1 (S' := (23, [some (pvI n0), some (pvI n1)], [pvI 0], M)) rfl ⟨trivial, trivial⟩ ?_
          exact pw_ret hT rfl (r := some (pvI 0)) (M' := M) ⟨Or.inl rfl, rfl, rfl⟩ ⟨(by rw [if_neg c6_, if_neg c10_, if_neg c20_, if_pos c24_]), rfl⟩
        · refine pw_eqI (if_neg c24_) ?_
          have b27_ : 0 ≤ Int32.toInt n1 ∧ Int32.toInt n1 ≤ 4 := zr_nlt_r 4 c24_ b23_ (show 4 ≤ Int32.toInt 4 ∧ Int32.toInt 4 ≤ 4 from (by decide)) (by decide)
          show PW 179 d (15, [some (pvI n0), some (pvI n1)], [pvI 1], M) _
          refine pw_if hT (c := 1 = 0) rfl rfl (fun c28_ => absurd c28_ (by decide)) (fun c28_ => ?_)
          refine pw_blk hT 2 (S' := (23, [some (pvI n0), some (pvI n1)], [pvI 1], M)) rfl ⟨trivial, trivial, trivial⟩ ?_
          exact pw_ret hT rfl (r := some (pvI 1)) (M' := M) ⟨Or.inr rfl, rfl, rfl⟩ ⟨(by rw [if_neg c6_, if_neg c10_, if_neg c20_, if_neg c24_]), rfl⟩
set_option maxHeartbeats 4000000 in
set_option maxRecDepth 10000 in
theorem sf_X9_isTape_x (M : pvM) (hok : pvOk M) (n0 : Int32) (d : Nat) : PW 180 d (0, [some (pvI n0)], [], M) (fun r X => r = some (pvI ((if n0 < 0 then 0 else (if 5 < n0 then 0 else 1)))) ∧ X = M) := by
  have hT : pvdom 180 = pvD_180 := rfl
  refine pw_blk hT 3 (S' := (3, [some (pvI n0)], [pvI 5, pvI 0, pvI n0], M)) rfl ⟨trivial, trivial, trivial, trivial⟩ ?_
  refine pw_callT hT (as := [pvI n0, pvI 0, pvI 5]) (lo1 := [some (pvI n0), some (pvI 0), some (pvI 5)]) (d1 := d) (rest := []) rfl rfl rfl rfl rfl (fun h => absurd h (by decide)) (Nat.zero_le _) rfl rfl rfl (sf_X9_within_x_x_x M hok n0 0 5 d) ?_
  by_cases c6_ : n0 < 0
  · refine pw_eqI (if_pos c6_) ?_
    have b7_ : (-2147483648) ≤ Int32.toInt n0 ∧ Int32.toInt n0 ≤ (-1) := zr_lt_l (-1) c6_ (zbnd n0) (show 0 ≤ Int32.toInt 0 ∧ Int32.toInt 0 ≤ 0 from (by decide)) (by decide)
    show PW 180 d (6, [some (pvI n0)], [pvI 0], M) _
    exact pw_ret hT rfl (r := some (pvI 0)) (M' := M) ⟨Or.inl rfl, rfl, rfl⟩ ⟨(by rw [if_pos c6_]), rfl⟩
  · refine pw_eqI (if_neg c6_) ?_
    have b8_ : 0 ≤ Int32.toInt n0 ∧ Int32.toInt n0 ≤ 2147483647 := zr_nlt_l 0 c6_ (zbnd n0) (show 0 ≤ Int32.toInt 0 ∧ Int32.toInt 0 ≤ 0 from (by decide)) (by decide)
    by_cases c9_ : 5 < n0
    · refine pw_eqI (if_pos c9_) ?_
      have b10_ : 6 ≤ Int32.toInt n0 ∧ Int32.toInt n0 ≤ 2147483647 := zr_lt_r 6 c9_ b8_ (show 5 ≤ Int32.toInt 5 ∧ Int32.toInt 5 ≤ 5 from (by decide)) (by decide)
      show PW 180 d (6, [some (pvI n0)], [pvI 0], M) _
      exact pw_ret hT rfl (r := some (pvI 0)) (M' := M) ⟨Or.inl rfl, rfl, rfl⟩ ⟨(by rw [if_neg c6_, if_pos c9_]), rfl⟩
    · refine pw_eqI (if_neg c9_) ?_
      have b11_ : 0 ≤ Int32.toInt n0 ∧ Int32.toInt n0 ≤ 5 := zr_nlt_r 5 c9_ b8_ (show 5 ≤ Int32.toInt 5 ∧ Int32.toInt 5 ≤ 5 from (by decide)) (by decide)
      show PW 180 d (6, [some (pvI n0)], [pvI 1], M) _
      exact pw_ret hT rfl (r := some (pvI 1)) (M' := M) ⟨Or.inr rfl, rfl, rfl⟩ ⟨(by rw [if_neg c6_, if_neg c9_]), rfl⟩
set_option maxHeartbeats 4000000 in
set_option maxRecDepth 10000 in
theorem sf_X8_isNothing_x (M : pvM) (hok : pvOk M) (q0 : Nat) (hq0 : pvkl q0 = 7) (d : Nat) : PW 165 d (0, [some (pvR q0)], [], M) (fun r X => r = some (pvI ((if (M.1 q0 0) = (-1) then 1 else 0))) ∧ X = M) := by
  have hT : pvdom 165 = pvD_165 := rfl
  have b1_ : (-1) ≤ Int32.toInt (M.1 q0 0) ∧ Int32.toInt (M.1 q0 0) ≤ 4 := pvok_r hok q0 0 ((pvrg_o 0 hq0 (by decide) (by decide)).trans rfl)
  refine pw_blk hT 3 (S' := (5, [some (pvR q0)], [pvI (-1), pvI (M.1 q0 0)], M)) rfl ⟨trivial, hq0, trivial, trivial⟩ ?_
  refine pw_icn hT (c := (M.1 q0 0) = (-1)) rfl rfl (fun c2_ => ?_) (fun c2_ => ?_)
  · have b3_ : 0 ≤ Int32.toInt (M.1 q0 0) ∧ Int32.toInt (M.1 q0 0) ≤ 4 := (by have u0 := b1_; have u1 := (not_congr (zi_eq _ _)).mp c2_; have u2 := (show (-1) ≤ Int32.toInt (-1) ∧ Int32.toInt (-1) ≤ (-1) from (by decide)); omega)
    refine pw_blk hT 1 (S' := (13, [some (pvR q0)], [pvI 0], M)) rfl ⟨trivial, trivial⟩ ?_
    exact pw_ret hT rfl (r := some (pvI 0)) (M' := M) ⟨Or.inl rfl, rfl, rfl⟩ ⟨(by rw [if_neg c2_]), rfl⟩
  · have b4_ : (-1) ≤ Int32.toInt (M.1 q0 0) ∧ Int32.toInt (M.1 q0 0) ≤ (-1) := (by have u0 := b1_; have u1 := (zi_eq _ _).mp c2_; have u2 := (show (-1) ≤ Int32.toInt (-1) ∧ Int32.toInt (-1) ≤ (-1) from (by decide)); omega)
    refine pw_blk hT 2 (S' := (13, [some (pvR q0)], [pvI 1], M)) rfl ⟨trivial, trivial, trivial⟩ ?_
    exact pw_ret hT rfl (r := some (pvI 1)) (M' := M) ⟨Or.inr rfl, rfl, rfl⟩ ⟨(by rw [if_pos c2_]), rfl⟩
set_option maxHeartbeats 4000000 in
set_option maxRecDepth 10000 in
theorem sf_X8_hasPlace_x_x (M : pvM) (hok : pvOk M) (q0 : Nat) (n1 : Int32) (hq0 : pvkl q0 = 7) (d : Nat) : PW 163 d (0, [some (pvR q0), some (pvI n1)], [], M) (fun r X => r = some (pvI ((if n1 < 0 then 0 else (if (M.1 q0 1) ≤ n1 then 0 else 1)))) ∧ X = M) := by
  have hT : pvdom 163 = pvD_163 := rfl
  refine pw_blk hT 1 (S' := (1, [some (pvR q0), some (pvI n1)], [pvI n1], M)) rfl ⟨trivial, trivial⟩ ?_
  refine pw_if hT (c := n1 < 0) rfl rfl (fun c1_ => ?_) (fun c1_ => ?_)
  · have b2_ : (-2147483648) ≤ Int32.toInt n1 ∧ Int32.toInt n1 ≤ (-1) := zr_lt_l (-1) c1_ (zbnd n1) (show 0 ≤ Int32.toInt 0 ∧ Int32.toInt 0 ≤ 0 from (by decide)) (by decide)
    refine pw_blk hT 1 (S' := (17, [some (pvR q0), some (pvI n1)], [pvI 0], M)) rfl ⟨trivial, trivial⟩ ?_
    exact pw_ret hT rfl (r := some (pvI 0)) (M' := M) ⟨Or.inl rfl, rfl, rfl⟩ ⟨(by rw [if_pos c1_]), rfl⟩
  · have b3_ : 0 ≤ Int32.toInt n1 ∧ Int32.toInt n1 ≤ 2147483647 := zr_nlt_l 0 c1_ (zbnd n1) (show 0 ≤ Int32.toInt 0 ∧ Int32.toInt 0 ≤ 0 from (by decide)) (by decide)
    have b4_ : 0 ≤ Int32.toInt (M.1 q0 1) ∧ Int32.toInt (M.1 q0 1) ≤ 60 := pvok_r hok q0 1 ((pvrg_o 1 hq0 (by decide) (by decide)).trans rfl)
    refine pw_blk hT 3 (S' := (9, [some (pvR q0), some (pvI n1)], [pvI (M.1 q0 1), pvI n1], M)) rfl ⟨trivial, trivial, hq0, trivial⟩ ?_
    refine pw_ic hT (c := (M.1 q0 1) ≤ n1) rfl rfl (fun c5_ => ?_) (fun c5_ => ?_)
    · have d6_ : Int32.toInt (M.1 q0 1) ≤ Int32.toInt n1 := (zi_le _ _).mp c5_
      refine pw_blk hT 1 (S' := (17, [some (pvR q0), some (pvI n1)], [pvI 0], M)) rfl ⟨trivial, trivial⟩ ?_
      exact pw_ret hT rfl (r := some (pvI 0)) (M' := M) ⟨Or.inl rfl, rfl, rfl⟩ ⟨(by rw [if_neg c1_, if_pos c5_]), rfl⟩
    · have b7_ : 1 ≤ Int32.toInt (M.1 q0 1) ∧ Int32.toInt (M.1 q0 1) ≤ 60 := zr_nle_l 1 c5_ b4_ b3_ (by decide)
      have b8_ : 0 ≤ Int32.toInt n1 ∧ Int32.toInt n1 ≤ 59 := zr_nle_r 59 c5_ b3_ b7_ (by decide)
      have d9_ : Int32.toInt (M.1 q0 1) > Int32.toInt n1 := Int.not_le.mp ((not_congr (zi_le _ _)).mp c5_)
      refine pw_blk hT 2 (S' := (17, [some (pvR q0), some (pvI n1)], [pvI 1], M)) rfl ⟨trivial, trivial, trivial⟩ ?_
      exact pw_ret hT rfl (r := some (pvI 1)) (M' := M) ⟨Or.inr rfl, rfl, rfl⟩ ⟨(by rw [if_neg c1_, if_neg c5_]), rfl⟩
set_option maxHeartbeats 4000000 in
set_option maxRecDepth 10000 in
theorem sf_X8_asItem_x_x (M : pvM) (hok : pvOk M) (q0 : Nat) (n1 : Int64) (hq0 : pvkl q0 = 7) (d : Nat) : PW 161 d (0, [some (pvR q0), some (pvJ n1), none], [], M) (fun r X => (∃ x : Int64, r = some (pvJ x)) ∧ X = M) := by
  have hT : pvdom 161 = pvD_161 := rfl
  have b1_ : (-1) ≤ Int32.toInt (M.1 q0 0) ∧ Int32.toInt (M.1 q0 0) ≤ 4 := pvok_r hok q0 0 ((pvrg_o 0 hq0 (by decide) (by decide)).trans rfl)
  refine pw_blk hT 2 (S' := (4, [some (pvR q0), some (pvJ n1), none], [pvI (M.1 q0 0)], M)) rfl ⟨trivial, hq0, trivial⟩ ?_
  refine pw_sw hT rfl rfl ?_
  refine And.intro (fun c2_ => ?_) (fun c2_ => ?_)
  · show PW 161 d (40, [some (pvR q0), some (pvJ n1), none], [], M) _
    have b3_ : 0 ≤ Int32.toInt (M.1 q0 0) ∧ Int32.toInt (M.1 q0 0) ≤ 0 := (by have u0 := b1_; have u1 := (zi_eq _ _).mp c2_; have u2 := (show 0 ≤ Int32.toInt 0 ∧ Int32.toInt 0 ≤ 0 from (by decide)); omega)
    refine pw_blk hT 4 (S' := (44, [some (pvR q0), some (pvJ n1), none], [pvJ (Int32.toInt64 (Int8.toInt32 (Int32.toInt8 (Int64.toInt32 n1))))], M)) rfl ⟨trivial, trivial, trivial, trivial, trivial⟩ ?_
    exact pw_ret hT rfl (r := some (pvJ (Int32.toInt64 (Int8.toInt32 (Int32.toInt8 (Int64.toInt32 n1)))))) (M' := M) ⟨rfl, rfl⟩ ⟨⟨_, rfl⟩, rfl⟩
  · refine And.intro (fun c4_ => ?_) (fun c4_ => ?_)
    · show PW 161 d (45, [some (pvR q0), some (pvJ n1), none], [], M) _
      have b5_ : 1 ≤ Int32.toInt (M.1 q0 0) ∧ Int32.toInt (M.1 q0 0) ≤ 1 := (by have u0 := b1_; have u1 := (zi_eq _ _).mp c4_; have u2 := (show 1 ≤ Int32.toInt 1 ∧ Int32.toInt 1 ≤ 1 from (by decide)); omega)
      refine pw_blk hT 4 (S' := (49, [some (pvR q0), some (pvJ n1), none], [pvJ (Int32.toInt64 (Int16.toInt32 (Int32.toInt16 (Int64.toInt32 n1))))], M)) rfl ⟨trivial, trivial, trivial, trivial, trivial⟩ ?_
      exact pw_ret hT rfl (r := some (pvJ (Int32.toInt64 (Int16.toInt32 (Int32.toInt16 (Int64.toInt32 n1)))))) (M' := M) ⟨rfl, rfl⟩ ⟨⟨_, rfl⟩, rfl⟩
    · refine And.intro (fun c6_ => ?_) (fun c6_ => ?_)
      · show PW 161 d (50, [some (pvR q0), some (pvJ n1), none], [], M) _
        have b7_ : 2 ≤ Int32.toInt (M.1 q0 0) ∧ Int32.toInt (M.1 q0 0) ≤ 2 := (by have u0 := b1_; have u1 := (zi_eq _ _).mp c6_; have u2 := (show 2 ≤ Int32.toInt 2 ∧ Int32.toInt 2 ≤ 2 from (by decide)); omega)
        refine pw_blk hT 3 (S' := (53, [some (pvR q0), some (pvJ n1), none], [pvJ (Int32.toInt64 (Int64.toInt32 n1))], M)) rfl ⟨trivial, trivial, trivial, trivial⟩ ?_
        exact pw_ret hT rfl (r := some (pvJ (Int32.toInt64 (Int64.toInt32 n1)))) (M' := M) ⟨rfl, rfl⟩ ⟨⟨_, rfl⟩, rfl⟩
      · refine And.intro (fun c8_ => ?_) (fun c8_ => ?_)
        · show PW 161 d (66, [some (pvR q0), some (pvJ n1), none], [], M) _
          have b9_ : 3 ≤ Int32.toInt (M.1 q0 0) ∧ Int32.toInt (M.1 q0 0) ≤ 3 := (by have u0 := b1_; have u1 := (zi_eq _ _).mp c8_; have u2 := (show 3 ≤ Int32.toInt 3 ∧ Int32.toInt 3 ≤ 3 from (by decide)); omega)
          refine pw_blk hT 1 (S' := (67, [some (pvR q0), some (pvJ n1), none], [pvJ n1], M)) rfl ⟨trivial, trivial⟩ ?_
          exact pw_ret hT rfl (r := some (pvJ n1)) (M' := M) ⟨rfl, rfl⟩ ⟨⟨_, rfl⟩, rfl⟩
        · refine And.intro (fun c10_ => ?_) (fun c10_ => ?_)
          · show PW 161 d (54, [some (pvR q0), some (pvJ n1), none], [], M) _
            have b11_ : 4 ≤ Int32.toInt (M.1 q0 0) ∧ Int32.toInt (M.1 q0 0) ≤ 4 := (by have u0 := b1_; have u1 := (zi_eq _ _).mp c10_; have u2 := (show 4 ≤ Int32.toInt 4 ∧ Int32.toInt 4 ≤ 4 from (by decide)); omega)
            refine pw_blk hT 3 (S' := (57, [some (pvR q0), some (pvJ n1), none], [pvI (lg_cmp n1 0)], M)) rfl ⟨trivial, trivial, trivial, trivial⟩ ?_
            refine pw_if hT (c := (lg_cmp n1 0) = 0) rfl rfl (fun c12_ => ?_) (fun c12_ => ?_)
            · have b13_ : 0 ≤ Int32.toInt (lg_cmp n1 0) ∧ Int32.toInt (lg_cmp n1 0) ≤ 0 := (by have u0 := (zbnd (lg_cmp n1 0)); have u1 := (zi_eq _ _).mp c12_; have u2 := (show 0 ≤ Int32.toInt 0 ∧ Int32.toInt 0 ≤ 0 from (by decide)); omega)
              refine pw_blk hT 1 (S' := (65, [some (pvR q0), some (pvJ n1), none], [pvJ 0], M)) rfl ⟨trivial, trivial⟩ ?_
              exact pw_ret hT rfl (r := some (pvJ 0)) (M' := M) ⟨rfl, rfl⟩ ⟨⟨_, rfl⟩, rfl⟩
            · refine pw_blk hT 2 (S' := (65, [some (pvR q0), some (pvJ n1), none], [pvJ 1], M)) rfl ⟨trivial, trivial, trivial⟩ ?_
              exact pw_ret hT rfl (r := some (pvJ 1)) (M' := M) ⟨rfl, rfl⟩ ⟨⟨_, rfl⟩, rfl⟩
          · have b14_ : (-1) ≤ Int32.toInt (M.1 q0 0) ∧ Int32.toInt (M.1 q0 0) ≤ (-1) := (by have u0 := b1_; have u9 := (show _ ∧ _ from ⟨(not_congr (zi_eq _ _)).mp c10_, (show 4 ≤ Int32.toInt 4 ∧ Int32.toInt 4 ≤ 4 from (by decide))⟩); have v1 := (not_congr (zi_eq _ _)).mp c8_; have w1 : (3 : Int32).toInt = 3 := (by decide); have v2 := (not_congr (zi_eq _ _)).mp c6_; have w2 : (2 : Int32).toInt = 2 := (by decide); have v3 := (not_congr (zi_eq _ _)).mp c4_; have w3 : (1 : Int32).toInt = 1 := (by decide); have v4 := (not_congr (zi_eq _ _)).mp c2_; have w4 : (0 : Int32).toInt = 0 := (by decide); omega)
            show PW 161 d (66, [some (pvR q0), some (pvJ n1), none], [], M) _
            refine pw_blk hT 1 (S' := (67, [some (pvR q0), some (pvJ n1), none], [pvJ n1], M)) rfl ⟨trivial, trivial⟩ ?_
            exact pw_ret hT rfl (r := some (pvJ n1)) (M' := M) ⟨rfl, rfl⟩ ⟨⟨_, rfl⟩, rfl⟩
def fpL_X9_item_0_x_x_x : List (Nat × Nat × Nat) := []
def fp_X9_item_0_x_x_x (q k : Nat) : Bool := pvfp fpL_X9_item_0_x_x_x q k
set_option maxHeartbeats 4000000 in
set_option maxRecDepth 10000 in
theorem sf_X9_item_0_x_x_x (M : pvM) (hok : pvOk M) (n1 : Int32) (n2 : Int32) (n3 : Int64) (d : Nat) : PW 181 d (0, [some (pvR 0), some (pvI n1), some (pvI n2), some (pvJ n3), none, none], [], M) (fun r X => (∃ x : Int32, r = some (pvI x) ∧ (-13) ≤ Int32.toInt x ∧ Int32.toInt x ≤ 1) ∧ pvOk X ∧ pvFr fp_X9_item_0_x_x_x M X) := by
  have hT : pvdom 181 = pvD_181 := rfl
  refine pw_blk hT 1 (S' := (1, [some (pvR 0), some (pvI n1), some (pvI n2), some (pvJ n3), none, none], [pvI n1], M)) rfl ⟨trivial, trivial⟩ ?_
  refine pw_callT hT (as := [pvI n1]) (lo1 := [some (pvI n1)]) (d1 := d) (rest := []) rfl rfl rfl rfl rfl (fun h => absurd h (by decide)) (Nat.zero_le _) rfl rfl rfl (sf_X9_isTape_x M hok n1 d) ?_
  by_cases c6_ : n1 < 0
  · refine pw_eqI (if_pos c6_) ?_
    have b7_ : (-2147483648) ≤ Int32.toInt n1 ∧ Int32.toInt n1 ≤ (-1) := zr_lt_l (-1) c6_ (zbnd n1) (show 0 ≤ Int32.toInt 0 ∧ Int32.toInt 0 ≤ 0 from (by decide)) (by decide)
    show PW 181 d (4, [some (pvR 0), some (pvI n1), some (pvI n2), some (pvJ n3), none, none], [pvI 0], M) _
    refine pw_ifn hT (c := 0 = 0) rfl rfl (fun c8_ => absurd (by decide) c8_) (fun c8_ => ?_)
    refine pw_blk hT 1 (S' := (8, [some (pvR 0), some (pvI n1), some (pvI n2), some (pvJ n3), none, none], [pvI (-1)], M)) rfl ⟨trivial, trivial⟩ ?_
    exact pw_ret hT rfl (r := some (pvI (-1))) (M' := M) ⟨rfl, rfl⟩ ⟨⟨_, rfl, (zr_wide (show (-1) ≤ Int32.toInt (-1) ∧ Int32.toInt (-1) ≤ (-1) from (by decide)) (by decide) (by decide))⟩, hok, pvfr_0⟩
  · refine pw_eqI (if_neg c6_) ?_
    have b9_ : 0 ≤ Int32.toInt n1 ∧ Int32.toInt n1 ≤ 2147483647 := zr_nlt_l 0 c6_ (zbnd n1) (show 0 ≤ Int32.toInt 0 ∧ Int32.toInt 0 ≤ 0 from (by decide)) (by decide)
    by_cases c10_ : 5 < n1
    · refine pw_eqI (if_pos c10_) ?_
      have b11_ : 6 ≤ Int32.toInt n1 ∧ Int32.toInt n1 ≤ 2147483647 := zr_lt_r 6 c10_ b9_ (show 5 ≤ Int32.toInt 5 ∧ Int32.toInt 5 ≤ 5 from (by decide)) (by decide)
      show PW 181 d (4, [some (pvR 0), some (pvI n1), some (pvI n2), some (pvJ n3), none, none], [pvI 0], M) _
      refine pw_ifn hT (c := 0 = 0) rfl rfl (fun c12_ => absurd (by decide) c12_) (fun c12_ => ?_)
      refine pw_blk hT 1 (S' := (8, [some (pvR 0), some (pvI n1), some (pvI n2), some (pvJ n3), none, none], [pvI (-1)], M)) rfl ⟨trivial, trivial⟩ ?_
      exact pw_ret hT rfl (r := some (pvI (-1))) (M' := M) ⟨rfl, rfl⟩ ⟨⟨_, rfl, (zr_wide (show (-1) ≤ Int32.toInt (-1) ∧ Int32.toInt (-1) ≤ (-1) from (by decide)) (by decide) (by decide))⟩, hok, pvfr_0⟩
    · refine pw_eqI (if_neg c10_) ?_
      have b13_ : 0 ≤ Int32.toInt n1 ∧ Int32.toInt n1 ≤ 5 := zr_nlt_r 5 c10_ b9_ (show 5 ≤ Int32.toInt 5 ∧ Int32.toInt 5 ≤ 5 from (by decide)) (by decide)
      show PW 181 d (4, [some (pvR 0), some (pvI n1), some (pvI n2), some (pvJ n3), none, none], [pvI 1], M) _
      refine pw_ifn hT (c := 1 = 0) rfl rfl (fun c14_ => ?_) (fun c14_ => absurd c14_ (by decide))
      refine pw_blkr hT 4 (pc := 15) (lo := [some (pvR 0), some (pvI n1), some (pvI n2), some (pvJ n3), none, none]) (st := []) (M := M) (z := (pvbs 2 + Int32.toNatClampNeg n1)) rfl ⟨trivial, rfl, trivial, ⟨rfl, (zr_in (n := 6) b13_ (by decide) (by decide))⟩, trivial⟩ (fun q15_ e17_ => ?_)
      have k16_ : pvkl q15_ = 7 := pvel_2 (zr_in (n := 6) b13_ (by decide) (by decide)) e17_
      refine pw_blk hT 2 (S' := (19, [some (pvR 0), some (pvI n1), some (pvI n2), some (pvJ n3), none, some (pvR q15_)], [pvR q15_], M)) rfl ⟨trivial, trivial, trivial⟩ ?_
      refine pw_callT hT (as := [pvR q15_]) (lo1 := [some (pvR q15_)]) (d1 := d) (rest := []) rfl rfl rfl rfl rfl (fun _ => k16_) (Nat.zero_le _) rfl rfl rfl (sf_X8_isNothing_x M hok q15_ k16_ d) ?_
      have b23_ : (-1) ≤ Int32.toInt (M.1 q15_ 0) ∧ Int32.toInt (M.1 q15_ 0) ≤ 4 := pvok_r hok q15_ 0 ((pvrg_o 0 k16_ (by decide) (by decide)).trans rfl)
      by_cases c24_ : (M.1 q15_ 0) = (-1)
      · refine pw_eqI (if_pos c24_) ?_
        have b25_ : (-1) ≤ Int32.toInt (M.1 q15_ 0) ∧ Int32.toInt (M.1 q15_ 0) ≤ (-1) := (by have u0 := b23_; have u1 := (zi_eq _ _).mp c24_; have u2 := (show (-1) ≤ Int32.toInt (-1) ∧ Int32.toInt (-1) ≤ (-1) from (by decide)); omega)
        show PW 181 d (22, [some (pvR 0), some (pvI n1), some (pvI n2), some (pvJ n3), none, some (pvR q15_)], [pvI 1], M) _
        refine pw_if hT (c := 1 = 0) rfl rfl (fun c26_ => absurd c26_ (by decide)) (fun c26_ => ?_)
        refine pw_blk hT 1 (S' := (27, [some (pvR 0), some (pvI n1), some (pvI n2), some (pvJ n3), none, some (pvR q15_)], [pvI (-11)], M)) rfl ⟨trivial, trivial⟩ ?_
        exact pw_ret hT rfl (r := some (pvI (-11))) (M' := M) ⟨rfl, rfl⟩ ⟨⟨_, rfl, (zr_wide (show (-11) ≤ Int32.toInt (-11) ∧ Int32.toInt (-11) ≤ (-11) from (by decide)) (by decide) (by decide))⟩, hok, pvfr_0⟩
      · refine pw_eqI (if_neg c24_) ?_
        have b27_ : 0 ≤ Int32.toInt (M.1 q15_ 0) ∧ Int32.toInt (M.1 q15_ 0) ≤ 4 := (by have u0 := b23_; have u1 := (not_congr (zi_eq _ _)).mp c24_; have u2 := (show (-1) ≤ Int32.toInt (-1) ∧ Int32.toInt (-1) ≤ (-1) from (by decide)); omega)
        show PW 181 d (22, [some (pvR 0), some (pvI n1), some (pvI n2), some (pvJ n3), none, some (pvR q15_)], [pvI 0], M) _
        refine pw_if hT (c := 0 = 0) rfl rfl (fun c28_ => ?_) (fun c28_ => absurd (by decide) c28_)
        refine pw_blk hT 2 (S' := (31, [some (pvR 0), some (pvI n1), some (pvI n2), some (pvJ n3), none, some (pvR q15_)], [pvI n2, pvR q15_], M)) rfl ⟨trivial, trivial, trivial⟩ ?_
        refine pw_callT hT (as := [pvR q15_, pvI n2]) (lo1 := [some (pvR q15_), some (pvI n2)]) (d1 := d) (rest := []) rfl rfl rfl rfl rfl (fun _ => k16_) (Nat.zero_le _) rfl rfl rfl (sf_X8_hasPlace_x_x M hok q15_ n2 k16_ d) ?_
        by_cases c34_ : n2 < 0
        · refine pw_eqI (if_pos c34_) ?_
          have b35_ : (-2147483648) ≤ Int32.toInt n2 ∧ Int32.toInt n2 ≤ (-1) := zr_lt_l (-1) c34_ (zbnd n2) (show 0 ≤ Int32.toInt 0 ∧ Int32.toInt 0 ≤ 0 from (by decide)) (by decide)
          show PW 181 d (34, [some (pvR 0), some (pvI n1), some (pvI n2), some (pvJ n3), none, some (pvR q15_)], [pvI 0], M) _
          refine pw_ifn hT (c := 0 = 0) rfl rfl (fun c36_ => absurd (by decide) c36_) (fun c36_ => ?_)
          refine pw_blk hT 1 (S' := (39, [some (pvR 0), some (pvI n1), some (pvI n2), some (pvJ n3), none, some (pvR q15_)], [pvI (-13)], M)) rfl ⟨trivial, trivial⟩ ?_
          exact pw_ret hT rfl (r := some (pvI (-13))) (M' := M) ⟨rfl, rfl⟩ ⟨⟨_, rfl, (zr_wide (show (-13) ≤ Int32.toInt (-13) ∧ Int32.toInt (-13) ≤ (-13) from (by decide)) (by decide) (by decide))⟩, hok, pvfr_0⟩
        · refine pw_eqI (if_neg c34_) ?_
          have b37_ : 0 ≤ Int32.toInt n2 ∧ Int32.toInt n2 ≤ 2147483647 := zr_nlt_l 0 c34_ (zbnd n2) (show 0 ≤ Int32.toInt 0 ∧ Int32.toInt 0 ≤ 0 from (by decide)) (by decide)
          have b38_ : 0 ≤ Int32.toInt (M.1 q15_ 1) ∧ Int32.toInt (M.1 q15_ 1) ≤ 60 := pvok_r hok q15_ 1 ((pvrg_o 1 k16_ (by decide) (by decide)).trans rfl)
          by_cases c39_ : (M.1 q15_ 1) ≤ n2
          · refine pw_eqI (if_pos c39_) ?_
            have d40_ : Int32.toInt (M.1 q15_ 1) ≤ Int32.toInt n2 := (zi_le _ _).mp c39_
            show PW 181 d (34, [some (pvR 0), some (pvI n1), some (pvI n2), some (pvJ n3), none, some (pvR q15_)], [pvI 0], M) _
            refine pw_ifn hT (c := 0 = 0) rfl rfl (fun c41_ => absurd (by decide) c41_) (fun c41_ => ?_)
            refine pw_blk hT 1 (S' := (39, [some (pvR 0), some (pvI n1), some (pvI n2), some (pvJ n3), none, some (pvR q15_)], [pvI (-13)], M)) rfl ⟨trivial, trivial⟩ ?_
            exact pw_ret hT rfl (r := some (pvI (-13))) (M' := M) ⟨rfl, rfl⟩ ⟨⟨_, rfl, (zr_wide (show (-13) ≤ Int32.toInt (-13) ∧ Int32.toInt (-13) ≤ (-13) from (by decide)) (by decide) (by decide))⟩, hok, pvfr_0⟩
          · refine pw_eqI (if_neg c39_) ?_
            have b42_ : 1 ≤ Int32.toInt (M.1 q15_ 1) ∧ Int32.toInt (M.1 q15_ 1) ≤ 60 := zr_nle_l 1 c39_ b38_ b37_ (by decide)
            have b43_ : 0 ≤ Int32.toInt n2 ∧ Int32.toInt n2 ≤ 59 := zr_nle_r 59 c39_ b37_ b42_ (by decide)
            have d44_ : Int32.toInt (M.1 q15_ 1) > Int32.toInt n2 := Int.not_le.mp ((not_congr (zi_le _ _)).mp c39_)
            show PW 181 d (34, [some (pvR 0), some (pvI n1), some (pvI n2), some (pvJ n3), none, some (pvR q15_)], [pvI 1], M) _
            refine pw_ifn hT (c := 1 = 0) rfl rfl (fun c45_ => ?_) (fun c45_ => absurd c45_ (by decide))
            refine pw_blk hT 5 (S' := (49, [some (pvR 0), some (pvI n1), some (pvI n2), some (pvJ n3), none, some (pvR q15_)], [pvJ n3, pvR q15_, pvI n2, pvR (q15_ + 6)], M)) rfl ⟨trivial, k16_, trivial, trivial, trivial, trivial⟩ ?_
            refine pw_callJp hT (as := [pvR q15_, pvJ n3]) (lo1 := [some (pvR q15_), some (pvJ n3), none]) (d1 := d) (rest := [pvI n2, pvR (q15_ + 6)]) rfl rfl rfl rfl rfl (fun _ => k16_) (Nat.zero_le _) rfl rfl rfl (sf_X8_asItem_x_x M hok q15_ n3 k16_ d) (fun x46_ b48_ => ?_)
            refine pw_blkw hT 1 (pc := 53) (lo := [some (pvR 0), some (pvI n1), some (pvI n2), some (pvJ n3), none, some (pvR q15_)]) (st := []) (M := pvw M (q15_ + 6) (Int32.toNatClampNeg n2) x46_) rfl ⟨⟨(pvow_7_6 k16_).1, (by rw [(pvow_7_6 k16_).2.1]; exact (zr_in (n := 60) b43_ (by decide) (by decide)))⟩, trivial⟩ (fun M51_ e52_ => ?_)
            have o53_ : pvOk M51_ := pvok_w e52_ hok
            have f54_ : pvFr fp_X9_item_0_x_x_x M M51_ := pvfr_w e52_ pvfr_0
            refine pw_blk hT 1 (S' := (54, [some (pvR 0), some (pvI n1), some (pvI n2), some (pvJ n3), none, some (pvR q15_)], [pvI 1], M51_)) rfl ⟨trivial, trivial⟩ ?_
            exact pw_ret hT rfl (r := some (pvI 1)) (M' := M51_) ⟨rfl, rfl⟩ ⟨⟨_, rfl, (zr_wide (show 1 ≤ Int32.toInt 1 ∧ Int32.toInt 1 ≤ 1 from (by decide)) (by decide) (by decide))⟩, o53_, f54_⟩
set_option maxHeartbeats 4000000 in
set_option maxRecDepth 10000 in
theorem sf_X9_judge_0_x_x (M : pvM) (hok : pvOk M) (n1 : Int32) (n2 : Int32) (d : Nat) : PW 182 d (0, [some (pvR 0), some (pvI n1), some (pvI n2), none, none, none], [], M) (fun r X => (∃ x : Int32, r = some (pvI x) ∧ (-12) ≤ Int32.toInt x ∧ Int32.toInt x ≤ 106) ∧ X = M) := by
  have hT : pvdom 182 = pvD_182 := rfl
  refine pw_blk hT 1 (S' := (1, [some (pvR 0), some (pvI n1), some (pvI n2), none, none, none], [pvI n1], M)) rfl ⟨trivial, trivial⟩ ?_
  refine pw_callT hT (as := [pvI n1]) (lo1 := [some (pvI n1)]) (d1 := d) (rest := []) rfl rfl rfl rfl rfl (fun h => absurd h (by decide)) (Nat.zero_le _) rfl rfl rfl (sf_X9_isTape_x M hok n1 d) ?_
  by_cases c6_ : n1 < 0
  · refine pw_eqI (if_pos c6_) ?_
    have b7_ : (-2147483648) ≤ Int32.toInt n1 ∧ Int32.toInt n1 ≤ (-1) := zr_lt_l (-1) c6_ (zbnd n1) (show 0 ≤ Int32.toInt 0 ∧ Int32.toInt 0 ≤ 0 from (by decide)) (by decide)
    show PW 182 d (4, [some (pvR 0), some (pvI n1), some (pvI n2), none, none, none], [pvI 0], M) _
    refine pw_ifn hT (c := 0 = 0) rfl rfl (fun c8_ => absurd (by decide) c8_) (fun c8_ => ?_)
    refine pw_blk hT 1 (S' := (8, [some (pvR 0), some (pvI n1), some (pvI n2), none, none, none], [pvI (-1)], M)) rfl ⟨trivial, trivial⟩ ?_
    exact pw_ret hT rfl (r := some (pvI (-1))) (M' := M) ⟨rfl, rfl⟩ ⟨⟨_, rfl, (zr_wide (show (-1) ≤ Int32.toInt (-1) ∧ Int32.toInt (-1) ≤ (-1) from (by decide)) (by decide) (by decide))⟩, rfl⟩
  · refine pw_eqI (if_neg c6_) ?_
    have b9_ : 0 ≤ Int32.toInt n1 ∧ Int32.toInt n1 ≤ 2147483647 := zr_nlt_l 0 c6_ (zbnd n1) (show 0 ≤ Int32.toInt 0 ∧ Int32.toInt 0 ≤ 0 from (by decide)) (by decide)
    by_cases c10_ : 5 < n1
    · refine pw_eqI (if_pos c10_) ?_
      have b11_ : 6 ≤ Int32.toInt n1 ∧ Int32.toInt n1 ≤ 2147483647 := zr_lt_r 6 c10_ b9_ (show 5 ≤ Int32.toInt 5 ∧ Int32.toInt 5 ≤ 5 from (by decide)) (by decide)
      show PW 182 d (4, [some (pvR 0), some (pvI n1), some (pvI n2), none, none, none], [pvI 0], M) _
      refine pw_ifn hT (c := 0 = 0) rfl rfl (fun c12_ => absurd (by decide) c12_) (fun c12_ => ?_)
      refine pw_blk hT 1 (S' := (8, [some (pvR 0), some (pvI n1), some (pvI n2), none, none, none], [pvI (-1)], M)) rfl ⟨trivial, trivial⟩ ?_
      exact pw_ret hT rfl (r := some (pvI (-1))) (M' := M) ⟨rfl, rfl⟩ ⟨⟨_, rfl, (zr_wide (show (-1) ≤ Int32.toInt (-1) ∧ Int32.toInt (-1) ≤ (-1) from (by decide)) (by decide) (by decide))⟩, rfl⟩
    · refine pw_eqI (if_neg c10_) ?_
      have b13_ : 0 ≤ Int32.toInt n1 ∧ Int32.toInt n1 ≤ 5 := zr_nlt_r 5 c10_ b9_ (show 5 ≤ Int32.toInt 5 ∧ Int32.toInt 5 ≤ 5 from (by decide)) (by decide)
      show PW 182 d (4, [some (pvR 0), some (pvI n1), some (pvI n2), none, none, none], [pvI 1], M) _
      refine pw_ifn hT (c := 1 = 0) rfl rfl (fun c14_ => ?_) (fun c14_ => absurd c14_ (by decide))
      refine pw_blkr hT 4 (pc := 15) (lo := [some (pvR 0), some (pvI n1), some (pvI n2), none, none, none]) (st := []) (M := M) (z := (pvbs 2 + Int32.toNatClampNeg n1)) rfl ⟨trivial, rfl, trivial, ⟨rfl, (zr_in (n := 6) b13_ (by decide) (by decide))⟩, trivial⟩ (fun q15_ e17_ => ?_)
      have k16_ : pvkl q15_ = 7 := pvel_2 (zr_in (n := 6) b13_ (by decide) (by decide)) e17_
      refine pw_blk hT 2 (S' := (17, [some (pvR 0), some (pvI n1), some (pvI n2), some (pvR q15_), none, none], [pvR q15_], M)) rfl ⟨trivial, trivial, trivial⟩ ?_
      refine pw_callT hT (as := [pvR q15_]) (lo1 := [some (pvR q15_)]) (d1 := d) (rest := []) rfl rfl rfl rfl rfl (fun _ => k16_) (Nat.zero_le _) rfl rfl rfl (sf_X8_isNothing_x M hok q15_ k16_ d) ?_
      have b23_ : (-1) ≤ Int32.toInt (M.1 q15_ 0) ∧ Int32.toInt (M.1 q15_ 0) ≤ 4 := pvok_r hok q15_ 0 ((pvrg_o 0 k16_ (by decide) (by decide)).trans rfl)
      by_cases c24_ : (M.1 q15_ 0) = (-1)
      · refine pw_eqI (if_pos c24_) ?_
        have b25_ : (-1) ≤ Int32.toInt (M.1 q15_ 0) ∧ Int32.toInt (M.1 q15_ 0) ≤ (-1) := (by have u0 := b23_; have u1 := (zi_eq _ _).mp c24_; have u2 := (show (-1) ≤ Int32.toInt (-1) ∧ Int32.toInt (-1) ≤ (-1) from (by decide)); omega)
        show PW 182 d (20, [some (pvR 0), some (pvI n1), some (pvI n2), some (pvR q15_), none, none], [pvI 1], M) _
        refine pw_ifn hT (c := 1 = 0) rfl rfl (fun c26_ => ?_) (fun c26_ => absurd c26_ (by decide))
        refine pw_blk hT 2 (S' := (37, [some (pvR 0), some (pvI n1), some (pvI n2), some (pvR q15_), some (pvI 0), none], [], M)) rfl ⟨trivial, trivial, trivial⟩ ?_
        have hlz159_ : ∀ (nz159_ : Nat) (i4z159_ : Int32) (v5z159_ : Option pvV), (0 ≤ Int32.toInt i4z159_ ∧ Int32.toInt i4z159_ ≤ 7) → (zhide ((8 - Int32.toInt i4z159_).toNat < nz159_)) → PW 182 d (37, [some (pvR 0), some (pvI n1), some (pvI n2), some (pvR q15_), some (pvI i4z159_), v5z159_], [], M) (fun r X => (∃ x : Int32, r = some (pvI x) ∧ (-12) ≤ Int32.toInt x ∧ Int32.toInt x ≤ 106) ∧ X = M) := by
          intro nz159_
          induction nz159_ with
          | zero => intro i4z159_ v5z159_ h4z159_ hmz159_; exact absurd (zshow hmz159_) (Nat.not_lt_zero _)
          | succ nz159_ ihz159_ =>
            intro i4z159_ v5z159_ h4z159_ hmz159_
            have b160_ : 0 ≤ Int32.toInt (M.1 8 1) ∧ Int32.toInt (M.1 8 1) ≤ 7 := pvok_r hok 8 1 rfl
            refine pw_blk hT 4 (S' := (46, [some (pvR 0), some (pvI n1), some (pvI n2), some (pvR q15_), some (pvI i4z159_), v5z159_], [pvI (M.1 8 1), pvI i4z159_], M)) rfl ⟨trivial, trivial, rfl, rfl, trivial⟩ ?_
            refine pw_ic hT (c := (M.1 8 1) ≤ i4z159_) rfl rfl (fun c161_ => ?_) (fun c161_ => ?_)
            · have d162_ : Int32.toInt (M.1 8 1) ≤ Int32.toInt i4z159_ := (zi_le _ _).mp c161_
              refine pw_blk hT 1 (S' := (120, [some (pvR 0), some (pvI n1), some (pvI n2), some (pvR q15_), some (pvI i4z159_), v5z159_], [pvI (-5)], M)) rfl ⟨trivial, trivial⟩ ?_
              exact pw_ret hT rfl (r := some (pvI (-5))) (M' := M) ⟨rfl, rfl⟩ ⟨⟨_, rfl, (zr_wide (show (-5) ≤ Int32.toInt (-5) ∧ Int32.toInt (-5) ≤ (-5) from (by decide)) (by decide) (by decide))⟩, rfl⟩
            · have b163_ : 1 ≤ Int32.toInt (M.1 8 1) ∧ Int32.toInt (M.1 8 1) ≤ 7 := zr_nle_l 1 c161_ b160_ h4z159_ (by decide)
              have b164_ : 0 ≤ Int32.toInt i4z159_ ∧ Int32.toInt i4z159_ ≤ 6 := zr_nle_r 6 c161_ h4z159_ b163_ (by decide)
              have d165_ : Int32.toInt (M.1 8 1) > Int32.toInt i4z159_ := Int.not_le.mp ((not_congr (zi_le _ _)).mp c161_)
              refine pw_blk hT 1 (S' := (50, [some (pvR 0), some (pvI n1), some (pvI n2), some (pvR q15_), some (pvI i4z159_), v5z159_], [pvI n2], M)) rfl ⟨trivial, trivial⟩ ?_
              refine pw_if hT (c := n2 < 0) rfl rfl (fun c166_ => ?_) (fun c166_ => ?_)
              · have b167_ : (-2147483648) ≤ Int32.toInt n2 ∧ Int32.toInt n2 ≤ (-1) := zr_lt_l (-1) c166_ (zbnd n2) (show 0 ≤ Int32.toInt 0 ∧ Int32.toInt 0 ≤ 0 from (by decide)) (by decide)
                obtain ⟨q169_, b168_⟩ : (Int32.toInt (100 + i4z159_) = 100 + Int32.toInt i4z159_) ∧ (100 ≤ Int32.toInt (100 + i4z159_) ∧ Int32.toInt (100 + i4z159_) ≤ 106) := zadd_q 100 i4z159_ 100 100 106 b164_ (by decide) (by decide) (by decide) (by decide) (by decide)
                refine pw_blk hT 3 (S' := (69, [some (pvR 0), some (pvI n1), some (pvI n2), some (pvR q15_), some (pvI i4z159_), v5z159_], [pvI (100 + i4z159_)], M)) rfl ⟨trivial, trivial, trivial, trivial⟩ ?_
                exact pw_ret hT rfl (r := some (pvI (100 + i4z159_))) (M' := M) ⟨rfl, rfl⟩ ⟨⟨_, rfl, (zr_wide b168_ (by decide) (by decide))⟩, rfl⟩
              · have b170_ : 0 ≤ Int32.toInt n2 ∧ Int32.toInt n2 ≤ 2147483647 := zr_nlt_l 0 c166_ (zbnd n2) (show 0 ≤ Int32.toInt 0 ∧ Int32.toInt 0 ≤ 0 from (by decide)) (by decide)
                have b171_ : 0 ≤ Int32.toInt (M.1 q15_ 1) ∧ Int32.toInt (M.1 q15_ 1) ≤ 60 := pvok_r hok q15_ 1 ((pvrg_o 1 k16_ (by decide) (by decide)).trans rfl)
                obtain ⟨q173_, b172_⟩ : (Int32.toInt ((M.1 q15_ 1) - i4z159_) = Int32.toInt (M.1 q15_ 1) - Int32.toInt i4z159_) ∧ ((-6) ≤ Int32.toInt ((M.1 q15_ 1) - i4z159_) ∧ Int32.toInt ((M.1 q15_ 1) - i4z159_) ≤ 60) := zsub_r (M.1 q15_ 1) i4z159_ (-6) 60 b171_ b164_ (by decide) (by decide) (by decide) (by decide)
                refine pw_blk hT 5 (S' := (61, [some (pvR 0), some (pvI n1), some (pvI n2), some (pvR q15_), some (pvI i4z159_), v5z159_], [pvI ((M.1 q15_ 1) - i4z159_), pvI n2], M)) rfl ⟨trivial, trivial, k16_, trivial, trivial, trivial⟩ ?_
                refine pw_ic hT (c := n2 < ((M.1 q15_ 1) - i4z159_)) rfl rfl (fun c174_ => ?_) (fun c174_ => ?_)
                · have b175_ : 0 ≤ Int32.toInt n2 ∧ Int32.toInt n2 ≤ 59 := zr_lt_l 59 c174_ b170_ b172_ (by decide)
                  have b176_ : 1 ≤ Int32.toInt ((M.1 q15_ 1) - i4z159_) ∧ Int32.toInt ((M.1 q15_ 1) - i4z159_) ≤ 60 := zr_lt_r 1 c174_ b172_ b175_ (by decide)
                  have d177_ : Int32.toInt n2 < Int32.toInt ((M.1 q15_ 1) - i4z159_) := (zi_lt _ _).mp c174_
                  obtain ⟨q179_, b178_⟩ : (Int32.toInt (n2 + i4z159_) = Int32.toInt n2 + Int32.toInt i4z159_) ∧ (0 ≤ Int32.toInt (n2 + i4z159_) ∧ Int32.toInt (n2 + i4z159_) ≤ 65) := zadd_r n2 i4z159_ 0 65 b175_ b164_ (by decide) (by decide) (by decide) (by decide)
                  refine pw_blk hT 8 (S' := (81, [some (pvR 0), some (pvI n1), some (pvI n2), some (pvR q15_), some (pvI i4z159_), v5z159_], [pvI (lg_cmp (M.2 (q15_ + 6) (Int32.toNatClampNeg (n2 + i4z159_))) 0)], M)) rfl ⟨trivial, k16_, trivial, trivial, trivial, ⟨(pvow_7_6 k16_).1, (by rw [(pvow_7_6 k16_).2.1]; exact (vp_in_iff.mpr (show 0 ≤ Int32.toInt (n2 + i4z159_) ∧ Int32.toInt (n2 + i4z159_) < ((60 : Nat) : Int) from (by have u0 := b178_; omega))))⟩, trivial, trivial, trivial⟩ ?_
                  refine pw_if hT (c := (lg_cmp (M.2 (q15_ + 6) (Int32.toNatClampNeg (n2 + i4z159_))) 0) = 0) rfl rfl (fun c180_ => ?_) (fun c180_ => ?_)
                  · have b181_ : 0 ≤ Int32.toInt (lg_cmp (M.2 (q15_ + 6) (Int32.toNatClampNeg (n2 + i4z159_))) 0) ∧ Int32.toInt (lg_cmp (M.2 (q15_ + 6) (Int32.toNatClampNeg (n2 + i4z159_))) 0) ≤ 0 := (by have u0 := (zbnd (lg_cmp (M.2 (q15_ + 6) (Int32.toNatClampNeg (n2 + i4z159_))) 0)); have u1 := (zi_eq _ _).mp c180_; have u2 := (show 0 ≤ Int32.toInt 0 ∧ Int32.toInt 0 ≤ 0 from (by decide)); omega)
                    refine pw_blkr hT 8 (pc := 103) (lo := [some (pvR 0), some (pvI n1), some (pvI n2), some (pvR q15_), some (pvI i4z159_), some (pvI 0)]) (st := [pvI 0]) (M := M) (z := (pvbs 10 + Int32.toNatClampNeg i4z159_)) rfl ⟨trivial, trivial, trivial, trivial, rfl, rfl, trivial, ⟨rfl, (zr_in (n := 7) b164_ (by decide) (by decide))⟩, trivial⟩ (fun q182_ e184_ => ?_)
                    have k183_ : pvkl q182_ = 3 := pvel_10 (zr_in (n := 7) b164_ (by decide) (by decide)) e184_
                    have b185_ : 0 ≤ Int32.toInt (M.1 q182_ 5) ∧ Int32.toInt (M.1 q182_ 5) ≤ 1 := pvok_r hok q182_ 5 ((pvrg_o 5 k183_ (by decide) (by decide)).trans rfl)
                    refine pw_blk hT 1 (S' := (106, [some (pvR 0), some (pvI n1), some (pvI n2), some (pvR q15_), some (pvI i4z159_), some (pvI 0)], [pvI (M.1 q182_ 5), pvI 0], M)) rfl ⟨k183_, trivial⟩ ?_
                    refine pw_ic hT (c := 0 = (M.1 q182_ 5)) rfl rfl (fun c186_ => ?_) (fun c186_ => ?_)
                    · have b187_ : 0 ≤ Int32.toInt (M.1 q182_ 5) ∧ Int32.toInt (M.1 q182_ 5) ≤ 0 := (by have u0 := b185_; have u1 := (zi_eq _ _).mp c186_; have u2 := (show 0 ≤ Int32.toInt 0 ∧ Int32.toInt 0 ≤ 0 from (by decide)); omega)
                      obtain ⟨q189_, b188_⟩ : (Int32.toInt (i4z159_ + 1) = Int32.toInt i4z159_ + 1) ∧ (1 ≤ Int32.toInt (i4z159_ + 1) ∧ Int32.toInt (i4z159_ + 1) ≤ 7) := zadd_k i4z159_ 1 1 1 7 b164_ (by decide) (by decide) (by decide) (by decide) (by decide)
                      refine pw_blk hT 2 (S' := (37, [some (pvR 0), some (pvI n1), some (pvI n2), some (pvR q15_), some (pvI (i4z159_ + 1)), some (pvI 0)], [], M)) rfl ⟨trivial, trivial, trivial⟩ ?_
                      exact ihz159_ (i4z159_ + 1) (some (pvI 0)) (zr_wide b188_ (by decide) (by decide)) (zhid (pvms_up (zshow hmz159_) h4z159_ q189_ (by decide) (by decide)))
                    · have b190_ : 1 ≤ Int32.toInt (M.1 q182_ 5) ∧ Int32.toInt (M.1 q182_ 5) ≤ 1 := (by have u0 := b185_; have u1 := (not_congr (zi_eq _ _)).mp c186_; have u2 := (show 0 ≤ Int32.toInt 0 ∧ Int32.toInt 0 ≤ 0 from (by decide)); omega)
                      refine pw_blk hT 1 (S' := (111, [some (pvR 0), some (pvI n1), some (pvI n2), some (pvR q15_), some (pvI i4z159_), some (pvI 0)], [pvI i4z159_], M)) rfl ⟨trivial, trivial⟩ ?_
                      exact pw_ret hT rfl (r := some (pvI i4z159_)) (M' := M) ⟨rfl, rfl⟩ ⟨⟨_, rfl, (zr_wide b164_ (by decide) (by decide))⟩, rfl⟩
                  · refine pw_blkr hT 9 (pc := 103) (lo := [some (pvR 0), some (pvI n1), some (pvI n2), some (pvR q15_), some (pvI i4z159_), some (pvI 1)]) (st := [pvI 1]) (M := M) (z := (pvbs 10 + Int32.toNatClampNeg i4z159_)) rfl ⟨trivial, trivial, trivial, trivial, trivial, rfl, rfl, trivial, ⟨rfl, (zr_in (n := 7) b164_ (by decide) (by decide))⟩, trivial⟩ (fun q191_ e193_ => ?_)
                    have k192_ : pvkl q191_ = 3 := pvel_10 (zr_in (n := 7) b164_ (by decide) (by decide)) e193_
                    have b194_ : 0 ≤ Int32.toInt (M.1 q191_ 5) ∧ Int32.toInt (M.1 q191_ 5) ≤ 1 := pvok_r hok q191_ 5 ((pvrg_o 5 k192_ (by decide) (by decide)).trans rfl)
                    refine pw_blk hT 1 (S' := (106, [some (pvR 0), some (pvI n1), some (pvI n2), some (pvR q15_), some (pvI i4z159_), some (pvI 1)], [pvI (M.1 q191_ 5), pvI 1], M)) rfl ⟨k192_, trivial⟩ ?_
                    refine pw_ic hT (c := 1 = (M.1 q191_ 5)) rfl rfl (fun c195_ => ?_) (fun c195_ => ?_)
                    · have b196_ : 1 ≤ Int32.toInt (M.1 q191_ 5) ∧ Int32.toInt (M.1 q191_ 5) ≤ 1 := (by have u0 := b194_; have u1 := (zi_eq _ _).mp c195_; have u2 := (show 1 ≤ Int32.toInt 1 ∧ Int32.toInt 1 ≤ 1 from (by decide)); omega)
                      obtain ⟨q198_, b197_⟩ : (Int32.toInt (i4z159_ + 1) = Int32.toInt i4z159_ + 1) ∧ (1 ≤ Int32.toInt (i4z159_ + 1) ∧ Int32.toInt (i4z159_ + 1) ≤ 7) := zadd_k i4z159_ 1 1 1 7 b164_ (by decide) (by decide) (by decide) (by decide) (by decide)
                      refine pw_blk hT 2 (S' := (37, [some (pvR 0), some (pvI n1), some (pvI n2), some (pvR q15_), some (pvI (i4z159_ + 1)), some (pvI 1)], [], M)) rfl ⟨trivial, trivial, trivial⟩ ?_
                      exact ihz159_ (i4z159_ + 1) (some (pvI 1)) (zr_wide b197_ (by decide) (by decide)) (zhid (pvms_up (zshow hmz159_) h4z159_ q198_ (by decide) (by decide)))
                    · have b199_ : 0 ≤ Int32.toInt (M.1 q191_ 5) ∧ Int32.toInt (M.1 q191_ 5) ≤ 0 := (by have u0 := b194_; have u1 := (not_congr (zi_eq _ _)).mp c195_; have u2 := (show 1 ≤ Int32.toInt 1 ∧ Int32.toInt 1 ≤ 1 from (by decide)); omega)
                      refine pw_blk hT 1 (S' := (111, [some (pvR 0), some (pvI n1), some (pvI n2), some (pvR q15_), some (pvI i4z159_), some (pvI 1)], [pvI i4z159_], M)) rfl ⟨trivial, trivial⟩ ?_
                      exact pw_ret hT rfl (r := some (pvI i4z159_)) (M' := M) ⟨rfl, rfl⟩ ⟨⟨_, rfl, (zr_wide b164_ (by decide) (by decide))⟩, rfl⟩
                · have d200_ : Int32.toInt n2 ≥ Int32.toInt ((M.1 q15_ 1) - i4z159_) := Int.not_lt.mp ((not_congr (zi_lt _ _)).mp c174_)
                  obtain ⟨q202_, b201_⟩ : (Int32.toInt (100 + i4z159_) = 100 + Int32.toInt i4z159_) ∧ (100 ≤ Int32.toInt (100 + i4z159_) ∧ Int32.toInt (100 + i4z159_) ≤ 106) := zadd_q 100 i4z159_ 100 100 106 b164_ (by decide) (by decide) (by decide) (by decide) (by decide)
                  refine pw_blk hT 3 (S' := (69, [some (pvR 0), some (pvI n1), some (pvI n2), some (pvR q15_), some (pvI i4z159_), v5z159_], [pvI (100 + i4z159_)], M)) rfl ⟨trivial, trivial, trivial, trivial⟩ ?_
                  exact pw_ret hT rfl (r := some (pvI (100 + i4z159_))) (M' := M) ⟨rfl, rfl⟩ ⟨⟨_, rfl, (zr_wide b201_ (by decide) (by decide))⟩, rfl⟩
        exact hlz159_ _ 0 none (zr_wide (show 0 ≤ Int32.toInt 0 ∧ Int32.toInt 0 ≤ 0 from (by decide)) (by decide) (by decide)) (zhid (Nat.lt_succ_self _))
      · refine pw_eqI (if_neg c24_) ?_
        have b203_ : 0 ≤ Int32.toInt (M.1 q15_ 0) ∧ Int32.toInt (M.1 q15_ 0) ≤ 4 := (by have u0 := b23_; have u1 := (not_congr (zi_eq _ _)).mp c24_; have u2 := (show (-1) ≤ Int32.toInt (-1) ∧ Int32.toInt (-1) ≤ (-1) from (by decide)); omega)
        show PW 182 d (20, [some (pvR 0), some (pvI n1), some (pvI n2), some (pvR q15_), none, none], [pvI 0], M) _
        refine pw_ifn hT (c := 0 = 0) rfl rfl (fun c204_ => absurd (by decide) c204_) (fun c204_ => ?_)
        refine pw_blk hT 3 (S' := (28, [some (pvR 0), some (pvI n1), some (pvI n2), some (pvR q15_), none, none], [pvI 4, pvI (M.1 q15_ 0)], M)) rfl ⟨trivial, k16_, trivial, trivial⟩ ?_
        refine pw_ic hT (c := (M.1 q15_ 0) = 4) rfl rfl (fun c205_ => ?_) (fun c205_ => ?_)
        · have b206_ : 4 ≤ Int32.toInt (M.1 q15_ 0) ∧ Int32.toInt (M.1 q15_ 0) ≤ 4 := (by have u0 := b203_; have u1 := (zi_eq _ _).mp c205_; have u2 := (show 4 ≤ Int32.toInt 4 ∧ Int32.toInt 4 ≤ 4 from (by decide)); omega)
          refine pw_blk hT 2 (S' := (37, [some (pvR 0), some (pvI n1), some (pvI n2), some (pvR q15_), some (pvI 0), none], [], M)) rfl ⟨trivial, trivial, trivial⟩ ?_
          have hlz339_ : ∀ (nz339_ : Nat) (i4z339_ : Int32) (v5z339_ : Option pvV), (0 ≤ Int32.toInt i4z339_ ∧ Int32.toInt i4z339_ ≤ 7) → (zhide ((8 - Int32.toInt i4z339_).toNat < nz339_)) → PW 182 d (37, [some (pvR 0), some (pvI n1), some (pvI n2), some (pvR q15_), some (pvI i4z339_), v5z339_], [], M) (fun r X => (∃ x : Int32, r = some (pvI x) ∧ (-12) ≤ Int32.toInt x ∧ Int32.toInt x ≤ 106) ∧ X = M) := by
            intro nz339_
            induction nz339_ with
            | zero => intro i4z339_ v5z339_ h4z339_ hmz339_; exact absurd (zshow hmz339_) (Nat.not_lt_zero _)
            | succ nz339_ ihz339_ =>
              intro i4z339_ v5z339_ h4z339_ hmz339_
              have b340_ : 0 ≤ Int32.toInt (M.1 8 1) ∧ Int32.toInt (M.1 8 1) ≤ 7 := pvok_r hok 8 1 rfl
              refine pw_blk hT 4 (S' := (46, [some (pvR 0), some (pvI n1), some (pvI n2), some (pvR q15_), some (pvI i4z339_), v5z339_], [pvI (M.1 8 1), pvI i4z339_], M)) rfl ⟨trivial, trivial, rfl, rfl, trivial⟩ ?_
              refine pw_ic hT (c := (M.1 8 1) ≤ i4z339_) rfl rfl (fun c341_ => ?_) (fun c341_ => ?_)
              · have d342_ : Int32.toInt (M.1 8 1) ≤ Int32.toInt i4z339_ := (zi_le _ _).mp c341_
                refine pw_blk hT 1 (S' := (120, [some (pvR 0), some (pvI n1), some (pvI n2), some (pvR q15_), some (pvI i4z339_), v5z339_], [pvI (-5)], M)) rfl ⟨trivial, trivial⟩ ?_
                exact pw_ret hT rfl (r := some (pvI (-5))) (M' := M) ⟨rfl, rfl⟩ ⟨⟨_, rfl, (zr_wide (show (-5) ≤ Int32.toInt (-5) ∧ Int32.toInt (-5) ≤ (-5) from (by decide)) (by decide) (by decide))⟩, rfl⟩
              · have b343_ : 1 ≤ Int32.toInt (M.1 8 1) ∧ Int32.toInt (M.1 8 1) ≤ 7 := zr_nle_l 1 c341_ b340_ h4z339_ (by decide)
                have b344_ : 0 ≤ Int32.toInt i4z339_ ∧ Int32.toInt i4z339_ ≤ 6 := zr_nle_r 6 c341_ h4z339_ b343_ (by decide)
                have d345_ : Int32.toInt (M.1 8 1) > Int32.toInt i4z339_ := Int.not_le.mp ((not_congr (zi_le _ _)).mp c341_)
                refine pw_blk hT 1 (S' := (50, [some (pvR 0), some (pvI n1), some (pvI n2), some (pvR q15_), some (pvI i4z339_), v5z339_], [pvI n2], M)) rfl ⟨trivial, trivial⟩ ?_
                refine pw_if hT (c := n2 < 0) rfl rfl (fun c346_ => ?_) (fun c346_ => ?_)
                · have b347_ : (-2147483648) ≤ Int32.toInt n2 ∧ Int32.toInt n2 ≤ (-1) := zr_lt_l (-1) c346_ (zbnd n2) (show 0 ≤ Int32.toInt 0 ∧ Int32.toInt 0 ≤ 0 from (by decide)) (by decide)
                  obtain ⟨q349_, b348_⟩ : (Int32.toInt (100 + i4z339_) = 100 + Int32.toInt i4z339_) ∧ (100 ≤ Int32.toInt (100 + i4z339_) ∧ Int32.toInt (100 + i4z339_) ≤ 106) := zadd_q 100 i4z339_ 100 100 106 b344_ (by decide) (by decide) (by decide) (by decide) (by decide)
                  refine pw_blk hT 3 (S' := (69, [some (pvR 0), some (pvI n1), some (pvI n2), some (pvR q15_), some (pvI i4z339_), v5z339_], [pvI (100 + i4z339_)], M)) rfl ⟨trivial, trivial, trivial, trivial⟩ ?_
                  exact pw_ret hT rfl (r := some (pvI (100 + i4z339_))) (M' := M) ⟨rfl, rfl⟩ ⟨⟨_, rfl, (zr_wide b348_ (by decide) (by decide))⟩, rfl⟩
                · have b350_ : 0 ≤ Int32.toInt n2 ∧ Int32.toInt n2 ≤ 2147483647 := zr_nlt_l 0 c346_ (zbnd n2) (show 0 ≤ Int32.toInt 0 ∧ Int32.toInt 0 ≤ 0 from (by decide)) (by decide)
                  have b351_ : 0 ≤ Int32.toInt (M.1 q15_ 1) ∧ Int32.toInt (M.1 q15_ 1) ≤ 60 := pvok_r hok q15_ 1 ((pvrg_o 1 k16_ (by decide) (by decide)).trans rfl)
                  obtain ⟨q353_, b352_⟩ : (Int32.toInt ((M.1 q15_ 1) - i4z339_) = Int32.toInt (M.1 q15_ 1) - Int32.toInt i4z339_) ∧ ((-6) ≤ Int32.toInt ((M.1 q15_ 1) - i4z339_) ∧ Int32.toInt ((M.1 q15_ 1) - i4z339_) ≤ 60) := zsub_r (M.1 q15_ 1) i4z339_ (-6) 60 b351_ b344_ (by decide) (by decide) (by decide) (by decide)
                  refine pw_blk hT 5 (S' := (61, [some (pvR 0), some (pvI n1), some (pvI n2), some (pvR q15_), some (pvI i4z339_), v5z339_], [pvI ((M.1 q15_ 1) - i4z339_), pvI n2], M)) rfl ⟨trivial, trivial, k16_, trivial, trivial, trivial⟩ ?_
                  refine pw_ic hT (c := n2 < ((M.1 q15_ 1) - i4z339_)) rfl rfl (fun c354_ => ?_) (fun c354_ => ?_)
                  · have b355_ : 0 ≤ Int32.toInt n2 ∧ Int32.toInt n2 ≤ 59 := zr_lt_l 59 c354_ b350_ b352_ (by decide)
                    have b356_ : 1 ≤ Int32.toInt ((M.1 q15_ 1) - i4z339_) ∧ Int32.toInt ((M.1 q15_ 1) - i4z339_) ≤ 60 := zr_lt_r 1 c354_ b352_ b355_ (by decide)
                    have d357_ : Int32.toInt n2 < Int32.toInt ((M.1 q15_ 1) - i4z339_) := (zi_lt _ _).mp c354_
                    obtain ⟨q359_, b358_⟩ : (Int32.toInt (n2 + i4z339_) = Int32.toInt n2 + Int32.toInt i4z339_) ∧ (0 ≤ Int32.toInt (n2 + i4z339_) ∧ Int32.toInt (n2 + i4z339_) ≤ 65) := zadd_r n2 i4z339_ 0 65 b355_ b344_ (by decide) (by decide) (by decide) (by decide)
                    refine pw_blk hT 8 (S' := (81, [some (pvR 0), some (pvI n1), some (pvI n2), some (pvR q15_), some (pvI i4z339_), v5z339_], [pvI (lg_cmp (M.2 (q15_ + 6) (Int32.toNatClampNeg (n2 + i4z339_))) 0)], M)) rfl ⟨trivial, k16_, trivial, trivial, trivial, ⟨(pvow_7_6 k16_).1, (by rw [(pvow_7_6 k16_).2.1]; exact (vp_in_iff.mpr (show 0 ≤ Int32.toInt (n2 + i4z339_) ∧ Int32.toInt (n2 + i4z339_) < ((60 : Nat) : Int) from (by have u0 := b358_; omega))))⟩, trivial, trivial, trivial⟩ ?_
                    refine pw_if hT (c := (lg_cmp (M.2 (q15_ + 6) (Int32.toNatClampNeg (n2 + i4z339_))) 0) = 0) rfl rfl (fun c360_ => ?_) (fun c360_ => ?_)
                    · have b361_ : 0 ≤ Int32.toInt (lg_cmp (M.2 (q15_ + 6) (Int32.toNatClampNeg (n2 + i4z339_))) 0) ∧ Int32.toInt (lg_cmp (M.2 (q15_ + 6) (Int32.toNatClampNeg (n2 + i4z339_))) 0) ≤ 0 := (by have u0 := (zbnd (lg_cmp (M.2 (q15_ + 6) (Int32.toNatClampNeg (n2 + i4z339_))) 0)); have u1 := (zi_eq _ _).mp c360_; have u2 := (show 0 ≤ Int32.toInt 0 ∧ Int32.toInt 0 ≤ 0 from (by decide)); omega)
                      refine pw_blkr hT 8 (pc := 103) (lo := [some (pvR 0), some (pvI n1), some (pvI n2), some (pvR q15_), some (pvI i4z339_), some (pvI 0)]) (st := [pvI 0]) (M := M) (z := (pvbs 10 + Int32.toNatClampNeg i4z339_)) rfl ⟨trivial, trivial, trivial, trivial, rfl, rfl, trivial, ⟨rfl, (zr_in (n := 7) b344_ (by decide) (by decide))⟩, trivial⟩ (fun q362_ e364_ => ?_)
                      have k363_ : pvkl q362_ = 3 := pvel_10 (zr_in (n := 7) b344_ (by decide) (by decide)) e364_
                      have b365_ : 0 ≤ Int32.toInt (M.1 q362_ 5) ∧ Int32.toInt (M.1 q362_ 5) ≤ 1 := pvok_r hok q362_ 5 ((pvrg_o 5 k363_ (by decide) (by decide)).trans rfl)
                      refine pw_blk hT 1 (S' := (106, [some (pvR 0), some (pvI n1), some (pvI n2), some (pvR q15_), some (pvI i4z339_), some (pvI 0)], [pvI (M.1 q362_ 5), pvI 0], M)) rfl ⟨k363_, trivial⟩ ?_
                      refine pw_ic hT (c := 0 = (M.1 q362_ 5)) rfl rfl (fun c366_ => ?_) (fun c366_ => ?_)
                      · have b367_ : 0 ≤ Int32.toInt (M.1 q362_ 5) ∧ Int32.toInt (M.1 q362_ 5) ≤ 0 := (by have u0 := b365_; have u1 := (zi_eq _ _).mp c366_; have u2 := (show 0 ≤ Int32.toInt 0 ∧ Int32.toInt 0 ≤ 0 from (by decide)); omega)
                        obtain ⟨q369_, b368_⟩ : (Int32.toInt (i4z339_ + 1) = Int32.toInt i4z339_ + 1) ∧ (1 ≤ Int32.toInt (i4z339_ + 1) ∧ Int32.toInt (i4z339_ + 1) ≤ 7) := zadd_k i4z339_ 1 1 1 7 b344_ (by decide) (by decide) (by decide) (by decide) (by decide)
                        refine pw_blk hT 2 (S' := (37, [some (pvR 0), some (pvI n1), some (pvI n2), some (pvR q15_), some (pvI (i4z339_ + 1)), some (pvI 0)], [], M)) rfl ⟨trivial, trivial, trivial⟩ ?_
                        exact ihz339_ (i4z339_ + 1) (some (pvI 0)) (zr_wide b368_ (by decide) (by decide)) (zhid (pvms_up (zshow hmz339_) h4z339_ q369_ (by decide) (by decide)))
                      · have b370_ : 1 ≤ Int32.toInt (M.1 q362_ 5) ∧ Int32.toInt (M.1 q362_ 5) ≤ 1 := (by have u0 := b365_; have u1 := (not_congr (zi_eq _ _)).mp c366_; have u2 := (show 0 ≤ Int32.toInt 0 ∧ Int32.toInt 0 ≤ 0 from (by decide)); omega)
                        refine pw_blk hT 1 (S' := (111, [some (pvR 0), some (pvI n1), some (pvI n2), some (pvR q15_), some (pvI i4z339_), some (pvI 0)], [pvI i4z339_], M)) rfl ⟨trivial, trivial⟩ ?_
                        exact pw_ret hT rfl (r := some (pvI i4z339_)) (M' := M) ⟨rfl, rfl⟩ ⟨⟨_, rfl, (zr_wide b344_ (by decide) (by decide))⟩, rfl⟩
                    · refine pw_blkr hT 9 (pc := 103) (lo := [some (pvR 0), some (pvI n1), some (pvI n2), some (pvR q15_), some (pvI i4z339_), some (pvI 1)]) (st := [pvI 1]) (M := M) (z := (pvbs 10 + Int32.toNatClampNeg i4z339_)) rfl ⟨trivial, trivial, trivial, trivial, trivial, rfl, rfl, trivial, ⟨rfl, (zr_in (n := 7) b344_ (by decide) (by decide))⟩, trivial⟩ (fun q371_ e373_ => ?_)
                      have k372_ : pvkl q371_ = 3 := pvel_10 (zr_in (n := 7) b344_ (by decide) (by decide)) e373_
                      have b374_ : 0 ≤ Int32.toInt (M.1 q371_ 5) ∧ Int32.toInt (M.1 q371_ 5) ≤ 1 := pvok_r hok q371_ 5 ((pvrg_o 5 k372_ (by decide) (by decide)).trans rfl)
                      refine pw_blk hT 1 (S' := (106, [some (pvR 0), some (pvI n1), some (pvI n2), some (pvR q15_), some (pvI i4z339_), some (pvI 1)], [pvI (M.1 q371_ 5), pvI 1], M)) rfl ⟨k372_, trivial⟩ ?_
                      refine pw_ic hT (c := 1 = (M.1 q371_ 5)) rfl rfl (fun c375_ => ?_) (fun c375_ => ?_)
                      · have b376_ : 1 ≤ Int32.toInt (M.1 q371_ 5) ∧ Int32.toInt (M.1 q371_ 5) ≤ 1 := (by have u0 := b374_; have u1 := (zi_eq _ _).mp c375_; have u2 := (show 1 ≤ Int32.toInt 1 ∧ Int32.toInt 1 ≤ 1 from (by decide)); omega)
                        obtain ⟨q378_, b377_⟩ : (Int32.toInt (i4z339_ + 1) = Int32.toInt i4z339_ + 1) ∧ (1 ≤ Int32.toInt (i4z339_ + 1) ∧ Int32.toInt (i4z339_ + 1) ≤ 7) := zadd_k i4z339_ 1 1 1 7 b344_ (by decide) (by decide) (by decide) (by decide) (by decide)
                        refine pw_blk hT 2 (S' := (37, [some (pvR 0), some (pvI n1), some (pvI n2), some (pvR q15_), some (pvI (i4z339_ + 1)), some (pvI 1)], [], M)) rfl ⟨trivial, trivial, trivial⟩ ?_
                        exact ihz339_ (i4z339_ + 1) (some (pvI 1)) (zr_wide b377_ (by decide) (by decide)) (zhid (pvms_up (zshow hmz339_) h4z339_ q378_ (by decide) (by decide)))
                      · have b379_ : 0 ≤ Int32.toInt (M.1 q371_ 5) ∧ Int32.toInt (M.1 q371_ 5) ≤ 0 := (by have u0 := b374_; have u1 := (not_congr (zi_eq _ _)).mp c375_; have u2 := (show 1 ≤ Int32.toInt 1 ∧ Int32.toInt 1 ≤ 1 from (by decide)); omega)
                        refine pw_blk hT 1 (S' := (111, [some (pvR 0), some (pvI n1), some (pvI n2), some (pvR q15_), some (pvI i4z339_), some (pvI 1)], [pvI i4z339_], M)) rfl ⟨trivial, trivial⟩ ?_
                        exact pw_ret hT rfl (r := some (pvI i4z339_)) (M' := M) ⟨rfl, rfl⟩ ⟨⟨_, rfl, (zr_wide b344_ (by decide) (by decide))⟩, rfl⟩
                  · have d380_ : Int32.toInt n2 ≥ Int32.toInt ((M.1 q15_ 1) - i4z339_) := Int.not_lt.mp ((not_congr (zi_lt _ _)).mp c354_)
                    obtain ⟨q382_, b381_⟩ : (Int32.toInt (100 + i4z339_) = 100 + Int32.toInt i4z339_) ∧ (100 ≤ Int32.toInt (100 + i4z339_) ∧ Int32.toInt (100 + i4z339_) ≤ 106) := zadd_q 100 i4z339_ 100 100 106 b344_ (by decide) (by decide) (by decide) (by decide) (by decide)
                    refine pw_blk hT 3 (S' := (69, [some (pvR 0), some (pvI n1), some (pvI n2), some (pvR q15_), some (pvI i4z339_), v5z339_], [pvI (100 + i4z339_)], M)) rfl ⟨trivial, trivial, trivial, trivial⟩ ?_
                    exact pw_ret hT rfl (r := some (pvI (100 + i4z339_))) (M' := M) ⟨rfl, rfl⟩ ⟨⟨_, rfl, (zr_wide b381_ (by decide) (by decide))⟩, rfl⟩
          exact hlz339_ _ 0 none (zr_wide (show 0 ≤ Int32.toInt 0 ∧ Int32.toInt 0 ≤ 0 from (by decide)) (by decide) (by decide)) (zhid (Nat.lt_succ_self _))
        · have b383_ : 0 ≤ Int32.toInt (M.1 q15_ 0) ∧ Int32.toInt (M.1 q15_ 0) ≤ 3 := (by have u0 := b203_; have u1 := (not_congr (zi_eq _ _)).mp c205_; have u2 := (show 4 ≤ Int32.toInt 4 ∧ Int32.toInt 4 ≤ 4 from (by decide)); omega)
          refine pw_blk hT 1 (S' := (33, [some (pvR 0), some (pvI n1), some (pvI n2), some (pvR q15_), none, none], [pvI (-12)], M)) rfl ⟨trivial, trivial⟩ ?_
          exact pw_ret hT rfl (r := some (pvI (-12))) (M' := M) ⟨rfl, rfl⟩ ⟨⟨_, rfl, (zr_wide (show (-12) ≤ Int32.toInt (-12) ∧ Int32.toInt (-12) ≤ (-12) from (by decide)) (by decide) (by decide))⟩, rfl⟩
set_option maxHeartbeats 4000000 in
set_option maxRecDepth 10000 in
theorem sf_X9_wetMore_0_x (M : pvM) (hok : pvOk M) (n1 : Int32) (hn1 : 0 ≤ Int32.toInt n1 ∧ Int32.toInt n1 ≤ 9999) (d : Nat) : PW 209 d (0, [some (pvR 0), some (pvI n1), none], [], M) (fun r X => (∃ x : Int32, r = some (pvI x) ∧ True) ∧ X = M) := by
  have hT : pvdom 209 = pvD_209 := rfl
  have b1_ : 0 ≤ Int32.toInt (M.1 8 4) ∧ Int32.toInt (M.1 8 4) ≤ 9999 := pvok_r hok 8 4 rfl
  obtain ⟨q3_, b2_⟩ : (Int32.toInt ((M.1 8 4) + n1) = Int32.toInt (M.1 8 4) + Int32.toInt n1) ∧ (0 ≤ Int32.toInt ((M.1 8 4) + n1) ∧ Int32.toInt ((M.1 8 4) + n1) ≤ 19998) := zadd_r (M.1 8 4) n1 0 19998 b1_ hn1 (by decide) (by decide) (by decide) (by decide)
  refine pw_blk hT 10 (S' := (20, [some (pvR 0), some (pvI n1), none], [pvI ((M.1 8 4) + n1), pvI (M.1 8 4), pvR 5], M)) rfl ⟨trivial, rfl, trivial, rfl, rfl, trivial, rfl, rfl, trivial, trivial, trivial⟩ ?_
  refine pw_callGp hT (as := [pvR 5, pvI (M.1 8 4), pvI ((M.1 8 4) + n1)]) (lo1 := [some (pvR 5), some (pvI (M.1 8 4)), some (pvI ((M.1 8 4) + n1)), none, none]) (d1 := d) (rest := []) rfl rfl rfl rfl rfl (fun _ => rfl) (Nat.zero_le _) rfl rfl rfl (sf_X1_harmOfAll_5_x_x M hok (M.1 8 4) ((M.1 8 4) + n1) (zr_wide b1_ (by decide) (by decide)) (zr_wide b2_ (by decide) (by decide)) d) (fun x4_ b6_ => ?_)
  have q9_ : Int32.toInt (if (999999 - (M.1 8 5)) < x4_ then (999999 - (M.1 8 5)) else x4_) = min (Int32.toInt x4_) (Int32.toInt (999999 - (M.1 8 5))) := pvmin x4_ (999999 - (M.1 8 5))
  have b10_ : (-2147483648) ≤ Int32.toInt (if (999999 - (M.1 8 5)) < x4_ then (999999 - (M.1 8 5)) else x4_) ∧ Int32.toInt (if (999999 - (M.1 8 5)) < x4_ then (999999 - (M.1 8 5)) else x4_) ≤ 2147483647 := (by have u0 := (zbnd x4_); have u1 := (zbnd (999999 - (M.1 8 5))); omega)
  refine pw_blk hT 8 (S' := (39, [some (pvR 0), some (pvI n1), some (pvI x4_)], [pvI (if (999999 - (M.1 8 5)) < x4_ then (999999 - (M.1 8 5)) else x4_)], M)) rfl ⟨trivial, trivial, trivial, trivial, rfl, rfl, trivial, (Nat.le_of_ble_eq_true rfl), trivial⟩ ?_
  exact pw_ret hT rfl (r := some (pvI (if (999999 - (M.1 8 5)) < x4_ then (999999 - (M.1 8 5)) else x4_))) (M' := M) ⟨rfl, rfl⟩ ⟨⟨_, rfl, trivial⟩, rfl⟩
set_option maxHeartbeats 4000000 in
set_option maxRecDepth 10000 in
theorem sf_X9_read_0_x_x (M : pvM) (hok : pvOk M) (n1 : Int32) (n2 : Int32) (d : Nat) : PW 194 d (0, [some (pvR 0), some (pvI n1), some (pvI n2)], [], M) (fun r X => (∃ x : Int64, r = some (pvJ x)) ∧ X = M) := by
  have hT : pvdom 194 = pvD_194 := rfl
  refine pw_blk hT 1 (S' := (1, [some (pvR 0), some (pvI n1), some (pvI n2)], [pvI n1], M)) rfl ⟨trivial, trivial⟩ ?_
  refine pw_callT hT (as := [pvI n1]) (lo1 := [some (pvI n1)]) (d1 := d) (rest := []) rfl rfl rfl rfl rfl (fun h => absurd h (by decide)) (Nat.zero_le _) rfl rfl rfl (sf_X9_isTape_x M hok n1 d) ?_
  by_cases c6_ : n1 < 0
  · refine pw_eqI (if_pos c6_) ?_
    have b7_ : (-2147483648) ≤ Int32.toInt n1 ∧ Int32.toInt n1 ≤ (-1) := zr_lt_l (-1) c6_ (zbnd n1) (show 0 ≤ Int32.toInt 0 ∧ Int32.toInt 0 ≤ 0 from (by decide)) (by decide)
    show PW 194 d (4, [some (pvR 0), some (pvI n1), some (pvI n2)], [pvI 0], M) _
    refine pw_if hT (c := 0 = 0) rfl rfl (fun c8_ => ?_) (fun c8_ => absurd (by decide) c8_)
    refine pw_blk hT 1 (S' := (23, [some (pvR 0), some (pvI n1), some (pvI n2)], [pvJ (-9223372036854775808)], M)) rfl ⟨trivial, trivial⟩ ?_
    exact pw_ret hT rfl (r := some (pvJ (-9223372036854775808))) (M' := M) ⟨rfl, rfl⟩ ⟨⟨_, rfl⟩, rfl⟩
  · refine pw_eqI (if_neg c6_) ?_
    have b9_ : 0 ≤ Int32.toInt n1 ∧ Int32.toInt n1 ≤ 2147483647 := zr_nlt_l 0 c6_ (zbnd n1) (show 0 ≤ Int32.toInt 0 ∧ Int32.toInt 0 ≤ 0 from (by decide)) (by decide)
    by_cases c10_ : 5 < n1
    · refine pw_eqI (if_pos c10_) ?_
      have b11_ : 6 ≤ Int32.toInt n1 ∧ Int32.toInt n1 ≤ 2147483647 := zr_lt_r 6 c10_ b9_ (show 5 ≤ Int32.toInt 5 ∧ Int32.toInt 5 ≤ 5 from (by decide)) (by decide)
      show PW 194 d (4, [some (pvR 0), some (pvI n1), some (pvI n2)], [pvI 0], M) _
      refine pw_if hT (c := 0 = 0) rfl rfl (fun c12_ => ?_) (fun c12_ => absurd (by decide) c12_)
      refine pw_blk hT 1 (S' := (23, [some (pvR 0), some (pvI n1), some (pvI n2)], [pvJ (-9223372036854775808)], M)) rfl ⟨trivial, trivial⟩ ?_
      exact pw_ret hT rfl (r := some (pvJ (-9223372036854775808))) (M' := M) ⟨rfl, rfl⟩ ⟨⟨_, rfl⟩, rfl⟩
    · refine pw_eqI (if_neg c10_) ?_
      have b13_ : 0 ≤ Int32.toInt n1 ∧ Int32.toInt n1 ≤ 5 := zr_nlt_r 5 c10_ b9_ (show 5 ≤ Int32.toInt 5 ∧ Int32.toInt 5 ≤ 5 from (by decide)) (by decide)
      show PW 194 d (4, [some (pvR 0), some (pvI n1), some (pvI n2)], [pvI 1], M) _
      refine pw_if hT (c := 1 = 0) rfl rfl (fun c14_ => absurd c14_ (by decide)) (fun c14_ => ?_)
      refine pw_blkr hT 4 (pc := 13) (lo := [some (pvR 0), some (pvI n1), some (pvI n2)]) (st := []) (M := M) (z := (pvbs 2 + Int32.toNatClampNeg n1)) rfl ⟨trivial, rfl, trivial, ⟨rfl, (zr_in (n := 6) b13_ (by decide) (by decide))⟩, trivial⟩ (fun q15_ e17_ => ?_)
      have k16_ : pvkl q15_ = 7 := pvel_2 (zr_in (n := 6) b13_ (by decide) (by decide)) e17_
      refine pw_blk hT 1 (S' := (14, [some (pvR 0), some (pvI n1), some (pvI n2)], [pvI n2, pvR q15_], M)) rfl ⟨trivial, trivial⟩ ?_
      refine pw_callT hT (as := [pvR q15_, pvI n2]) (lo1 := [some (pvR q15_), some (pvI n2)]) (d1 := d) (rest := []) rfl rfl rfl rfl rfl (fun _ => k16_) (Nat.zero_le _) rfl rfl rfl (sf_X8_hasPlace_x_x M hok q15_ n2 k16_ d) ?_
      by_cases c23_ : n2 < 0
      · refine pw_eqI (if_pos c23_) ?_
        have b24_ : (-2147483648) ≤ Int32.toInt n2 ∧ Int32.toInt n2 ≤ (-1) := zr_lt_l (-1) c23_ (zbnd n2) (show 0 ≤ Int32.toInt 0 ∧ Int32.toInt 0 ≤ 0 from (by decide)) (by decide)
        show PW 194 d (17, [some (pvR 0), some (pvI n1), some (pvI n2)], [pvI 0], M) _
        refine pw_ifn hT (c := 0 = 0) rfl rfl (fun c25_ => absurd (by decide) c25_) (fun c25_ => ?_)
        refine pw_blk hT 1 (S' := (23, [some (pvR 0), some (pvI n1), some (pvI n2)], [pvJ (-9223372036854775808)], M)) rfl ⟨trivial, trivial⟩ ?_
        exact pw_ret hT rfl (r := some (pvJ (-9223372036854775808))) (M' := M) ⟨rfl, rfl⟩ ⟨⟨_, rfl⟩, rfl⟩
      · refine pw_eqI (if_neg c23_) ?_
        have b26_ : 0 ≤ Int32.toInt n2 ∧ Int32.toInt n2 ≤ 2147483647 := zr_nlt_l 0 c23_ (zbnd n2) (show 0 ≤ Int32.toInt 0 ∧ Int32.toInt 0 ≤ 0 from (by decide)) (by decide)
        have b27_ : 0 ≤ Int32.toInt (M.1 q15_ 1) ∧ Int32.toInt (M.1 q15_ 1) ≤ 60 := pvok_r hok q15_ 1 ((pvrg_o 1 k16_ (by decide) (by decide)).trans rfl)
        by_cases c28_ : (M.1 q15_ 1) ≤ n2
        · refine pw_eqI (if_pos c28_) ?_
          have d29_ : Int32.toInt (M.1 q15_ 1) ≤ Int32.toInt n2 := (zi_le _ _).mp c28_
          show PW 194 d (17, [some (pvR 0), some (pvI n1), some (pvI n2)], [pvI 0], M) _
          refine pw_ifn hT (c := 0 = 0) rfl rfl (fun c30_ => absurd (by decide) c30_) (fun c30_ => ?_)
          refine pw_blk hT 1 (S' := (23, [some (pvR 0), some (pvI n1), some (pvI n2)], [pvJ (-9223372036854775808)], M)) rfl ⟨trivial, trivial⟩ ?_
          exact pw_ret hT rfl (r := some (pvJ (-9223372036854775808))) (M' := M) ⟨rfl, rfl⟩ ⟨⟨_, rfl⟩, rfl⟩
        · refine pw_eqI (if_neg c28_) ?_
          have b31_ : 1 ≤ Int32.toInt (M.1 q15_ 1) ∧ Int32.toInt (M.1 q15_ 1) ≤ 60 := zr_nle_l 1 c28_ b27_ b26_ (by decide)
          have b32_ : 0 ≤ Int32.toInt n2 ∧ Int32.toInt n2 ≤ 59 := zr_nle_r 59 c28_ b26_ b31_ (by decide)
          have d33_ : Int32.toInt (M.1 q15_ 1) > Int32.toInt n2 := Int.not_le.mp ((not_congr (zi_le _ _)).mp c28_)
          show PW 194 d (17, [some (pvR 0), some (pvI n1), some (pvI n2)], [pvI 1], M) _
          refine pw_ifn hT (c := 1 = 0) rfl rfl (fun c34_ => ?_) (fun c34_ => absurd c34_ (by decide))
          refine pw_blkr hT 4 (pc := 30) (lo := [some (pvR 0), some (pvI n1), some (pvI n2)]) (st := []) (M := M) (z := (pvbs 2 + Int32.toNatClampNeg n1)) rfl ⟨trivial, rfl, trivial, ⟨rfl, (zr_in (n := 6) b13_ (by decide) (by decide))⟩, trivial⟩ (fun q35_ e37_ => ?_)
          have k36_ : pvkl q35_ = 7 := pvel_2 (zr_in (n := 6) b13_ (by decide) (by decide)) e37_
          refine pw_blk hT 3 (S' := (35, [some (pvR 0), some (pvI n1), some (pvI n2)], [pvJ (M.2 (q35_ + 6) (Int32.toNatClampNeg n2))], M)) rfl ⟨k36_, trivial, ⟨(pvow_7_6 k36_).1, (by rw [(pvow_7_6 k36_).2.1]; exact (zr_in (n := 60) b32_ (by decide) (by decide)))⟩, trivial⟩ ?_
          exact pw_ret hT rfl (r := some (pvJ (M.2 (q35_ + 6) (Int32.toNatClampNeg n2)))) (M' := M) ⟨rfl, rfl⟩ ⟨⟨_, rfl⟩, rfl⟩
set_option maxHeartbeats 4000000 in
set_option maxRecDepth 10000 in
theorem sf_X6_isFull_102 (M : pvM) (hok : pvOk M) (d : Nat) : PW 154 d (0, [some (pvR 102)], [], M) (fun r X => r = some (pvI ((if (M.1 102 0) < (Int32.ofNat 6) then 0 else 1))) ∧ X = M) := by
  have hT : pvdom 154 = pvD_154 := rfl
  have b1_ : 0 ≤ Int32.toInt (M.1 102 0) ∧ Int32.toInt (M.1 102 0) ≤ 6 := pvok_r hok 102 0 rfl
  refine pw_blk hT 5 (S' := (9, [some (pvR 102)], [pvI (Int32.ofNat 6), pvI (M.1 102 0)], M)) rfl ⟨trivial, rfl, trivial, rfl, rfl, trivial⟩ ?_
  refine pw_ic hT (c := (M.1 102 0) < (Int32.ofNat 6)) rfl rfl (fun c2_ => ?_) (fun c2_ => ?_)
  · have b3_ : 0 ≤ Int32.toInt (M.1 102 0) ∧ Int32.toInt (M.1 102 0) ≤ 5 := zr_lt_l 5 c2_ b1_ (show 6 ≤ Int32.toInt (Int32.ofNat 6) ∧ Int32.toInt (Int32.ofNat 6) ≤ 6 from (by decide)) (by decide)
    refine pw_blk hT 1 (S' := (17, [some (pvR 102)], [pvI 0], M)) rfl ⟨trivial, trivial⟩ ?_
    exact pw_ret hT rfl (r := some (pvI 0)) (M' := M) ⟨Or.inl rfl, rfl, rfl⟩ ⟨(by rw [if_pos c2_]), rfl⟩
  · have b4_ : 6 ≤ Int32.toInt (M.1 102 0) ∧ Int32.toInt (M.1 102 0) ≤ 6 := zr_nlt_l 6 c2_ b1_ (show 6 ≤ Int32.toInt (Int32.ofNat 6) ∧ Int32.toInt (Int32.ofNat 6) ≤ 6 from (by decide)) (by decide)
    refine pw_blk hT 2 (S' := (17, [some (pvR 102)], [pvI 1], M)) rfl ⟨trivial, trivial, trivial⟩ ?_
    exact pw_ret hT rfl (r := some (pvI 1)) (M' := M) ⟨Or.inr rfl, rfl, rfl⟩ ⟨(by rw [if_neg c2_]), rfl⟩
set_option maxHeartbeats 4000000 in
set_option maxRecDepth 10000 in
theorem sf_X8_hasSpan_x_x_x (M : pvM) (hok : pvOk M) (q0 : Nat) (n1 : Int32) (n2 : Int32) (hq0 : pvkl q0 = 7) (d : Nat) : PW 164 d (0, [some (pvR q0), some (pvI n1), some (pvI n2)], [], M) (fun r X => r = some (pvI ((if n2 < 0 then 0 else (if n1 < 0 then 0 else (if ((M.1 q0 1) - n2) < n1 then 0 else 1))))) ∧ X = M) := by
  have hT : pvdom 164 = pvD_164 := rfl
  refine pw_blk hT 1 (S' := (1, [some (pvR q0), some (pvI n1), some (pvI n2)], [pvI n2], M)) rfl ⟨trivial, trivial⟩ ?_
  refine pw_if hT (c := n2 < 0) rfl rfl (fun c1_ => ?_) (fun c1_ => ?_)
  · have b2_ : (-2147483648) ≤ Int32.toInt n2 ∧ Int32.toInt n2 ≤ (-1) := zr_lt_l (-1) c1_ (zbnd n2) (show 0 ≤ Int32.toInt 0 ∧ Int32.toInt 0 ≤ 0 from (by decide)) (by decide)
    refine pw_blk hT 1 (S' := (23, [some (pvR q0), some (pvI n1), some (pvI n2)], [pvI 0], M)) rfl ⟨trivial, trivial⟩ ?_
    exact pw_ret hT rfl (r := some (pvI 0)) (M' := M) ⟨Or.inl rfl, rfl, rfl⟩ ⟨(by rw [if_pos c1_]), rfl⟩
  · have b3_ : 0 ≤ Int32.toInt n2 ∧ Int32.toInt n2 ≤ 2147483647 := zr_nlt_l 0 c1_ (zbnd n2) (show 0 ≤ Int32.toInt 0 ∧ Int32.toInt 0 ≤ 0 from (by decide)) (by decide)
    refine pw_blk hT 1 (S' := (5, [some (pvR q0), some (pvI n1), some (pvI n2)], [pvI n1], M)) rfl ⟨trivial, trivial⟩ ?_
    refine pw_if hT (c := n1 < 0) rfl rfl (fun c4_ => ?_) (fun c4_ => ?_)
    · have b5_ : (-2147483648) ≤ Int32.toInt n1 ∧ Int32.toInt n1 ≤ (-1) := zr_lt_l (-1) c4_ (zbnd n1) (show 0 ≤ Int32.toInt 0 ∧ Int32.toInt 0 ≤ 0 from (by decide)) (by decide)
      refine pw_blk hT 1 (S' := (23, [some (pvR q0), some (pvI n1), some (pvI n2)], [pvI 0], M)) rfl ⟨trivial, trivial⟩ ?_
      exact pw_ret hT rfl (r := some (pvI 0)) (M' := M) ⟨Or.inl rfl, rfl, rfl⟩ ⟨(by rw [if_neg c1_, if_pos c4_]), rfl⟩
    · have b6_ : 0 ≤ Int32.toInt n1 ∧ Int32.toInt n1 ≤ 2147483647 := zr_nlt_l 0 c4_ (zbnd n1) (show 0 ≤ Int32.toInt 0 ∧ Int32.toInt 0 ≤ 0 from (by decide)) (by decide)
      have b7_ : 0 ≤ Int32.toInt (M.1 q0 1) ∧ Int32.toInt (M.1 q0 1) ≤ 60 := pvok_r hok q0 1 ((pvrg_o 1 hq0 (by decide) (by decide)).trans rfl)
      obtain ⟨q9_, b8_⟩ : (Int32.toInt ((M.1 q0 1) - n2) = Int32.toInt (M.1 q0 1) - Int32.toInt n2) ∧ ((-2147483647) ≤ Int32.toInt ((M.1 q0 1) - n2) ∧ Int32.toInt ((M.1 q0 1) - n2) ≤ 60) := zsub_r (M.1 q0 1) n2 (-2147483647) 60 b7_ b3_ (by decide) (by decide) (by decide) (by decide)
      refine pw_blk hT 5 (S' := (15, [some (pvR q0), some (pvI n1), some (pvI n2)], [pvI ((M.1 q0 1) - n2), pvI n1], M)) rfl ⟨trivial, trivial, hq0, trivial, trivial, trivial⟩ ?_
      refine pw_ic hT (c := ((M.1 q0 1) - n2) < n1) rfl rfl (fun c10_ => ?_) (fun c10_ => ?_)
      · have d11_ : Int32.toInt ((M.1 q0 1) - n2) < Int32.toInt n1 := (zi_lt _ _).mp c10_
        refine pw_blk hT 1 (S' := (23, [some (pvR q0), some (pvI n1), some (pvI n2)], [pvI 0], M)) rfl ⟨trivial, trivial⟩ ?_
        exact pw_ret hT rfl (r := some (pvI 0)) (M' := M) ⟨Or.inl rfl, rfl, rfl⟩ ⟨(by rw [if_neg c1_, if_neg c4_, if_pos c10_]), rfl⟩
      · have b12_ : 0 ≤ Int32.toInt ((M.1 q0 1) - n2) ∧ Int32.toInt ((M.1 q0 1) - n2) ≤ 60 := zr_nlt_l 0 c10_ b8_ b6_ (by decide)
        have b13_ : 0 ≤ Int32.toInt n1 ∧ Int32.toInt n1 ≤ 60 := zr_nlt_r 60 c10_ b6_ b12_ (by decide)
        have d14_ : Int32.toInt ((M.1 q0 1) - n2) ≥ Int32.toInt n1 := Int.not_lt.mp ((not_congr (zi_lt _ _)).mp c10_)
        refine pw_blk hT 2 (S' := (23, [some (pvR q0), some (pvI n1), some (pvI n2)], [pvI 1], M)) rfl ⟨trivial, trivial, trivial⟩ ?_
        exact pw_ret hT rfl (r := some (pvI 1)) (M' := M) ⟨Or.inr rfl, rfl, rfl⟩ ⟨(by rw [if_neg c1_, if_neg c4_, if_neg c10_]), rfl⟩
def fpL_X9_shift_0_x_x_x_x_x : List (Nat × Nat × Nat) := []
def fp_X9_shift_0_x_x_x_x_x (q k : Nat) : Bool := pvfp fpL_X9_shift_0_x_x_x_x_x q k
set_option maxHeartbeats 4000000 in
set_option maxRecDepth 10000 in
theorem sf_X9_shift_0_x_x_x_x_x (M : pvM) (hok : pvOk M) (n1 : Int32) (n2 : Int32) (n3 : Int32) (n4 : Int32) (n5 : Int32) (d : Nat) : PW 198 d (0, [some (pvR 0), some (pvI n1), some (pvI n2), some (pvI n3), some (pvI n4), some (pvI n5), none, none], [], M) (fun r X => (∃ x : Int32, r = some (pvI x) ∧ (-13) ≤ Int32.toInt x ∧ Int32.toInt x ≤ 2147483647) ∧ pvOk X ∧ pvFr fp_X9_shift_0_x_x_x_x_x M X) := by
  have hT : pvdom 198 = pvD_198 := rfl
  refine pw_blk hT 1 (S' := (1, [some (pvR 0), some (pvI n1), some (pvI n2), some (pvI n3), some (pvI n4), some (pvI n5), none, none], [pvI n1], M)) rfl ⟨trivial, trivial⟩ ?_
  refine pw_callT hT (as := [pvI n1]) (lo1 := [some (pvI n1)]) (d1 := d) (rest := []) rfl rfl rfl rfl rfl (fun h => absurd h (by decide)) (Nat.zero_le _) rfl rfl rfl (sf_X9_isTape_x M hok n1 d) ?_
  by_cases c6_ : n1 < 0
  · refine pw_eqI (if_pos c6_) ?_
    have b7_ : (-2147483648) ≤ Int32.toInt n1 ∧ Int32.toInt n1 ≤ (-1) := zr_lt_l (-1) c6_ (zbnd n1) (show 0 ≤ Int32.toInt 0 ∧ Int32.toInt 0 ≤ 0 from (by decide)) (by decide)
    show PW 198 d (4, [some (pvR 0), some (pvI n1), some (pvI n2), some (pvI n3), some (pvI n4), some (pvI n5), none, none], [pvI 0], M) _
    refine pw_if hT (c := 0 = 0) rfl rfl (fun c8_ => ?_) (fun c8_ => absurd (by decide) c8_)
    refine pw_blk hT 1 (S' := (15, [some (pvR 0), some (pvI n1), some (pvI n2), some (pvI n3), some (pvI n4), some (pvI n5), none, none], [pvI (-1)], M)) rfl ⟨trivial, trivial⟩ ?_
    exact pw_ret hT rfl (r := some (pvI (-1))) (M' := M) ⟨rfl, rfl⟩ ⟨⟨_, rfl, (zr_wide (show (-1) ≤ Int32.toInt (-1) ∧ Int32.toInt (-1) ≤ (-1) from (by decide)) (by decide) (by decide))⟩, hok, pvfr_0⟩
  · refine pw_eqI (if_neg c6_) ?_
    have b9_ : 0 ≤ Int32.toInt n1 ∧ Int32.toInt n1 ≤ 2147483647 := zr_nlt_l 0 c6_ (zbnd n1) (show 0 ≤ Int32.toInt 0 ∧ Int32.toInt 0 ≤ 0 from (by decide)) (by decide)
    by_cases c10_ : 5 < n1
    · refine pw_eqI (if_pos c10_) ?_
      have b11_ : 6 ≤ Int32.toInt n1 ∧ Int32.toInt n1 ≤ 2147483647 := zr_lt_r 6 c10_ b9_ (show 5 ≤ Int32.toInt 5 ∧ Int32.toInt 5 ≤ 5 from (by decide)) (by decide)
      show PW 198 d (4, [some (pvR 0), some (pvI n1), some (pvI n2), some (pvI n3), some (pvI n4), some (pvI n5), none, none], [pvI 0], M) _
      refine pw_if hT (c := 0 = 0) rfl rfl (fun c12_ => ?_) (fun c12_ => absurd (by decide) c12_)
      refine pw_blk hT 1 (S' := (15, [some (pvR 0), some (pvI n1), some (pvI n2), some (pvI n3), some (pvI n4), some (pvI n5), none, none], [pvI (-1)], M)) rfl ⟨trivial, trivial⟩ ?_
      exact pw_ret hT rfl (r := some (pvI (-1))) (M' := M) ⟨rfl, rfl⟩ ⟨⟨_, rfl, (zr_wide (show (-1) ≤ Int32.toInt (-1) ∧ Int32.toInt (-1) ≤ (-1) from (by decide)) (by decide) (by decide))⟩, hok, pvfr_0⟩
    · refine pw_eqI (if_neg c10_) ?_
      have b13_ : 0 ≤ Int32.toInt n1 ∧ Int32.toInt n1 ≤ 5 := zr_nlt_r 5 c10_ b9_ (show 5 ≤ Int32.toInt 5 ∧ Int32.toInt 5 ≤ 5 from (by decide)) (by decide)
      show PW 198 d (4, [some (pvR 0), some (pvI n1), some (pvI n2), some (pvI n3), some (pvI n4), some (pvI n5), none, none], [pvI 1], M) _
      refine pw_if hT (c := 1 = 0) rfl rfl (fun c14_ => absurd c14_ (by decide)) (fun c14_ => ?_)
      refine pw_blk hT 1 (S' := (8, [some (pvR 0), some (pvI n1), some (pvI n2), some (pvI n3), some (pvI n4), some (pvI n5), none, none], [pvI n3], M)) rfl ⟨trivial, trivial⟩ ?_
      refine pw_callT hT (as := [pvI n3]) (lo1 := [some (pvI n3)]) (d1 := d) (rest := []) rfl rfl rfl rfl rfl (fun h => absurd h (by decide)) (Nat.zero_le _) rfl rfl rfl (sf_X9_isTape_x M hok n3 d) ?_
      by_cases c20_ : n3 < 0
      · refine pw_eqI (if_pos c20_) ?_
        have b21_ : (-2147483648) ≤ Int32.toInt n3 ∧ Int32.toInt n3 ≤ (-1) := zr_lt_l (-1) c20_ (zbnd n3) (show 0 ≤ Int32.toInt 0 ∧ Int32.toInt 0 ≤ 0 from (by decide)) (by decide)
        show PW 198 d (11, [some (pvR 0), some (pvI n1), some (pvI n2), some (pvI n3), some (pvI n4), some (pvI n5), none, none], [pvI 0], M) _
        refine pw_ifn hT (c := 0 = 0) rfl rfl (fun c22_ => absurd (by decide) c22_) (fun c22_ => ?_)
        refine pw_blk hT 1 (S' := (15, [some (pvR 0), some (pvI n1), some (pvI n2), some (pvI n3), some (pvI n4), some (pvI n5), none, none], [pvI (-1)], M)) rfl ⟨trivial, trivial⟩ ?_
        exact pw_ret hT rfl (r := some (pvI (-1))) (M' := M) ⟨rfl, rfl⟩ ⟨⟨_, rfl, (zr_wide (show (-1) ≤ Int32.toInt (-1) ∧ Int32.toInt (-1) ≤ (-1) from (by decide)) (by decide) (by decide))⟩, hok, pvfr_0⟩
      · refine pw_eqI (if_neg c20_) ?_
        have b23_ : 0 ≤ Int32.toInt n3 ∧ Int32.toInt n3 ≤ 2147483647 := zr_nlt_l 0 c20_ (zbnd n3) (show 0 ≤ Int32.toInt 0 ∧ Int32.toInt 0 ≤ 0 from (by decide)) (by decide)
        by_cases c24_ : 5 < n3
        · refine pw_eqI (if_pos c24_) ?_
          have b25_ : 6 ≤ Int32.toInt n3 ∧ Int32.toInt n3 ≤ 2147483647 := zr_lt_r 6 c24_ b23_ (show 5 ≤ Int32.toInt 5 ∧ Int32.toInt 5 ≤ 5 from (by decide)) (by decide)
          show PW 198 d (11, [some (pvR 0), some (pvI n1), some (pvI n2), some (pvI n3), some (pvI n4), some (pvI n5), none, none], [pvI 0], M) _
          refine pw_ifn hT (c := 0 = 0) rfl rfl (fun c26_ => absurd (by decide) c26_) (fun c26_ => ?_)
          refine pw_blk hT 1 (S' := (15, [some (pvR 0), some (pvI n1), some (pvI n2), some (pvI n3), some (pvI n4), some (pvI n5), none, none], [pvI (-1)], M)) rfl ⟨trivial, trivial⟩ ?_
          exact pw_ret hT rfl (r := some (pvI (-1))) (M' := M) ⟨rfl, rfl⟩ ⟨⟨_, rfl, (zr_wide (show (-1) ≤ Int32.toInt (-1) ∧ Int32.toInt (-1) ≤ (-1) from (by decide)) (by decide) (by decide))⟩, hok, pvfr_0⟩
        · refine pw_eqI (if_neg c24_) ?_
          have b27_ : 0 ≤ Int32.toInt n3 ∧ Int32.toInt n3 ≤ 5 := zr_nlt_r 5 c24_ b23_ (show 5 ≤ Int32.toInt 5 ∧ Int32.toInt 5 ≤ 5 from (by decide)) (by decide)
          show PW 198 d (11, [some (pvR 0), some (pvI n1), some (pvI n2), some (pvI n3), some (pvI n4), some (pvI n5), none, none], [pvI 1], M) _
          refine pw_ifn hT (c := 1 = 0) rfl rfl (fun c28_ => ?_) (fun c28_ => absurd c28_ (by decide))
          refine pw_blkr hT 4 (pc := 22) (lo := [some (pvR 0), some (pvI n1), some (pvI n2), some (pvI n3), some (pvI n4), some (pvI n5), none, none]) (st := []) (M := M) (z := (pvbs 2 + Int32.toNatClampNeg n1)) rfl ⟨trivial, rfl, trivial, ⟨rfl, (zr_in (n := 6) b13_ (by decide) (by decide))⟩, trivial⟩ (fun q29_ e31_ => ?_)
          have k30_ : pvkl q29_ = 7 := pvel_2 (zr_in (n := 6) b13_ (by decide) (by decide)) e31_
          refine pw_blkr hT 5 (pc := 30) (lo := [some (pvR 0), some (pvI n1), some (pvI n2), some (pvI n3), some (pvI n4), some (pvI n5), some (pvR q29_), none]) (st := []) (M := M) (z := (pvbs 2 + Int32.toNatClampNeg n3)) rfl ⟨trivial, trivial, rfl, trivial, ⟨rfl, (zr_in (n := 6) b27_ (by decide) (by decide))⟩, trivial⟩ (fun q32_ e34_ => ?_)
          have k33_ : pvkl q32_ = 7 := pvel_2 (zr_in (n := 6) b27_ (by decide) (by decide)) e34_
          refine pw_blk hT 2 (S' := (34, [some (pvR 0), some (pvI n1), some (pvI n2), some (pvI n3), some (pvI n4), some (pvI n5), some (pvR q29_), some (pvR q32_)], [pvR q29_], M)) rfl ⟨trivial, trivial, trivial⟩ ?_
          refine pw_callT hT (as := [pvR q29_]) (lo1 := [some (pvR q29_)]) (d1 := d) (rest := []) rfl rfl rfl rfl rfl (fun _ => k30_) (Nat.zero_le _) rfl rfl rfl (sf_X8_isNothing_x M hok q29_ k30_ d) ?_
          have b40_ : (-1) ≤ Int32.toInt (M.1 q29_ 0) ∧ Int32.toInt (M.1 q29_ 0) ≤ 4 := pvok_r hok q29_ 0 ((pvrg_o 0 k30_ (by decide) (by decide)).trans rfl)
          by_cases c41_ : (M.1 q29_ 0) = (-1)
          · refine pw_eqI (if_pos c41_) ?_
            have b42_ : (-1) ≤ Int32.toInt (M.1 q29_ 0) ∧ Int32.toInt (M.1 q29_ 0) ≤ (-1) := (by have u0 := b40_; have u1 := (zi_eq _ _).mp c41_; have u2 := (show (-1) ≤ Int32.toInt (-1) ∧ Int32.toInt (-1) ≤ (-1) from (by decide)); omega)
            show PW 198 d (37, [some (pvR 0), some (pvI n1), some (pvI n2), some (pvI n3), some (pvI n4), some (pvI n5), some (pvR q29_), some (pvR q32_)], [pvI 1], M) _
            refine pw_ifn hT (c := 1 = 0) rfl rfl (fun c43_ => ?_) (fun c43_ => absurd c43_ (by decide))
            refine pw_blk hT 1 (S' := (50, [some (pvR 0), some (pvI n1), some (pvI n2), some (pvI n3), some (pvI n4), some (pvI n5), some (pvR q29_), some (pvR q32_)], [pvI (-11)], M)) rfl ⟨trivial, trivial⟩ ?_
            exact pw_ret hT rfl (r := some (pvI (-11))) (M' := M) ⟨rfl, rfl⟩ ⟨⟨_, rfl, (zr_wide (show (-11) ≤ Int32.toInt (-11) ∧ Int32.toInt (-11) ≤ (-11) from (by decide)) (by decide) (by decide))⟩, hok, pvfr_0⟩
          · refine pw_eqI (if_neg c41_) ?_
            have b44_ : 0 ≤ Int32.toInt (M.1 q29_ 0) ∧ Int32.toInt (M.1 q29_ 0) ≤ 4 := (by have u0 := b40_; have u1 := (not_congr (zi_eq _ _)).mp c41_; have u2 := (show (-1) ≤ Int32.toInt (-1) ∧ Int32.toInt (-1) ≤ (-1) from (by decide)); omega)
            show PW 198 d (37, [some (pvR 0), some (pvI n1), some (pvI n2), some (pvI n3), some (pvI n4), some (pvI n5), some (pvR q29_), some (pvR q32_)], [pvI 0], M) _
            refine pw_ifn hT (c := 0 = 0) rfl rfl (fun c45_ => absurd (by decide) c45_) (fun c45_ => ?_)
            refine pw_blk hT 1 (S' := (42, [some (pvR 0), some (pvI n1), some (pvI n2), some (pvI n3), some (pvI n4), some (pvI n5), some (pvR q29_), some (pvR q32_)], [pvR q32_], M)) rfl ⟨trivial, trivial⟩ ?_
            refine pw_callT hT (as := [pvR q32_]) (lo1 := [some (pvR q32_)]) (d1 := d) (rest := []) rfl rfl rfl rfl rfl (fun _ => k33_) (Nat.zero_le _) rfl rfl rfl (sf_X8_isNothing_x M hok q32_ k33_ d) ?_
            have b51_ : (-1) ≤ Int32.toInt (M.1 q32_ 0) ∧ Int32.toInt (M.1 q32_ 0) ≤ 4 := pvok_r hok q32_ 0 ((pvrg_o 0 k33_ (by decide) (by decide)).trans rfl)
            by_cases c52_ : (M.1 q32_ 0) = (-1)
            · refine pw_eqI (if_pos c52_) ?_
              have b53_ : (-1) ≤ Int32.toInt (M.1 q32_ 0) ∧ Int32.toInt (M.1 q32_ 0) ≤ (-1) := (by have u0 := b51_; have u1 := (zi_eq _ _).mp c52_; have u2 := (show (-1) ≤ Int32.toInt (-1) ∧ Int32.toInt (-1) ≤ (-1) from (by decide)); omega)
              show PW 198 d (45, [some (pvR 0), some (pvI n1), some (pvI n2), some (pvI n3), some (pvI n4), some (pvI n5), some (pvR q29_), some (pvR q32_)], [pvI 1], M) _
              refine pw_if hT (c := 1 = 0) rfl rfl (fun c54_ => absurd c54_ (by decide)) (fun c54_ => ?_)
              refine pw_blk hT 1 (S' := (50, [some (pvR 0), some (pvI n1), some (pvI n2), some (pvI n3), some (pvI n4), some (pvI n5), some (pvR q29_), some (pvR q32_)], [pvI (-11)], M)) rfl ⟨trivial, trivial⟩ ?_
              exact pw_ret hT rfl (r := some (pvI (-11))) (M' := M) ⟨rfl, rfl⟩ ⟨⟨_, rfl, (zr_wide (show (-11) ≤ Int32.toInt (-11) ∧ Int32.toInt (-11) ≤ (-11) from (by decide)) (by decide) (by decide))⟩, hok, pvfr_0⟩
            · refine pw_eqI (if_neg c52_) ?_
              have b55_ : 0 ≤ Int32.toInt (M.1 q32_ 0) ∧ Int32.toInt (M.1 q32_ 0) ≤ 4 := (by have u0 := b51_; have u1 := (not_congr (zi_eq _ _)).mp c52_; have u2 := (show (-1) ≤ Int32.toInt (-1) ∧ Int32.toInt (-1) ≤ (-1) from (by decide)); omega)
              show PW 198 d (45, [some (pvR 0), some (pvI n1), some (pvI n2), some (pvI n3), some (pvI n4), some (pvI n5), some (pvR q29_), some (pvR q32_)], [pvI 0], M) _
              refine pw_if hT (c := 0 = 0) rfl rfl (fun c56_ => ?_) (fun c56_ => absurd (by decide) c56_)
              refine pw_blk hT 4 (S' := (61, [some (pvR 0), some (pvI n1), some (pvI n2), some (pvI n3), some (pvI n4), some (pvI n5), some (pvR q29_), some (pvR q32_)], [pvI (M.1 q32_ 0), pvI (M.1 q29_ 0)], M)) rfl ⟨trivial, k30_, trivial, k33_, trivial⟩ ?_
              refine pw_ic hT (c := (M.1 q29_ 0) = (M.1 q32_ 0)) rfl rfl (fun c57_ => ?_) (fun c57_ => ?_)
              · have d58_ : Int32.toInt (M.1 q29_ 0) = Int32.toInt (M.1 q32_ 0) := (zi_eq _ _).mp c57_
                refine pw_blk hT 3 (S' := (72, [some (pvR 0), some (pvI n1), some (pvI n2), some (pvI n3), some (pvI n4), some (pvI n5), some (pvR q29_), some (pvR q32_)], [pvI n5, pvI n2, pvR q29_], M)) rfl ⟨trivial, trivial, trivial, trivial⟩ ?_
                refine pw_callT hT (as := [pvR q29_, pvI n2, pvI n5]) (lo1 := [some (pvR q29_), some (pvI n2), some (pvI n5)]) (d1 := d) (rest := []) rfl rfl rfl rfl rfl (fun _ => k30_) (Nat.zero_le _) rfl rfl rfl (sf_X8_hasSpan_x_x_x M hok q29_ n2 n5 k30_ d) ?_
                by_cases c64_ : n5 < 0
                · refine pw_eqI (if_pos c64_) ?_
                  have b65_ : (-2147483648) ≤ Int32.toInt n5 ∧ Int32.toInt n5 ≤ (-1) := zr_lt_l (-1) c64_ (zbnd n5) (show 0 ≤ Int32.toInt 0 ∧ Int32.toInt 0 ≤ 0 from (by decide)) (by decide)
                  show PW 198 d (75, [some (pvR 0), some (pvI n1), some (pvI n2), some (pvI n3), some (pvI n4), some (pvI n5), some (pvR q29_), some (pvR q32_)], [pvI 0], M) _
                  refine pw_if hT (c := 0 = 0) rfl rfl (fun c66_ => ?_) (fun c66_ => absurd (by decide) c66_)
                  refine pw_blk hT 1 (S' := (92, [some (pvR 0), some (pvI n1), some (pvI n2), some (pvI n3), some (pvI n4), some (pvI n5), some (pvR q29_), some (pvR q32_)], [pvI (-13)], M)) rfl ⟨trivial, trivial⟩ ?_
                  exact pw_ret hT rfl (r := some (pvI (-13))) (M' := M) ⟨rfl, rfl⟩ ⟨⟨_, rfl, (zr_wide (show (-13) ≤ Int32.toInt (-13) ∧ Int32.toInt (-13) ≤ (-13) from (by decide)) (by decide) (by decide))⟩, hok, pvfr_0⟩
                · refine pw_eqI (if_neg c64_) ?_
                  have b67_ : 0 ≤ Int32.toInt n5 ∧ Int32.toInt n5 ≤ 2147483647 := zr_nlt_l 0 c64_ (zbnd n5) (show 0 ≤ Int32.toInt 0 ∧ Int32.toInt 0 ≤ 0 from (by decide)) (by decide)
                  by_cases c68_ : n2 < 0
                  · refine pw_eqI (if_pos c68_) ?_
                    have b69_ : (-2147483648) ≤ Int32.toInt n2 ∧ Int32.toInt n2 ≤ (-1) := zr_lt_l (-1) c68_ (zbnd n2) (show 0 ≤ Int32.toInt 0 ∧ Int32.toInt 0 ≤ 0 from (by decide)) (by decide)
                    show PW 198 d (75, [some (pvR 0), some (pvI n1), some (pvI n2), some (pvI n3), some (pvI n4), some (pvI n5), some (pvR q29_), some (pvR q32_)], [pvI 0], M) _
                    refine pw_if hT (c := 0 = 0) rfl rfl (fun c70_ => ?_) (fun c70_ => absurd (by decide) c70_)
                    refine pw_blk hT 1 (S' := (92, [some (pvR 0), some (pvI n1), some (pvI n2), some (pvI n3), some (pvI n4), some (pvI n5), some (pvR q29_), some (pvR q32_)], [pvI (-13)], M)) rfl ⟨trivial, trivial⟩ ?_
                    exact pw_ret hT rfl (r := some (pvI (-13))) (M' := M) ⟨rfl, rfl⟩ ⟨⟨_, rfl, (zr_wide (show (-13) ≤ Int32.toInt (-13) ∧ Int32.toInt (-13) ≤ (-13) from (by decide)) (by decide) (by decide))⟩, hok, pvfr_0⟩
                  · refine pw_eqI (if_neg c68_) ?_
                    have b71_ : 0 ≤ Int32.toInt n2 ∧ Int32.toInt n2 ≤ 2147483647 := zr_nlt_l 0 c68_ (zbnd n2) (show 0 ≤ Int32.toInt 0 ∧ Int32.toInt 0 ≤ 0 from (by decide)) (by decide)
                    have b72_ : 0 ≤ Int32.toInt (M.1 q29_ 1) ∧ Int32.toInt (M.1 q29_ 1) ≤ 60 := pvok_r hok q29_ 1 ((pvrg_o 1 k30_ (by decide) (by decide)).trans rfl)
                    obtain ⟨q74_, b73_⟩ : (Int32.toInt ((M.1 q29_ 1) - n5) = Int32.toInt (M.1 q29_ 1) - Int32.toInt n5) ∧ ((-2147483647) ≤ Int32.toInt ((M.1 q29_ 1) - n5) ∧ Int32.toInt ((M.1 q29_ 1) - n5) ≤ 60) := zsub_r (M.1 q29_ 1) n5 (-2147483647) 60 b72_ b67_ (by decide) (by decide) (by decide) (by decide)
                    by_cases c75_ : ((M.1 q29_ 1) - n5) < n2
                    · refine pw_eqI (if_pos c75_) ?_
                      have d76_ : Int32.toInt ((M.1 q29_ 1) - n5) < Int32.toInt n2 := (zi_lt _ _).mp c75_
                      show PW 198 d (75, [some (pvR 0), some (pvI n1), some (pvI n2), some (pvI n3), some (pvI n4), some (pvI n5), some (pvR q29_), some (pvR q32_)], [pvI 0], M) _
                      refine pw_if hT (c := 0 = 0) rfl rfl (fun c77_ => ?_) (fun c77_ => absurd (by decide) c77_)
                      refine pw_blk hT 1 (S' := (92, [some (pvR 0), some (pvI n1), some (pvI n2), some (pvI n3), some (pvI n4), some (pvI n5), some (pvR q29_), some (pvR q32_)], [pvI (-13)], M)) rfl ⟨trivial, trivial⟩ ?_
                      exact pw_ret hT rfl (r := some (pvI (-13))) (M' := M) ⟨rfl, rfl⟩ ⟨⟨_, rfl, (zr_wide (show (-13) ≤ Int32.toInt (-13) ∧ Int32.toInt (-13) ≤ (-13) from (by decide)) (by decide) (by decide))⟩, hok, pvfr_0⟩
                    · refine pw_eqI (if_neg c75_) ?_
                      have b78_ : 0 ≤ Int32.toInt ((M.1 q29_ 1) - n5) ∧ Int32.toInt ((M.1 q29_ 1) - n5) ≤ 60 := zr_nlt_l 0 c75_ b73_ b71_ (by decide)
                      have b79_ : 0 ≤ Int32.toInt n2 ∧ Int32.toInt n2 ≤ 60 := zr_nlt_r 60 c75_ b71_ b78_ (by decide)
                      have d80_ : Int32.toInt ((M.1 q29_ 1) - n5) ≥ Int32.toInt n2 := Int.not_lt.mp ((not_congr (zi_lt _ _)).mp c75_)
                      show PW 198 d (75, [some (pvR 0), some (pvI n1), some (pvI n2), some (pvI n3), some (pvI n4), some (pvI n5), some (pvR q29_), some (pvR q32_)], [pvI 1], M) _
                      refine pw_if hT (c := 1 = 0) rfl rfl (fun c81_ => absurd c81_ (by decide)) (fun c81_ => ?_)
                      refine pw_blk hT 3 (S' := (84, [some (pvR 0), some (pvI n1), some (pvI n2), some (pvI n3), some (pvI n4), some (pvI n5), some (pvR q29_), some (pvR q32_)], [pvI n5, pvI n4, pvR q32_], M)) rfl ⟨trivial, trivial, trivial, trivial⟩ ?_
                      refine pw_callT hT (as := [pvR q32_, pvI n4, pvI n5]) (lo1 := [some (pvR q32_), some (pvI n4), some (pvI n5)]) (d1 := d) (rest := []) rfl rfl rfl rfl rfl (fun _ => k33_) (Nat.zero_le _) rfl rfl rfl (sf_X8_hasSpan_x_x_x M hok q32_ n4 n5 k33_ d) ?_
                      refine pw_eqI (if_neg c64_) ?_
                      by_cases c87_ : n4 < 0
                      · refine pw_eqI (if_pos c87_) ?_
                        have b88_ : (-2147483648) ≤ Int32.toInt n4 ∧ Int32.toInt n4 ≤ (-1) := zr_lt_l (-1) c87_ (zbnd n4) (show 0 ≤ Int32.toInt 0 ∧ Int32.toInt 0 ≤ 0 from (by decide)) (by decide)
                        show PW 198 d (87, [some (pvR 0), some (pvI n1), some (pvI n2), some (pvI n3), some (pvI n4), some (pvI n5), some (pvR q29_), some (pvR q32_)], [pvI 0], M) _
                        refine pw_ifn hT (c := 0 = 0) rfl rfl (fun c89_ => absurd (by decide) c89_) (fun c89_ => ?_)
                        refine pw_blk hT 1 (S' := (92, [some (pvR 0), some (pvI n1), some (pvI n2), some (pvI n3), some (pvI n4), some (pvI n5), some (pvR q29_), some (pvR q32_)], [pvI (-13)], M)) rfl ⟨trivial, trivial⟩ ?_
                        exact pw_ret hT rfl (r := some (pvI (-13))) (M' := M) ⟨rfl, rfl⟩ ⟨⟨_, rfl, (zr_wide (show (-13) ≤ Int32.toInt (-13) ∧ Int32.toInt (-13) ≤ (-13) from (by decide)) (by decide) (by decide))⟩, hok, pvfr_0⟩
                      · refine pw_eqI (if_neg c87_) ?_
                        have b90_ : 0 ≤ Int32.toInt n4 ∧ Int32.toInt n4 ≤ 2147483647 := zr_nlt_l 0 c87_ (zbnd n4) (show 0 ≤ Int32.toInt 0 ∧ Int32.toInt 0 ≤ 0 from (by decide)) (by decide)
                        have b91_ : 0 ≤ Int32.toInt (M.1 q32_ 1) ∧ Int32.toInt (M.1 q32_ 1) ≤ 60 := pvok_r hok q32_ 1 ((pvrg_o 1 k33_ (by decide) (by decide)).trans rfl)
                        obtain ⟨q93_, b92_⟩ : (Int32.toInt ((M.1 q32_ 1) - n5) = Int32.toInt (M.1 q32_ 1) - Int32.toInt n5) ∧ ((-2147483647) ≤ Int32.toInt ((M.1 q32_ 1) - n5) ∧ Int32.toInt ((M.1 q32_ 1) - n5) ≤ 60) := zsub_r (M.1 q32_ 1) n5 (-2147483647) 60 b91_ b67_ (by decide) (by decide) (by decide) (by decide)
                        by_cases c94_ : ((M.1 q32_ 1) - n5) < n4
                        · refine pw_eqI (if_pos c94_) ?_
                          have d95_ : Int32.toInt ((M.1 q32_ 1) - n5) < Int32.toInt n4 := (zi_lt _ _).mp c94_
                          show PW 198 d (87, [some (pvR 0), some (pvI n1), some (pvI n2), some (pvI n3), some (pvI n4), some (pvI n5), some (pvR q29_), some (pvR q32_)], [pvI 0], M) _
                          refine pw_ifn hT (c := 0 = 0) rfl rfl (fun c96_ => absurd (by decide) c96_) (fun c96_ => ?_)
                          refine pw_blk hT 1 (S' := (92, [some (pvR 0), some (pvI n1), some (pvI n2), some (pvI n3), some (pvI n4), some (pvI n5), some (pvR q29_), some (pvR q32_)], [pvI (-13)], M)) rfl ⟨trivial, trivial⟩ ?_
                          exact pw_ret hT rfl (r := some (pvI (-13))) (M' := M) ⟨rfl, rfl⟩ ⟨⟨_, rfl, (zr_wide (show (-13) ≤ Int32.toInt (-13) ∧ Int32.toInt (-13) ≤ (-13) from (by decide)) (by decide) (by decide))⟩, hok, pvfr_0⟩
                        · refine pw_eqI (if_neg c94_) ?_
                          have b97_ : 0 ≤ Int32.toInt ((M.1 q32_ 1) - n5) ∧ Int32.toInt ((M.1 q32_ 1) - n5) ≤ 60 := zr_nlt_l 0 c94_ b92_ b90_ (by decide)
                          have b98_ : 0 ≤ Int32.toInt n4 ∧ Int32.toInt n4 ≤ 60 := zr_nlt_r 60 c94_ b90_ b97_ (by decide)
                          have d99_ : Int32.toInt ((M.1 q32_ 1) - n5) ≥ Int32.toInt n4 := Int.not_lt.mp ((not_congr (zi_lt _ _)).mp c94_)
                          show PW 198 d (87, [some (pvR 0), some (pvI n1), some (pvI n2), some (pvI n3), some (pvI n4), some (pvI n5), some (pvR q29_), some (pvR q32_)], [pvI 1], M) _
                          refine pw_ifn hT (c := 1 = 0) rfl rfl (fun c100_ => ?_) (fun c100_ => absurd c100_ (by decide))
                          refine pw_blkw hT 8 (pc := 111) (lo := [some (pvR 0), some (pvI n1), some (pvI n2), some (pvI n3), some (pvI n4), some (pvI n5), some (pvR q29_), some (pvR q32_)]) (st := []) (M := pvrL M (q32_ + 6) (va_cpy (M.2 (q29_ + 6)) (M.2 (q32_ + 6)) (Int32.toNatClampNeg n2) (Int32.toNatClampNeg n4) (Int32.toNatClampNeg n5))) rfl ⟨trivial, k30_, trivial, trivial, k33_, trivial, trivial, ⟨(pvow_7_6 k30_).1, (pvow_7_6 k33_).1, (pvnneg (b := 60) b79_), (pvnneg (b := 60) b98_), (pvnneg (b := 2147483647) b67_), (by have u0 := b79_; have u1 := b67_; have u2 := ztn n2 (by omega); have u3 := ztn n5 (by omega); rw [(pvow_7_6 k30_).2.1]; omega), (by have u0 := b98_; have u1 := b67_; have u2 := ztn n4 (by omega); have u3 := ztn n5 (by omega); rw [(pvow_7_6 k33_).2.1]; omega), Nat.le_of_ble_eq_true rfl⟩, trivial⟩ (fun M101_ e102_ => ?_)
                          have o103_ : pvOk M101_ := pvok_rL e102_ hok
                          have f104_ : pvFr fp_X9_shift_0_x_x_x_x_x M M101_ := pvfr_rL e102_ pvfr_0
                          refine pw_blk hT 1 (S' := (113, [some (pvR 0), some (pvI n1), some (pvI n2), some (pvI n3), some (pvI n4), some (pvI n5), some (pvR q29_), some (pvR q32_)], [pvI n5], M101_)) rfl ⟨trivial, trivial⟩ ?_
                          exact pw_ret hT rfl (r := some (pvI n5)) (M' := M101_) ⟨rfl, rfl⟩ ⟨⟨_, rfl, (zr_wide b67_ (by decide) (by decide))⟩, o103_, f104_⟩
              · refine pw_blk hT 1 (S' := (66, [some (pvR 0), some (pvI n1), some (pvI n2), some (pvI n3), some (pvI n4), some (pvI n5), some (pvR q29_), some (pvR q32_)], [pvI (-12)], M)) rfl ⟨trivial, trivial⟩ ?_
                exact pw_ret hT rfl (r := some (pvI (-12))) (M' := M) ⟨rfl, rfl⟩ ⟨⟨_, rfl, (zr_wide (show (-12) ≤ Int32.toInt (-12) ∧ Int32.toInt (-12) ≤ (-12) from (by decide)) (by decide) (by decide))⟩, hok, pvfr_0⟩
def fpL_X8_become_x_x_x : List (Nat × Nat × Nat) := [(1, 7, 1), (1, 7, 2)]
def fp_X8_become_x_x_x (q k : Nat) : Bool := pvfp fpL_X8_become_x_x_x q k
set_option maxHeartbeats 4000000 in
set_option maxRecDepth 10000 in
theorem sf_X8_become_x_x_x (M : pvM) (hok : pvOk M) (q0 : Nat) (n1 : Int32) (n2 : Int32) (hq0 : pvkl q0 = 7) (hn1 : (-1) ≤ Int32.toInt n1 ∧ Int32.toInt n1 ≤ 4) (d : Nat) : PW 162 d (0, [some (pvR q0), some (pvI n1), some (pvI n2), none], [], M) (fun r X => r = none ∧ pvOk X ∧ pvFr fp_X8_become_x_x_x M X) := by
  have hT : pvdom 162 = pvD_162 := rfl
  refine pw_blkw hT 3 (pc := 5) (lo := [some (pvR q0), some (pvI n1), some (pvI n2), none]) (st := []) (M := pvu M q0 0 n1) rfl ⟨trivial, trivial, hq0, trivial⟩ (fun M1_ e2_ => ?_)
  have o3_ : pvOk M1_ := pvok_u2 e2_ hok ((pvrg_o 0 hq0 (by decide) (by decide)).trans rfl) hn1
  have f4_ : pvFr fp_X8_become_x_x_x M M1_ := pvfr_u e2_ pvfr_0 (pvfp_r (l := fpL_X8_become_x_x_x) (pvowr_7 hq0) (kk := 1) (by decide) (Or.inr rfl))
  have q5_ : Int32.toInt (if 60 < n2 then 60 else n2) = min (Int32.toInt n2) (Int32.toInt 60) := pvmin n2 60
  have b6_ : (-2147483648) ≤ Int32.toInt (if 60 < n2 then 60 else n2) ∧ Int32.toInt (if 60 < n2 then 60 else n2) ≤ 60 := (by have u0 := (zbnd n2); have u1 := (show 60 ≤ Int32.toInt 60 ∧ Int32.toInt 60 ≤ 60 from (by decide)); omega)
  have q7_ : Int32.toInt (if 0 < (if 60 < n2 then 60 else n2) then (if 60 < n2 then 60 else n2) else 0) = max (Int32.toInt 0) (Int32.toInt (if 60 < n2 then 60 else n2)) := pvmax 0 (if 60 < n2 then 60 else n2)
  have b8_ : 0 ≤ Int32.toInt (if 0 < (if 60 < n2 then 60 else n2) then (if 60 < n2 then 60 else n2) else 0) ∧ Int32.toInt (if 0 < (if 60 < n2 then 60 else n2) then (if 60 < n2 then 60 else n2) else 0) ≤ 60 := (by have u0 := (show 0 ≤ Int32.toInt 0 ∧ Int32.toInt 0 ≤ 0 from (by decide)); have u1 := b6_; omega)
  refine pw_blkw hT 7 (pc := 19) (lo := [some (pvR q0), some (pvI n1), some (pvI n2), none]) (st := []) (M := pvu M1_ q0 1 (if 0 < (if 60 < n2 then 60 else n2) then (if 60 < n2 then 60 else n2) else 0)) rfl ⟨trivial, trivial, trivial, trivial, (Nat.le_of_ble_eq_true rfl), (Nat.le_of_ble_eq_true rfl), hq0, trivial⟩ (fun M9_ e10_ => ?_)
  have o11_ : pvOk M9_ := pvok_u2 e10_ o3_ ((pvrg_o 1 hq0 (by decide) (by decide)).trans rfl) b8_
  have f12_ : pvFr fp_X8_become_x_x_x M M9_ := pvfr_u e10_ f4_ (pvfp_r (l := fpL_X8_become_x_x_x) (pvowr_7 hq0) (kk := 2) (by decide) (Or.inr rfl))
  refine pw_blk hT 2 (S' := (21, [some (pvR q0), some (pvI n1), some (pvI n2), some (pvI 0)], [], M9_)) rfl ⟨trivial, trivial, trivial⟩ ?_
  have hlz65_ : ∀ (nz65_ : Nat) (i3z65_ : Int32) (Mz65_ : pvM), (pvOk Mz65_) → (pvFr fp_X8_become_x_x_x M Mz65_) → (0 ≤ Int32.toInt i3z65_ ∧ Int32.toInt i3z65_ ≤ 60) → (zhide ((61 - Int32.toInt i3z65_).toNat < nz65_)) → PW 162 d (21, [some (pvR q0), some (pvI n1), some (pvI n2), some (pvI i3z65_)], [], Mz65_) (fun r X => r = none ∧ pvOk X ∧ pvFr fp_X8_become_x_x_x M X) := by
    intro nz65_
    induction nz65_ with
    | zero => intro i3z65_ Mz65_ oz65_ fz65_ h3z65_ hmz65_; exact absurd (zshow hmz65_) (Nat.not_lt_zero _)
    | succ nz65_ ihz65_ =>
      intro i3z65_ Mz65_ oz65_ fz65_ h3z65_ hmz65_
      have b66_ : 0 ≤ Int32.toInt (Mz65_.1 q0 1) ∧ Int32.toInt (Mz65_.1 q0 1) ≤ 60 := pvok_r oz65_ q0 1 ((pvrg_o 1 hq0 (by decide) (by decide)).trans rfl)
      refine pw_blk hT 3 (S' := (26, [some (pvR q0), some (pvI n1), some (pvI n2), some (pvI i3z65_)], [pvI (Mz65_.1 q0 1), pvI i3z65_], Mz65_)) rfl ⟨trivial, trivial, hq0, trivial⟩ ?_
      refine pw_ic hT (c := (Mz65_.1 q0 1) ≤ i3z65_) rfl rfl (fun c67_ => ?_) (fun c67_ => ?_)
      · have d68_ : Int32.toInt (Mz65_.1 q0 1) ≤ Int32.toInt i3z65_ := (zi_le _ _).mp c67_
        exact pw_ret hT rfl (r := none) (M' := Mz65_) ⟨rfl, rfl⟩ ⟨rfl, oz65_, fz65_⟩
      · have b69_ : 1 ≤ Int32.toInt (Mz65_.1 q0 1) ∧ Int32.toInt (Mz65_.1 q0 1) ≤ 60 := zr_nle_l 1 c67_ b66_ h3z65_ (by decide)
        have b70_ : 0 ≤ Int32.toInt i3z65_ ∧ Int32.toInt i3z65_ ≤ 59 := zr_nle_r 59 c67_ h3z65_ b69_ (by decide)
        have d71_ : Int32.toInt (Mz65_.1 q0 1) > Int32.toInt i3z65_ := Int.not_le.mp ((not_congr (zi_le _ _)).mp c67_)
        refine pw_blkw hT 5 (pc := 36) (lo := [some (pvR q0), some (pvI n1), some (pvI n2), some (pvI i3z65_)]) (st := []) (M := pvw Mz65_ (q0 + 6) (Int32.toNatClampNeg i3z65_) 0) rfl ⟨trivial, hq0, trivial, trivial, ⟨(pvow_7_6 hq0).1, (by rw [(pvow_7_6 hq0).2.1]; exact (zr_in (n := 60) b70_ (by decide) (by decide)))⟩, trivial⟩ (fun M72_ e73_ => ?_)
        have o74_ : pvOk M72_ := pvok_w e73_ oz65_
        have f75_ : pvFr fp_X8_become_x_x_x M M72_ := pvfr_w e73_ fz65_
        obtain ⟨q77_, b76_⟩ : (Int32.toInt (i3z65_ + 1) = Int32.toInt i3z65_ + 1) ∧ (1 ≤ Int32.toInt (i3z65_ + 1) ∧ Int32.toInt (i3z65_ + 1) ≤ 60) := zadd_k i3z65_ 1 1 1 60 b70_ (by decide) (by decide) (by decide) (by decide) (by decide)
        refine pw_blk hT 2 (S' := (21, [some (pvR q0), some (pvI n1), some (pvI n2), some (pvI (i3z65_ + 1))], [], M72_)) rfl ⟨trivial, trivial, trivial⟩ ?_
        exact ihz65_ (i3z65_ + 1) M72_ o74_ f75_ (zr_wide b76_ (by decide) (by decide)) (zhid (pvms_up (zshow hmz65_) h3z65_ q77_ (by decide) (by decide)))
  exact hlz65_ _ 0 M9_ o11_ f12_ (zr_wide (show 0 ≤ Int32.toInt 0 ∧ Int32.toInt 0 ≤ 0 from (by decide)) (by decide) (by decide)) (zhid (Nat.lt_succ_self _))
