set_option maxHeartbeats 4000000 in
set_option maxRecDepth 10000 in
theorem sf_X7_openBits_8 (M : pvM) (hok : pvOk M) (d : Nat) : PW 160 d (0, [some (pvR 8), none, none], [], M) (fun r X => (∃ x : Int32, r = some (pvI x) ∧ True) ∧ X = M) := by
  have hT : pvdom 160 = pvD_160 := rfl
  refine pw_blk hT 4 (S' := (4, [some (pvR 8), some (pvI 0), some (pvI 0)], [], M)) rfl ⟨trivial, trivial, trivial, trivial, trivial⟩ ?_
  have hlz55_ : ∀ (nz55_ : Nat) (i1z55_ : Int32) (i2z55_ : Int32), (0 ≤ Int32.toInt i2z55_ ∧ Int32.toInt i2z55_ ≤ 7) → (zhide ((8 - Int32.toInt i2z55_).toNat < nz55_)) → PW 160 d (4, [some (pvR 8), some (pvI i1z55_), some (pvI i2z55_)], [], M) (fun r X => (∃ x : Int32, r = some (pvI x) ∧ True) ∧ X = M) := by
    intro nz55_
    induction nz55_ with
    | zero => intro i1z55_ i2z55_ h2z55_ hmz55_; exact absurd (zshow hmz55_) (Nat.not_lt_zero _)
    | succ nz55_ ihz55_ =>
      intro i1z55_ i2z55_ h2z55_ hmz55_
      have b56_ : 0 ≤ Int32.toInt (M.1 8 1) ∧ Int32.toInt (M.1 8 1) ≤ 7 := pvok_r hok 8 1 rfl
      refine pw_blk hT 3 (S' := (9, [some (pvR 8), some (pvI i1z55_), some (pvI i2z55_)], [pvI (M.1 8 1), pvI i2z55_], M)) rfl ⟨trivial, trivial, rfl, trivial⟩ ?_
      refine pw_ic hT (c := (M.1 8 1) ≤ i2z55_) rfl rfl (fun c57_ => ?_) (fun c57_ => ?_)
      · have d58_ : Int32.toInt (M.1 8 1) ≤ Int32.toInt i2z55_ := (zi_le _ _).mp c57_
        refine pw_blk hT 1 (S' := (37, [some (pvR 8), some (pvI i1z55_), some (pvI i2z55_)], [pvI i1z55_], M)) rfl ⟨trivial, trivial⟩ ?_
        exact pw_ret hT rfl (r := some (pvI i1z55_)) (M' := M) ⟨rfl, rfl⟩ ⟨⟨_, rfl, trivial⟩, rfl⟩
      · have b59_ : 1 ≤ Int32.toInt (M.1 8 1) ∧ Int32.toInt (M.1 8 1) ≤ 7 := zr_nle_l 1 c57_ b56_ h2z55_ (by decide)
        have b60_ : 0 ≤ Int32.toInt i2z55_ ∧ Int32.toInt i2z55_ ≤ 6 := zr_nle_r 6 c57_ h2z55_ b59_ (by decide)
        have d61_ : Int32.toInt (M.1 8 1) > Int32.toInt i2z55_ := Int.not_le.mp ((not_congr (zi_le _ _)).mp c57_)
        refine pw_blkr hT 4 (pc := 18) (lo := [some (pvR 8), some (pvI i1z55_), some (pvI i2z55_)]) (st := []) (M := M) (z := (pvbs 10 + Int32.toNatClampNeg i2z55_)) rfl ⟨trivial, rfl, trivial, ⟨rfl, (zr_in (n := 7) b60_ (by decide) (by decide))⟩, trivial⟩ (fun q62_ e64_ => ?_)
        have k63_ : pvkl q62_ = 3 := pvel_10 (zr_in (n := 7) b60_ (by decide) (by decide)) e64_
        have b65_ : 0 ≤ Int32.toInt (M.1 q62_ 5) ∧ Int32.toInt (M.1 q62_ 5) ≤ 1 := pvok_r hok q62_ 5 ((pvrg_o 5 k63_ (by decide) (by decide)).trans rfl)
        refine pw_blk hT 1 (S' := (21, [some (pvR 8), some (pvI i1z55_), some (pvI i2z55_)], [pvI (M.1 q62_ 5)], M)) rfl ⟨k63_, trivial⟩ ?_
        refine pw_ifn hT (c := (M.1 q62_ 5) = 0) rfl rfl (fun c66_ => ?_) (fun c66_ => ?_)
        · have b67_ : 1 ≤ Int32.toInt (M.1 q62_ 5) ∧ Int32.toInt (M.1 q62_ 5) ≤ 1 := (by have u0 := b65_; have u1 := (not_congr (zi_eq _ _)).mp c66_; have u2 := (show 0 ≤ Int32.toInt 0 ∧ Int32.toInt 0 ≤ 0 from (by decide)); omega)
          obtain ⟨q69_, b68_⟩ : (Int32.toInt (i2z55_ + 1) = Int32.toInt i2z55_ + 1) ∧ (1 ≤ Int32.toInt (i2z55_ + 1) ∧ Int32.toInt (i2z55_ + 1) ≤ 7) := zadd_k i2z55_ 1 1 1 7 b60_ (by decide) (by decide) (by decide) (by decide) (by decide)
          refine pw_blk hT 2 (S' := (4, [some (pvR 8), some (pvI i1z55_), some (pvI (i2z55_ + 1))], [], M)) rfl ⟨trivial, trivial, trivial⟩ ?_
          exact ihz55_ i1z55_ (i2z55_ + 1) (zr_wide b68_ (by decide) (by decide)) (zhid (pvms_up (zshow hmz55_) h2z55_ q69_ (by decide) (by decide)))
        · have b70_ : 0 ≤ Int32.toInt (M.1 q62_ 5) ∧ Int32.toInt (M.1 q62_ 5) ≤ 0 := (by have u0 := b65_; have u1 := (zi_eq _ _).mp c66_; have u2 := (show 0 ≤ Int32.toInt 0 ∧ Int32.toInt 0 ≤ 0 from (by decide)); omega)
          obtain ⟨q72_, b71_⟩ : (Int32.toInt (i2z55_ + 1) = Int32.toInt i2z55_ + 1) ∧ (1 ≤ Int32.toInt (i2z55_ + 1) ∧ Int32.toInt (i2z55_ + 1) ≤ 7) := zadd_k i2z55_ 1 1 1 7 b60_ (by decide) (by decide) (by decide) (by decide) (by decide)
          refine pw_blk hT 8 (S' := (4, [some (pvR 8), some (pvI (i1z55_ ||| (1 <<< (i2z55_ &&& 31)))), some (pvI (i2z55_ + 1))], [], M)) rfl ⟨trivial, trivial, trivial, trivial, trivial, trivial, trivial, trivial, trivial⟩ ?_
          exact ihz55_ (i1z55_ ||| (1 <<< (i2z55_ &&& 31))) (i2z55_ + 1) (zr_wide b71_ (by decide) (by decide)) (zhid (pvms_up (zshow hmz55_) h2z55_ q72_ (by decide) (by decide)))
  exact hlz55_ _ 0 0 (zr_wide (show 0 ≤ Int32.toInt 0 ∧ Int32.toInt 0 ≤ 0 from (by decide)) (by decide) (by decide)) (zhid (Nat.lt_succ_self _))
set_option maxHeartbeats 4000000 in
set_option maxRecDepth 10000 in
theorem sf_J6_bitCount_0f7a4_x (M : pvM) (hok : pvOk M) (n0 : Int32) (d : Nat) : PW 0 d (0, [some (pvI n0)], [], M) (fun r X => r = some (pvI (((((((((n0 - ((UInt32.toInt32 (Int32.toUInt32 n0 >>> (Int32.toUInt32 1 &&& Int32.toUInt32 31))) &&& 1431655765)) &&& 858993459) + ((UInt32.toInt32 (Int32.toUInt32 (n0 - ((UInt32.toInt32 (Int32.toUInt32 n0 >>> (Int32.toUInt32 1 &&& Int32.toUInt32 31))) &&& 1431655765)) >>> (Int32.toUInt32 2 &&& Int32.toUInt32 31))) &&& 858993459)) + (UInt32.toInt32 (Int32.toUInt32 (((n0 - ((UInt32.toInt32 (Int32.toUInt32 n0 >>> (Int32.toUInt32 1 &&& Int32.toUInt32 31))) &&& 1431655765)) &&& 858993459) + ((UInt32.toInt32 (Int32.toUInt32 (n0 - ((UInt32.toInt32 (Int32.toUInt32 n0 >>> (Int32.toUInt32 1 &&& Int32.toUInt32 31))) &&& 1431655765)) >>> (Int32.toUInt32 2 &&& Int32.toUInt32 31))) &&& 858993459)) >>> (Int32.toUInt32 4 &&& Int32.toUInt32 31)))) &&& 252645135) + (UInt32.toInt32 (Int32.toUInt32 (((((n0 - ((UInt32.toInt32 (Int32.toUInt32 n0 >>> (Int32.toUInt32 1 &&& Int32.toUInt32 31))) &&& 1431655765)) &&& 858993459) + ((UInt32.toInt32 (Int32.toUInt32 (n0 - ((UInt32.toInt32 (Int32.toUInt32 n0 >>> (Int32.toUInt32 1 &&& Int32.toUInt32 31))) &&& 1431655765)) >>> (Int32.toUInt32 2 &&& Int32.toUInt32 31))) &&& 858993459)) + (UInt32.toInt32 (Int32.toUInt32 (((n0 - ((UInt32.toInt32 (Int32.toUInt32 n0 >>> (Int32.toUInt32 1 &&& Int32.toUInt32 31))) &&& 1431655765)) &&& 858993459) + ((UInt32.toInt32 (Int32.toUInt32 (n0 - ((UInt32.toInt32 (Int32.toUInt32 n0 >>> (Int32.toUInt32 1 &&& Int32.toUInt32 31))) &&& 1431655765)) >>> (Int32.toUInt32 2 &&& Int32.toUInt32 31))) &&& 858993459)) >>> (Int32.toUInt32 4 &&& Int32.toUInt32 31)))) &&& 252645135) >>> (Int32.toUInt32 8 &&& Int32.toUInt32 31)))) + (UInt32.toInt32 (Int32.toUInt32 ((((((n0 - ((UInt32.toInt32 (Int32.toUInt32 n0 >>> (Int32.toUInt32 1 &&& Int32.toUInt32 31))) &&& 1431655765)) &&& 858993459) + ((UInt32.toInt32 (Int32.toUInt32 (n0 - ((UInt32.toInt32 (Int32.toUInt32 n0 >>> (Int32.toUInt32 1 &&& Int32.toUInt32 31))) &&& 1431655765)) >>> (Int32.toUInt32 2 &&& Int32.toUInt32 31))) &&& 858993459)) + (UInt32.toInt32 (Int32.toUInt32 (((n0 - ((UInt32.toInt32 (Int32.toUInt32 n0 >>> (Int32.toUInt32 1 &&& Int32.toUInt32 31))) &&& 1431655765)) &&& 858993459) + ((UInt32.toInt32 (Int32.toUInt32 (n0 - ((UInt32.toInt32 (Int32.toUInt32 n0 >>> (Int32.toUInt32 1 &&& Int32.toUInt32 31))) &&& 1431655765)) >>> (Int32.toUInt32 2 &&& Int32.toUInt32 31))) &&& 858993459)) >>> (Int32.toUInt32 4 &&& Int32.toUInt32 31)))) &&& 252645135) + (UInt32.toInt32 (Int32.toUInt32 (((((n0 - ((UInt32.toInt32 (Int32.toUInt32 n0 >>> (Int32.toUInt32 1 &&& Int32.toUInt32 31))) &&& 1431655765)) &&& 858993459) + ((UInt32.toInt32 (Int32.toUInt32 (n0 - ((UInt32.toInt32 (Int32.toUInt32 n0 >>> (Int32.toUInt32 1 &&& Int32.toUInt32 31))) &&& 1431655765)) >>> (Int32.toUInt32 2 &&& Int32.toUInt32 31))) &&& 858993459)) + (UInt32.toInt32 (Int32.toUInt32 (((n0 - ((UInt32.toInt32 (Int32.toUInt32 n0 >>> (Int32.toUInt32 1 &&& Int32.toUInt32 31))) &&& 1431655765)) &&& 858993459) + ((UInt32.toInt32 (Int32.toUInt32 (n0 - ((UInt32.toInt32 (Int32.toUInt32 n0 >>> (Int32.toUInt32 1 &&& Int32.toUInt32 31))) &&& 1431655765)) >>> (Int32.toUInt32 2 &&& Int32.toUInt32 31))) &&& 858993459)) >>> (Int32.toUInt32 4 &&& Int32.toUInt32 31)))) &&& 252645135) >>> (Int32.toUInt32 8 &&& Int32.toUInt32 31)))) >>> (Int32.toUInt32 16 &&& Int32.toUInt32 31)))) &&& 63))) ∧ X = M) := by
  have hT : pvdom 0 = pvD_0 := rfl
  refine pw_blk hT 41 (S' := (52, [some (pvI (((((((n0 - ((UInt32.toInt32 (Int32.toUInt32 n0 >>> (Int32.toUInt32 1 &&& Int32.toUInt32 31))) &&& 1431655765)) &&& 858993459) + ((UInt32.toInt32 (Int32.toUInt32 (n0 - ((UInt32.toInt32 (Int32.toUInt32 n0 >>> (Int32.toUInt32 1 &&& Int32.toUInt32 31))) &&& 1431655765)) >>> (Int32.toUInt32 2 &&& Int32.toUInt32 31))) &&& 858993459)) + (UInt32.toInt32 (Int32.toUInt32 (((n0 - ((UInt32.toInt32 (Int32.toUInt32 n0 >>> (Int32.toUInt32 1 &&& Int32.toUInt32 31))) &&& 1431655765)) &&& 858993459) + ((UInt32.toInt32 (Int32.toUInt32 (n0 - ((UInt32.toInt32 (Int32.toUInt32 n0 >>> (Int32.toUInt32 1 &&& Int32.toUInt32 31))) &&& 1431655765)) >>> (Int32.toUInt32 2 &&& Int32.toUInt32 31))) &&& 858993459)) >>> (Int32.toUInt32 4 &&& Int32.toUInt32 31)))) &&& 252645135) + (UInt32.toInt32 (Int32.toUInt32 (((((n0 - ((UInt32.toInt32 (Int32.toUInt32 n0 >>> (Int32.toUInt32 1 &&& Int32.toUInt32 31))) &&& 1431655765)) &&& 858993459) + ((UInt32.toInt32 (Int32.toUInt32 (n0 - ((UInt32.toInt32 (Int32.toUInt32 n0 >>> (Int32.toUInt32 1 &&& Int32.toUInt32 31))) &&& 1431655765)) >>> (Int32.toUInt32 2 &&& Int32.toUInt32 31))) &&& 858993459)) + (UInt32.toInt32 (Int32.toUInt32 (((n0 - ((UInt32.toInt32 (Int32.toUInt32 n0 >>> (Int32.toUInt32 1 &&& Int32.toUInt32 31))) &&& 1431655765)) &&& 858993459) + ((UInt32.toInt32 (Int32.toUInt32 (n0 - ((UInt32.toInt32 (Int32.toUInt32 n0 >>> (Int32.toUInt32 1 &&& Int32.toUInt32 31))) &&& 1431655765)) >>> (Int32.toUInt32 2 &&& Int32.toUInt32 31))) &&& 858993459)) >>> (Int32.toUInt32 4 &&& Int32.toUInt32 31)))) &&& 252645135) >>> (Int32.toUInt32 8 &&& Int32.toUInt32 31)))) + (UInt32.toInt32 (Int32.toUInt32 ((((((n0 - ((UInt32.toInt32 (Int32.toUInt32 n0 >>> (Int32.toUInt32 1 &&& Int32.toUInt32 31))) &&& 1431655765)) &&& 858993459) + ((UInt32.toInt32 (Int32.toUInt32 (n0 - ((UInt32.toInt32 (Int32.toUInt32 n0 >>> (Int32.toUInt32 1 &&& Int32.toUInt32 31))) &&& 1431655765)) >>> (Int32.toUInt32 2 &&& Int32.toUInt32 31))) &&& 858993459)) + (UInt32.toInt32 (Int32.toUInt32 (((n0 - ((UInt32.toInt32 (Int32.toUInt32 n0 >>> (Int32.toUInt32 1 &&& Int32.toUInt32 31))) &&& 1431655765)) &&& 858993459) + ((UInt32.toInt32 (Int32.toUInt32 (n0 - ((UInt32.toInt32 (Int32.toUInt32 n0 >>> (Int32.toUInt32 1 &&& Int32.toUInt32 31))) &&& 1431655765)) >>> (Int32.toUInt32 2 &&& Int32.toUInt32 31))) &&& 858993459)) >>> (Int32.toUInt32 4 &&& Int32.toUInt32 31)))) &&& 252645135) + (UInt32.toInt32 (Int32.toUInt32 (((((n0 - ((UInt32.toInt32 (Int32.toUInt32 n0 >>> (Int32.toUInt32 1 &&& Int32.toUInt32 31))) &&& 1431655765)) &&& 858993459) + ((UInt32.toInt32 (Int32.toUInt32 (n0 - ((UInt32.toInt32 (Int32.toUInt32 n0 >>> (Int32.toUInt32 1 &&& Int32.toUInt32 31))) &&& 1431655765)) >>> (Int32.toUInt32 2 &&& Int32.toUInt32 31))) &&& 858993459)) + (UInt32.toInt32 (Int32.toUInt32 (((n0 - ((UInt32.toInt32 (Int32.toUInt32 n0 >>> (Int32.toUInt32 1 &&& Int32.toUInt32 31))) &&& 1431655765)) &&& 858993459) + ((UInt32.toInt32 (Int32.toUInt32 (n0 - ((UInt32.toInt32 (Int32.toUInt32 n0 >>> (Int32.toUInt32 1 &&& Int32.toUInt32 31))) &&& 1431655765)) >>> (Int32.toUInt32 2 &&& Int32.toUInt32 31))) &&& 858993459)) >>> (Int32.toUInt32 4 &&& Int32.toUInt32 31)))) &&& 252645135) >>> (Int32.toUInt32 8 &&& Int32.toUInt32 31)))) >>> (Int32.toUInt32 16 &&& Int32.toUInt32 31)))))], [pvI ((((((((n0 - ((UInt32.toInt32 (Int32.toUInt32 n0 >>> (Int32.toUInt32 1 &&& Int32.toUInt32 31))) &&& 1431655765)) &&& 858993459) + ((UInt32.toInt32 (Int32.toUInt32 (n0 - ((UInt32.toInt32 (Int32.toUInt32 n0 >>> (Int32.toUInt32 1 &&& Int32.toUInt32 31))) &&& 1431655765)) >>> (Int32.toUInt32 2 &&& Int32.toUInt32 31))) &&& 858993459)) + (UInt32.toInt32 (Int32.toUInt32 (((n0 - ((UInt32.toInt32 (Int32.toUInt32 n0 >>> (Int32.toUInt32 1 &&& Int32.toUInt32 31))) &&& 1431655765)) &&& 858993459) + ((UInt32.toInt32 (Int32.toUInt32 (n0 - ((UInt32.toInt32 (Int32.toUInt32 n0 >>> (Int32.toUInt32 1 &&& Int32.toUInt32 31))) &&& 1431655765)) >>> (Int32.toUInt32 2 &&& Int32.toUInt32 31))) &&& 858993459)) >>> (Int32.toUInt32 4 &&& Int32.toUInt32 31)))) &&& 252645135) + (UInt32.toInt32 (Int32.toUInt32 (((((n0 - ((UInt32.toInt32 (Int32.toUInt32 n0 >>> (Int32.toUInt32 1 &&& Int32.toUInt32 31))) &&& 1431655765)) &&& 858993459) + ((UInt32.toInt32 (Int32.toUInt32 (n0 - ((UInt32.toInt32 (Int32.toUInt32 n0 >>> (Int32.toUInt32 1 &&& Int32.toUInt32 31))) &&& 1431655765)) >>> (Int32.toUInt32 2 &&& Int32.toUInt32 31))) &&& 858993459)) + (UInt32.toInt32 (Int32.toUInt32 (((n0 - ((UInt32.toInt32 (Int32.toUInt32 n0 >>> (Int32.toUInt32 1 &&& Int32.toUInt32 31))) &&& 1431655765)) &&& 858993459) + ((UInt32.toInt32 (Int32.toUInt32 (n0 - ((UInt32.toInt32 (Int32.toUInt32 n0 >>> (Int32.toUInt32 1 &&& Int32.toUInt32 31))) &&& 1431655765)) >>> (Int32.toUInt32 2 &&& Int32.toUInt32 31))) &&& 858993459)) >>> (Int32.toUInt32 4 &&& Int32.toUInt32 31)))) &&& 252645135) >>> (Int32.toUInt32 8 &&& Int32.toUInt32 31)))) + (UInt32.toInt32 (Int32.toUInt32 ((((((n0 - ((UInt32.toInt32 (Int32.toUInt32 n0 >>> (Int32.toUInt32 1 &&& Int32.toUInt32 31))) &&& 1431655765)) &&& 858993459) + ((UInt32.toInt32 (Int32.toUInt32 (n0 - ((UInt32.toInt32 (Int32.toUInt32 n0 >>> (Int32.toUInt32 1 &&& Int32.toUInt32 31))) &&& 1431655765)) >>> (Int32.toUInt32 2 &&& Int32.toUInt32 31))) &&& 858993459)) + (UInt32.toInt32 (Int32.toUInt32 (((n0 - ((UInt32.toInt32 (Int32.toUInt32 n0 >>> (Int32.toUInt32 1 &&& Int32.toUInt32 31))) &&& 1431655765)) &&& 858993459) + ((UInt32.toInt32 (Int32.toUInt32 (n0 - ((UInt32.toInt32 (Int32.toUInt32 n0 >>> (Int32.toUInt32 1 &&& Int32.toUInt32 31))) &&& 1431655765)) >>> (Int32.toUInt32 2 &&& Int32.toUInt32 31))) &&& 858993459)) >>> (Int32.toUInt32 4 &&& Int32.toUInt32 31)))) &&& 252645135) + (UInt32.toInt32 (Int32.toUInt32 (((((n0 - ((UInt32.toInt32 (Int32.toUInt32 n0 >>> (Int32.toUInt32 1 &&& Int32.toUInt32 31))) &&& 1431655765)) &&& 858993459) + ((UInt32.toInt32 (Int32.toUInt32 (n0 - ((UInt32.toInt32 (Int32.toUInt32 n0 >>> (Int32.toUInt32 1 &&& Int32.toUInt32 31))) &&& 1431655765)) >>> (Int32.toUInt32 2 &&& Int32.toUInt32 31))) &&& 858993459)) + (UInt32.toInt32 (Int32.toUInt32 (((n0 - ((UInt32.toInt32 (Int32.toUInt32 n0 >>> (Int32.toUInt32 1 &&& Int32.toUInt32 31))) &&& 1431655765)) &&& 858993459) + ((UInt32.toInt32 (Int32.toUInt32 (n0 - ((UInt32.toInt32 (Int32.toUInt32 n0 >>> (Int32.toUInt32 1 &&& Int32.toUInt32 31))) &&& 1431655765)) >>> (Int32.toUInt32 2 &&& Int32.toUInt32 31))) &&& 858993459)) >>> (Int32.toUInt32 4 &&& Int32.toUInt32 31)))) &&& 252645135) >>> (Int32.toUInt32 8 &&& Int32.toUInt32 31)))) >>> (Int32.toUInt32 16 &&& Int32.toUInt32 31)))) &&& 63)], M)) rfl ⟨trivial, trivial, trivial, trivial, trivial, trivial, trivial, trivial, trivial, trivial, trivial, trivial, trivial, trivial, trivial, trivial, trivial, trivial, trivial, trivial, trivial, trivial, trivial, trivial, trivial, trivial, trivial, trivial, trivial, trivial, trivial, trivial, trivial, trivial, trivial, trivial, trivial, trivial, trivial, trivial, trivial, trivial⟩ ?_
  exact pw_ret hT rfl (r := some (pvI ((((((((n0 - ((UInt32.toInt32 (Int32.toUInt32 n0 >>> (Int32.toUInt32 1 &&& Int32.toUInt32 31))) &&& 1431655765)) &&& 858993459) + ((UInt32.toInt32 (Int32.toUInt32 (n0 - ((UInt32.toInt32 (Int32.toUInt32 n0 >>> (Int32.toUInt32 1 &&& Int32.toUInt32 31))) &&& 1431655765)) >>> (Int32.toUInt32 2 &&& Int32.toUInt32 31))) &&& 858993459)) + (UInt32.toInt32 (Int32.toUInt32 (((n0 - ((UInt32.toInt32 (Int32.toUInt32 n0 >>> (Int32.toUInt32 1 &&& Int32.toUInt32 31))) &&& 1431655765)) &&& 858993459) + ((UInt32.toInt32 (Int32.toUInt32 (n0 - ((UInt32.toInt32 (Int32.toUInt32 n0 >>> (Int32.toUInt32 1 &&& Int32.toUInt32 31))) &&& 1431655765)) >>> (Int32.toUInt32 2 &&& Int32.toUInt32 31))) &&& 858993459)) >>> (Int32.toUInt32 4 &&& Int32.toUInt32 31)))) &&& 252645135) + (UInt32.toInt32 (Int32.toUInt32 (((((n0 - ((UInt32.toInt32 (Int32.toUInt32 n0 >>> (Int32.toUInt32 1 &&& Int32.toUInt32 31))) &&& 1431655765)) &&& 858993459) + ((UInt32.toInt32 (Int32.toUInt32 (n0 - ((UInt32.toInt32 (Int32.toUInt32 n0 >>> (Int32.toUInt32 1 &&& Int32.toUInt32 31))) &&& 1431655765)) >>> (Int32.toUInt32 2 &&& Int32.toUInt32 31))) &&& 858993459)) + (UInt32.toInt32 (Int32.toUInt32 (((n0 - ((UInt32.toInt32 (Int32.toUInt32 n0 >>> (Int32.toUInt32 1 &&& Int32.toUInt32 31))) &&& 1431655765)) &&& 858993459) + ((UInt32.toInt32 (Int32.toUInt32 (n0 - ((UInt32.toInt32 (Int32.toUInt32 n0 >>> (Int32.toUInt32 1 &&& Int32.toUInt32 31))) &&& 1431655765)) >>> (Int32.toUInt32 2 &&& Int32.toUInt32 31))) &&& 858993459)) >>> (Int32.toUInt32 4 &&& Int32.toUInt32 31)))) &&& 252645135) >>> (Int32.toUInt32 8 &&& Int32.toUInt32 31)))) + (UInt32.toInt32 (Int32.toUInt32 ((((((n0 - ((UInt32.toInt32 (Int32.toUInt32 n0 >>> (Int32.toUInt32 1 &&& Int32.toUInt32 31))) &&& 1431655765)) &&& 858993459) + ((UInt32.toInt32 (Int32.toUInt32 (n0 - ((UInt32.toInt32 (Int32.toUInt32 n0 >>> (Int32.toUInt32 1 &&& Int32.toUInt32 31))) &&& 1431655765)) >>> (Int32.toUInt32 2 &&& Int32.toUInt32 31))) &&& 858993459)) + (UInt32.toInt32 (Int32.toUInt32 (((n0 - ((UInt32.toInt32 (Int32.toUInt32 n0 >>> (Int32.toUInt32 1 &&& Int32.toUInt32 31))) &&& 1431655765)) &&& 858993459) + ((UInt32.toInt32 (Int32.toUInt32 (n0 - ((UInt32.toInt32 (Int32.toUInt32 n0 >>> (Int32.toUInt32 1 &&& Int32.toUInt32 31))) &&& 1431655765)) >>> (Int32.toUInt32 2 &&& Int32.toUInt32 31))) &&& 858993459)) >>> (Int32.toUInt32 4 &&& Int32.toUInt32 31)))) &&& 252645135) + (UInt32.toInt32 (Int32.toUInt32 (((((n0 - ((UInt32.toInt32 (Int32.toUInt32 n0 >>> (Int32.toUInt32 1 &&& Int32.toUInt32 31))) &&& 1431655765)) &&& 858993459) + ((UInt32.toInt32 (Int32.toUInt32 (n0 - ((UInt32.toInt32 (Int32.toUInt32 n0 >>> (Int32.toUInt32 1 &&& Int32.toUInt32 31))) &&& 1431655765)) >>> (Int32.toUInt32 2 &&& Int32.toUInt32 31))) &&& 858993459)) + (UInt32.toInt32 (Int32.toUInt32 (((n0 - ((UInt32.toInt32 (Int32.toUInt32 n0 >>> (Int32.toUInt32 1 &&& Int32.toUInt32 31))) &&& 1431655765)) &&& 858993459) + ((UInt32.toInt32 (Int32.toUInt32 (n0 - ((UInt32.toInt32 (Int32.toUInt32 n0 >>> (Int32.toUInt32 1 &&& Int32.toUInt32 31))) &&& 1431655765)) >>> (Int32.toUInt32 2 &&& Int32.toUInt32 31))) &&& 858993459)) >>> (Int32.toUInt32 4 &&& Int32.toUInt32 31)))) &&& 252645135) >>> (Int32.toUInt32 8 &&& Int32.toUInt32 31)))) >>> (Int32.toUInt32 16 &&& Int32.toUInt32 31)))) &&& 63))) (M' := M) ⟨rfl, rfl⟩ ⟨rfl, rfl⟩
def fpL_X6_clear_106 : List (Nat × Nat × Nat) := [(0, 106, 1)]
def fp_X6_clear_106 (q k : Nat) : Bool := pvfp fpL_X6_clear_106 q k
set_option maxHeartbeats 4000000 in
set_option maxRecDepth 10000 in
theorem sf_X6_clear_106 (M : pvM) (hok : pvOk M) (d : Nat) : PW 153 d (0, [some (pvR 106)], [], M) (fun r X => (∃ x : Int32, r = some (pvI x) ∧ 0 ≤ Int32.toInt x ∧ Int32.toInt x ≤ 0) ∧ pvOk X ∧ pvFr fp_X6_clear_106 M X) := by
  have hT : pvdom 153 = pvD_153 := rfl
  refine pw_blkw hT 3 (pc := 5) (lo := [some (pvR 106)]) (st := []) (M := pvu M 106 0 0) rfl ⟨trivial, trivial, rfl, trivial⟩ (fun M1_ e2_ => ?_)
  have o3_ : pvOk M1_ := pvok_u2 e2_ hok rfl (zr_wide (show 0 ≤ Int32.toInt 0 ∧ Int32.toInt 0 ≤ 0 from (by decide)) (by decide) (by decide))
  have f4_ : pvFr fp_X6_clear_106 M M1_ := pvfr_u e2_ pvfr_0 rfl
  refine pw_blk hT 1 (S' := (6, [some (pvR 106)], [pvI 0], M1_)) rfl ⟨trivial, trivial⟩ ?_
  exact pw_ret hT rfl (r := some (pvI 0)) (M' := M1_) ⟨rfl, rfl⟩ ⟨⟨_, rfl, (show 0 ≤ Int32.toInt 0 ∧ Int32.toInt 0 ≤ 0 from (by decide))⟩, o3_, f4_⟩
def fpL_X1_goAlong_5_106_x_x_x : List (Nat × Nat × Nat) := [(0, 12, 0)]
def fp_X1_goAlong_5_106_x_x_x (q k : Nat) : Bool := pvfp fpL_X1_goAlong_5_106_x_x_x q k
set_option maxHeartbeats 4000000 in
set_option maxRecDepth 10000 in
theorem sf_X1_goAlong_5_106_x_x_x (M : pvM) (hok : pvOk M) (n2 : Int32) (n3 : Int32) (n4 : Int32) (hn2 : 0 ≤ Int32.toInt n2 ∧ Int32.toInt n2 ≤ 7) (hn3 : 0 ≤ Int32.toInt n3 ∧ Int32.toInt n3 ≤ 7) (hn4 : 0 ≤ Int32.toInt n4 ∧ Int32.toInt n4 ≤ 60000) (d : Nat) : PW 109 d (0, [some (pvR 5), some (pvR 106), some (pvI n2), some (pvI n3), some (pvI n4), none, none, none, none, none], [], M) (fun r X => (∃ x : Int32, r = some (pvI x) ∧ 0 ≤ Int32.toInt x ∧ Int32.toInt x ≤ 64000) ∧ pvOk X ∧ pvFr fp_X1_goAlong_5_106_x_x_x M X) := by
  have hT : pvdom 109 = pvD_109 := rfl
  have b1_ : 0 ≤ Int32.toInt (M.1 8 6) ∧ Int32.toInt (M.1 8 6) ≤ 3 := pvok_r hok 8 6 rfl
  have b2_ : 0 ≤ Int32.toInt (M.1 8 7) ∧ Int32.toInt (M.1 8 7) ≤ 4 := pvok_r hok 8 7 rfl
  refine pw_blk hT 12 (S' := (25, [some (pvR 5), some (pvR 106), some (pvI n2), some (pvI n3), some (pvI n4), some (pvI n4), some (pvI (M.1 8 6)), some (pvI (M.1 8 7)), some (pvI n2), none], [], M)) rfl ⟨trivial, trivial, trivial, rfl, rfl, trivial, trivial, rfl, rfl, trivial, trivial, trivial, trivial⟩ ?_
  have hlz169_ : ∀ (nz169_ : Nat) (i5z169_ : Int32) (i6z169_ : Int32) (i7z169_ : Int32) (i8z169_ : Int32) (v9z169_ : Option pvV) (Mz169_ : pvM), (pvOk Mz169_) → (pvFr fp_X1_goAlong_5_106_x_x_x M Mz169_) → (0 ≤ Int32.toInt i5z169_ ∧ Int32.toInt i5z169_ ≤ 64000) → (0 ≤ Int32.toInt i6z169_ ∧ Int32.toInt i6z169_ ≤ 3) → (0 ≤ Int32.toInt i7z169_ ∧ Int32.toInt i7z169_ ≤ 4) → (0 ≤ Int32.toInt i8z169_ ∧ Int32.toInt i8z169_ ≤ 7) → (Int32.toInt i5z169_ ≤ 60000 + 320 * Int32.toInt i8z169_) → (0 ≤ Int32.toInt i5z169_) → (zhide ((8 - Int32.toInt i8z169_).toNat < nz169_)) → PW 109 d (25, [some (pvR 5), some (pvR 106), some (pvI n2), some (pvI n3), some (pvI n4), some (pvI i5z169_), some (pvI i6z169_), some (pvI i7z169_), some (pvI i8z169_), v9z169_], [], Mz169_) (fun r X => (∃ x : Int32, r = some (pvI x) ∧ 0 ≤ Int32.toInt x ∧ Int32.toInt x ≤ 64000) ∧ pvOk X ∧ pvFr fp_X1_goAlong_5_106_x_x_x M X) := by
    intro nz169_
    induction nz169_ with
    | zero => intro i5z169_ i6z169_ i7z169_ i8z169_ v9z169_ Mz169_ oz169_ fz169_ h5z169_ h6z169_ h7z169_ h8z169_ j0z169_ j1z169_ hmz169_; exact absurd (zshow hmz169_) (Nat.not_lt_zero _)
    | succ nz169_ ihz169_ =>
      intro i5z169_ i6z169_ i7z169_ i8z169_ v9z169_ Mz169_ oz169_ fz169_ h5z169_ h6z169_ h7z169_ h8z169_ j0z169_ j1z169_ hmz169_
      refine pw_blk hT 2 (S' := (28, [some (pvR 5), some (pvR 106), some (pvI n2), some (pvI n3), some (pvI n4), some (pvI i5z169_), some (pvI i6z169_), some (pvI i7z169_), some (pvI i8z169_), v9z169_], [pvI n3, pvI i8z169_], Mz169_)) rfl ⟨trivial, trivial, trivial⟩ ?_
      refine pw_ic hT (c := n3 ≤ i8z169_) rfl rfl (fun c170_ => ?_) (fun c170_ => ?_)
      · have d171_ : Int32.toInt n3 ≤ Int32.toInt i8z169_ := (zi_le _ _).mp c170_
        refine pw_blk hT 1 (S' := (128, [some (pvR 5), some (pvR 106), some (pvI n2), some (pvI n3), some (pvI n4), some (pvI i5z169_), some (pvI i6z169_), some (pvI i7z169_), some (pvI i8z169_), v9z169_], [pvI i5z169_], Mz169_)) rfl ⟨trivial, trivial⟩ ?_
        exact pw_ret hT rfl (r := some (pvI i5z169_)) (M' := Mz169_) ⟨rfl, rfl⟩ ⟨⟨_, rfl, h5z169_⟩, oz169_, fz169_⟩
      · have b172_ : 1 ≤ Int32.toInt n3 ∧ Int32.toInt n3 ≤ 7 := zr_nle_l 1 c170_ hn3 h8z169_ (by decide)
        have b173_ : 0 ≤ Int32.toInt i8z169_ ∧ Int32.toInt i8z169_ ≤ 6 := zr_nle_r 6 c170_ h8z169_ b172_ (by decide)
        have d174_ : Int32.toInt n3 > Int32.toInt i8z169_ := Int.not_le.mp ((not_congr (zi_le _ _)).mp c170_)
        have b175_ : 0 ≤ Int32.toInt (Mz169_.1 106 0) ∧ Int32.toInt (Mz169_.1 106 0) ≤ 7 := pvok_r oz169_ 106 0 rfl
        refine pw_blk hT 3 (S' := (37, [some (pvR 5), some (pvR 106), some (pvI n2), some (pvI n3), some (pvI n4), some (pvI i5z169_), some (pvI i6z169_), some (pvI i7z169_), some (pvI i8z169_), v9z169_], [pvI (Mz169_.1 106 0), pvI i8z169_], Mz169_)) rfl ⟨trivial, trivial, rfl, trivial⟩ ?_
        refine pw_ic hT (c := (Mz169_.1 106 0) ≤ i8z169_) rfl rfl (fun c176_ => ?_) (fun c176_ => ?_)
        · have b177_ : 0 ≤ Int32.toInt (Mz169_.1 106 0) ∧ Int32.toInt (Mz169_.1 106 0) ≤ 6 := zr_le_l 6 c176_ b175_ b173_ (by decide)
          have d178_ : Int32.toInt (Mz169_.1 106 0) ≤ Int32.toInt i8z169_ := (zi_le _ _).mp c176_
          refine pw_blk hT 1 (S' := (128, [some (pvR 5), some (pvR 106), some (pvI n2), some (pvI n3), some (pvI n4), some (pvI i5z169_), some (pvI i6z169_), some (pvI i7z169_), some (pvI i8z169_), v9z169_], [pvI i5z169_], Mz169_)) rfl ⟨trivial, trivial⟩ ?_
          exact pw_ret hT rfl (r := some (pvI i5z169_)) (M' := Mz169_) ⟨rfl, rfl⟩ ⟨⟨_, rfl, h5z169_⟩, oz169_, fz169_⟩
        · have b179_ : 1 ≤ Int32.toInt (Mz169_.1 106 0) ∧ Int32.toInt (Mz169_.1 106 0) ≤ 7 := zr_nle_l 1 c176_ b175_ b173_ (by decide)
          have d180_ : Int32.toInt (Mz169_.1 106 0) > Int32.toInt i8z169_ := Int.not_le.mp ((not_congr (zi_le _ _)).mp c176_)
          have b181_ : 0 ≤ Int32.toInt (Mz169_.1 114 (Int32.toNatClampNeg i8z169_)) ∧ Int32.toInt (Mz169_.1 114 (Int32.toNatClampNeg i8z169_)) ≤ 6 := pvok_r oz169_ 114 (Int32.toNatClampNeg i8z169_) rfl
          refine pw_blkr hT 8 (pc := 55) (lo := [some (pvR 5), some (pvR 106), some (pvI n2), some (pvI n3), some (pvI n4), some (pvI i5z169_), some (pvI i6z169_), some (pvI i7z169_), some (pvI i8z169_), v9z169_]) (st := []) (M := Mz169_) (z := (pvbs 10 + Int32.toNatClampNeg (Mz169_.1 114 (Int32.toNatClampNeg i8z169_)))) rfl ⟨trivial, rfl, rfl, trivial, rfl, trivial, ⟨rfl, (zr_in (n := 7) b173_ (by decide) (by decide))⟩, ⟨rfl, (zr_in (n := 7) b181_ (by decide) (by decide))⟩, trivial⟩ (fun q182_ e184_ => ?_)
          have k183_ : pvkl q182_ = 3 := pvel_10 (zr_in (n := 7) b181_ (by decide) (by decide)) e184_
          have b185_ : 0 ≤ Int32.toInt (Mz169_.1 q182_ 5) ∧ Int32.toInt (Mz169_.1 q182_ 5) ≤ 1 := pvok_r oz169_ q182_ 5 ((pvrg_o 5 k183_ (by decide) (by decide)).trans rfl)
          refine pw_blk hT 3 (S' := (62, [some (pvR 5), some (pvR 106), some (pvI n2), some (pvI n3), some (pvI n4), some (pvI i5z169_), some (pvI i6z169_), some (pvI i7z169_), some (pvI i8z169_), some (pvR q182_)], [pvI (Mz169_.1 q182_ 5)], Mz169_)) rfl ⟨trivial, trivial, k183_, trivial⟩ ?_
          refine pw_if hT (c := (Mz169_.1 q182_ 5) = 0) rfl rfl (fun c186_ => ?_) (fun c186_ => ?_)
          · have b187_ : 0 ≤ Int32.toInt (Mz169_.1 q182_ 5) ∧ Int32.toInt (Mz169_.1 q182_ 5) ≤ 0 := (by have u0 := b185_; have u1 := (zi_eq _ _).mp c186_; have u2 := (show 0 ≤ Int32.toInt 0 ∧ Int32.toInt 0 ≤ 0 from (by decide)); omega)
            have b188_ : 15 ≤ Int32.toInt (Mz169_.1 8 8) ∧ Int32.toInt (Mz169_.1 8 8) ≤ 23 := pvok_r oz169_ 8 8 rfl
            refine pw_blkr hT 7 (pc := 83) (lo := [some (pvR 5), some (pvR 106), some (pvI n2), some (pvI n3), some (pvI n4), some (pvI i5z169_), some (pvI i6z169_), some (pvI i7z169_), some (pvI i8z169_), some (pvR q182_)]) (st := [pvI i7z169_, pvI i6z169_, pvR q182_, pvI i5z169_]) (M := Mz169_) (z := (pvhp (Mz169_.1 8 8))) rfl ⟨trivial, trivial, trivial, trivial, trivial, rfl, rfl, trivial⟩ (fun q189_ e191_ => ?_)
            have k190_ : pvkl q189_ = 2 := pvhp_k b188_ e191_
            have b192_ : 0 ≤ Int32.toInt (Mz169_.1 q189_ 0) ∧ Int32.toInt (Mz169_.1 q189_ 0) ≤ 99 := pvok_r oz169_ q189_ 0 ((pvrg_o 0 k190_ (by decide) (by decide)).trans rfl)
            refine pw_blk hT 1 (S' := (86, [some (pvR 5), some (pvR 106), some (pvI n2), some (pvI n3), some (pvI n4), some (pvI i5z169_), some (pvI i6z169_), some (pvI i7z169_), some (pvI i8z169_), some (pvR q182_)], [pvI (Mz169_.1 q189_ 0), pvI i7z169_, pvI i6z169_, pvR q182_, pvI i5z169_], Mz169_)) rfl ⟨k190_, trivial⟩ ?_
            refine pw_callGp hT (as := [pvR q182_, pvI i6z169_, pvI i7z169_, pvI (Mz169_.1 q189_ 0)]) (lo1 := [some (pvR q182_), some (pvI i6z169_), some (pvI i7z169_), some (pvI (Mz169_.1 q189_ 0)), none]) (d1 := d) (rest := [pvI i5z169_]) rfl rfl rfl rfl rfl (fun _ => k183_) (Nat.zero_le _) rfl rfl rfl (sf_X4_minutesFrom_x_x_x_x Mz169_ oz169_ q182_ i6z169_ i7z169_ (Mz169_.1 q189_ 0) k183_ h6z169_ h7z169_ b192_ d) (fun x193_ b195_ => ?_)
            obtain ⟨q199_, b198_⟩ : (Int32.toInt (i5z169_ + x193_) = Int32.toInt i5z169_ + Int32.toInt x193_) ∧ (0 ≤ Int32.toInt (i5z169_ + x193_) ∧ Int32.toInt (i5z169_ + x193_) ≤ 64319) := zadd_r i5z169_ x193_ 0 64319 h5z169_ b195_ (by decide) (by decide) (by decide) (by decide)
            refine pw_blkw hT 10 (pc := 106) (lo := [some (pvR 5), some (pvR 106), some (pvI n2), some (pvI n3), some (pvI n4), some (pvI (i5z169_ + x193_)), some (pvI i6z169_), some (pvI i7z169_), some (pvI i8z169_), some (pvR q182_)]) (st := []) (M := pvu Mz169_ 12 (Int32.toNatClampNeg (Mz169_.1 114 (Int32.toNatClampNeg i8z169_))) (i5z169_ + x193_)) rfl ⟨trivial, trivial, trivial, rfl, trivial, rfl, trivial, ⟨rfl, (zr_in (n := 7) b173_ (by decide) (by decide))⟩, trivial, ⟨rfl, (zr_in (n := 7) b181_ (by decide) (by decide))⟩, trivial⟩ (fun M200_ e201_ => ?_)
            have o202_ : pvOk M200_ := pvok_u2 e201_ oz169_ rfl (zr_wide b198_ (by decide) (by decide))
            have f203_ : pvFr fp_X1_goAlong_5_106_x_x_x M M200_ := pvfr_u e201_ fz169_ rfl
            have b204_ : 0 ≤ Int32.toInt (M200_.1 q182_ 2) ∧ Int32.toInt (M200_.1 q182_ 2) ≤ 3 := pvok_r o202_ q182_ 2 ((pvrg_o 2 k183_ (by decide) (by decide)).trans rfl)
            have b205_ : 0 ≤ Int32.toInt (M200_.1 q182_ 3) ∧ Int32.toInt (M200_.1 q182_ 3) ≤ 4 := pvok_r o202_ q182_ 3 ((pvrg_o 3 k183_ (by decide) (by decide)).trans rfl)
            obtain ⟨q207_, b206_⟩ : (Int32.toInt (i8z169_ + 1) = Int32.toInt i8z169_ + 1) ∧ (1 ≤ Int32.toInt (i8z169_ + 1) ∧ Int32.toInt (i8z169_ + 1) ≤ 7) := zadd_k i8z169_ 1 1 1 7 b173_ (by decide) (by decide) (by decide) (by decide) (by decide)
            refine pw_blk hT 8 (S' := (25, [some (pvR 5), some (pvR 106), some (pvI n2), some (pvI n3), some (pvI n4), some (pvI (i5z169_ + x193_)), some (pvI (M200_.1 q182_ 2)), some (pvI (M200_.1 q182_ 3)), some (pvI (i8z169_ + 1)), some (pvR q182_)], [], M200_)) rfl ⟨trivial, k183_, trivial, trivial, k183_, trivial, trivial, trivial, trivial⟩ ?_
            have j208_ : Int32.toInt (i5z169_ + x193_) ≤ 60000 + 320 * Int32.toInt (i8z169_ + 1) := by omega
            have j209_ : 0 ≤ Int32.toInt (i5z169_ + x193_) := by omega
            exact ihz169_ (i5z169_ + x193_) (M200_.1 q182_ 2) (M200_.1 q182_ 3) (i8z169_ + 1) (some (pvR q182_)) M200_ o202_ f203_ (by have u0 := b198_; omega) b204_ b205_ (zr_wide b206_ (by decide) (by decide)) j208_ j209_ (zhid (pvms_up (zshow hmz169_) h8z169_ q207_ (by decide) (by decide)))
          · have b210_ : 1 ≤ Int32.toInt (Mz169_.1 q182_ 5) ∧ Int32.toInt (Mz169_.1 q182_ 5) ≤ 1 := (by have u0 := b185_; have u1 := (not_congr (zi_eq _ _)).mp c186_; have u2 := (show 0 ≤ Int32.toInt 0 ∧ Int32.toInt 0 ≤ 0 from (by decide)); omega)
            obtain ⟨q212_, b211_⟩ : (Int32.toInt (i8z169_ + 1) = Int32.toInt i8z169_ + 1) ∧ (1 ≤ Int32.toInt (i8z169_ + 1) ∧ Int32.toInt (i8z169_ + 1) ≤ 7) := zadd_k i8z169_ 1 1 1 7 b173_ (by decide) (by decide) (by decide) (by decide) (by decide)
            refine pw_blk hT 3 (S' := (25, [some (pvR 5), some (pvR 106), some (pvI n2), some (pvI n3), some (pvI n4), some (pvI i5z169_), some (pvI i6z169_), some (pvI i7z169_), some (pvI (i8z169_ + 1)), some (pvR q182_)], [], Mz169_)) rfl ⟨trivial, trivial, trivial, trivial⟩ ?_
            have j213_ : Int32.toInt i5z169_ ≤ 60000 + 320 * Int32.toInt (i8z169_ + 1) := by omega
            have j214_ : 0 ≤ Int32.toInt i5z169_ := by omega
            exact ihz169_ i5z169_ i6z169_ i7z169_ (i8z169_ + 1) (some (pvR q182_)) Mz169_ oz169_ fz169_ h5z169_ h6z169_ h7z169_ (zr_wide b211_ (by decide) (by decide)) j213_ j214_ (zhid (pvms_up (zshow hmz169_) h8z169_ q212_ (by decide) (by decide)))
  have j215_ : Int32.toInt n4 ≤ 60000 + 320 * Int32.toInt n2 := by omega
  have j216_ : 0 ≤ Int32.toInt n4 := by omega
  exact hlz169_ _ n4 (M.1 8 6) (M.1 8 7) n2 none M hok pvfr_0 (zr_wide hn4 (by decide) (by decide)) b1_ b2_ hn2 j215_ j216_ (zhid (Nat.lt_succ_self _))
def fpL_X1_costOfTried_5 : List (Nat × Nat × Nat) := [(0, 12, 0)]
def fp_X1_costOfTried_5 (q k : Nat) : Bool := pvfp fpL_X1_costOfTried_5 q k
theorem fp_X1_costOfTried_5_fp_X1_goAlong_5_106_x_x_x (a b : Nat) (h : fp_X1_goAlong_5_106_x_x_x a b = true) : fp_X1_costOfTried_5 a b = true := pvfp_sub (l1 := fpL_X1_goAlong_5_106_x_x_x) (l2 := fpL_X1_costOfTried_5) (by decide) a b h
theorem fp_X1_costOfTried_5_fp_X1_nobodyShuts_5 (a b : Nat) (h : fp_X1_nobodyShuts_5 a b = true) : fp_X1_costOfTried_5 a b = true := pvfp_sub (l1 := fpL_X1_nobodyShuts_5) (l2 := fpL_X1_costOfTried_5) (by decide) a b h
set_option maxHeartbeats 4000000 in
set_option maxRecDepth 10000 in
theorem sf_X1_costOfTried_5 (M : pvM) (hok : pvOk M) (d : Nat) : PW 106 d (0, [some (pvR 5)], [], M) (fun r X => (∃ x : Int32, r = some (pvI x) ∧ True) ∧ pvOk X ∧ pvFr fp_X1_costOfTried_5 M X) := by
  have hT : pvdom 106 = pvD_106 := rfl
  refine pw_blk hT 1 (S' := (1, [some (pvR 5)], [pvR 5], M)) rfl ⟨trivial, trivial⟩ ?_
  refine pw_callV hT (as := [pvR 5]) (lo1 := [some (pvR 5), none]) (d1 := d) (rest := []) rfl rfl rfl rfl rfl (fun _ => rfl) (Nat.zero_le _) rfl rfl rfl (sf_X1_nobodyShuts_5 M hok d) (fun M2_ o4_ g5_ => ?_)
  have f6_ : pvFr fp_X1_costOfTried_5 M M2_ := pvfr_t g5_ pvfr_0 fp_X1_costOfTried_5_fp_X1_nobodyShuts_5
  have b7_ : 0 ≤ Int32.toInt (M2_.1 106 0) ∧ Int32.toInt (M2_.1 106 0) ≤ 7 := pvok_r o4_ 106 0 rfl
  have b8_ : 0 ≤ Int32.toInt (M2_.1 8 4) ∧ Int32.toInt (M2_.1 8 4) ≤ 9999 := pvok_r o4_ 8 4 rfl
  refine pw_blk hT 10 (S' := (24, [some (pvR 5)], [pvI (M2_.1 8 4), pvI (M2_.1 106 0), pvI 0, pvR 106, pvR 5], M2_)) rfl ⟨trivial, trivial, rfl, trivial, trivial, rfl, rfl, trivial, rfl, rfl, trivial⟩ ?_
  refine pw_callG hT (as := [pvR 5, pvR 106, pvI 0, pvI (M2_.1 106 0), pvI (M2_.1 8 4)]) (lo1 := [some (pvR 5), some (pvR 106), some (pvI 0), some (pvI (M2_.1 106 0)), some (pvI (M2_.1 8 4)), none, none, none, none, none]) (d1 := d) (rest := []) rfl rfl rfl rfl rfl (fun _ => rfl) (Nat.zero_le _) rfl rfl rfl (sf_X1_goAlong_5_106_x_x_x M2_ o4_ 0 (M2_.1 106 0) (M2_.1 8 4) (zr_wide (show 0 ≤ Int32.toInt 0 ∧ Int32.toInt 0 ≤ 0 from (by decide)) (by decide) (by decide)) b7_ (zr_wide b8_ (by decide) (by decide)) d) (fun x9_ M10_ b11_ o12_ g13_ => ?_)
  have f14_ : pvFr fp_X1_costOfTried_5 M M10_ := pvfr_t g13_ f6_ fp_X1_costOfTried_5_fp_X1_goAlong_5_106_x_x_x
  refine pw_blk hT 2 (S' := (29, [some (pvR 5)], [pvR 5], M10_)) rfl ⟨trivial, trivial, trivial⟩ ?_
  refine pw_callGp hT (as := [pvR 5]) (lo1 := [some (pvR 5)]) (d1 := d) (rest := []) rfl rfl rfl rfl rfl (fun _ => rfl) (Nat.zero_le _) rfl rfl rfl (sf_X1_cost_5 M10_ o12_ d) (fun x15_ b17_ => ?_)
  exact pw_ret hT rfl (r := some (pvI x15_)) (M' := M10_) ⟨rfl, rfl⟩ ⟨⟨_, rfl, trivial⟩, o12_, f14_⟩
def fpL_X6_clear_107 : List (Nat × Nat × Nat) := [(0, 107, 1)]
def fp_X6_clear_107 (q k : Nat) : Bool := pvfp fpL_X6_clear_107 q k
set_option maxHeartbeats 4000000 in
set_option maxRecDepth 10000 in
theorem sf_X6_clear_107 (M : pvM) (hok : pvOk M) (d : Nat) : PW 153 d (0, [some (pvR 107)], [], M) (fun r X => (∃ x : Int32, r = some (pvI x) ∧ 0 ≤ Int32.toInt x ∧ Int32.toInt x ≤ 0) ∧ pvOk X ∧ pvFr fp_X6_clear_107 M X) := by
  have hT : pvdom 153 = pvD_153 := rfl
  refine pw_blkw hT 3 (pc := 5) (lo := [some (pvR 107)]) (st := []) (M := pvu M 107 0 0) rfl ⟨trivial, trivial, rfl, trivial⟩ (fun M1_ e2_ => ?_)
  have o3_ : pvOk M1_ := pvok_u2 e2_ hok rfl (zr_wide (show 0 ≤ Int32.toInt 0 ∧ Int32.toInt 0 ≤ 0 from (by decide)) (by decide) (by decide))
  have f4_ : pvFr fp_X6_clear_107 M M1_ := pvfr_u e2_ pvfr_0 rfl
  refine pw_blk hT 1 (S' := (6, [some (pvR 107)], [pvI 0], M1_)) rfl ⟨trivial, trivial⟩ ?_
  exact pw_ret hT rfl (r := some (pvI 0)) (M' := M1_) ⟨rfl, rfl⟩ ⟨⟨_, rfl, (show 0 ≤ Int32.toInt 0 ∧ Int32.toInt 0 ≤ 0 from (by decide))⟩, o3_, f4_⟩
set_option maxHeartbeats 4000000 in
set_option maxRecDepth 10000 in
theorem sf_X6_isFull_107 (M : pvM) (hok : pvOk M) (d : Nat) : PW 154 d (0, [some (pvR 107)], [], M) (fun r X => r = some (pvI ((if (M.1 107 0) < (Int32.ofNat 7) then 0 else 1))) ∧ X = M) := by
  have hT : pvdom 154 = pvD_154 := rfl
  have b1_ : 0 ≤ Int32.toInt (M.1 107 0) ∧ Int32.toInt (M.1 107 0) ≤ 7 := pvok_r hok 107 0 rfl
  refine pw_blk hT 5 (S' := (9, [some (pvR 107)], [pvI (Int32.ofNat 7), pvI (M.1 107 0)], M)) rfl ⟨trivial, rfl, trivial, rfl, rfl, trivial⟩ ?_
  refine pw_ic hT (c := (M.1 107 0) < (Int32.ofNat 7)) rfl rfl (fun c2_ => ?_) (fun c2_ => ?_)
  · have b3_ : 0 ≤ Int32.toInt (M.1 107 0) ∧ Int32.toInt (M.1 107 0) ≤ 6 := zr_lt_l 6 c2_ b1_ (show 7 ≤ Int32.toInt (Int32.ofNat 7) ∧ Int32.toInt (Int32.ofNat 7) ≤ 7 from (by decide)) (by decide)
    refine pw_blk hT 1 (S' := (17, [some (pvR 107)], [pvI 0], M)) rfl ⟨trivial, trivial⟩ ?_
    exact pw_ret hT rfl (r := some (pvI 0)) (M' := M) ⟨Or.inl rfl, rfl, rfl⟩ ⟨(by rw [if_pos c2_]), rfl⟩
  · have b4_ : 7 ≤ Int32.toInt (M.1 107 0) ∧ Int32.toInt (M.1 107 0) ≤ 7 := zr_nlt_l 7 c2_ b1_ (show 7 ≤ Int32.toInt (Int32.ofNat 7) ∧ Int32.toInt (Int32.ofNat 7) ≤ 7 from (by decide)) (by decide)
    refine pw_blk hT 2 (S' := (17, [some (pvR 107)], [pvI 1], M)) rfl ⟨trivial, trivial, trivial⟩ ?_
    exact pw_ret hT rfl (r := some (pvI 1)) (M' := M) ⟨Or.inr rfl, rfl, rfl⟩ ⟨(by rw [if_neg c2_]), rfl⟩
def fpL_X6_append_107_x_x : List (Nat × Nat × Nat) := [(0, 107, 1), (0, 115, 0), (0, 123, 0)]
def fp_X6_append_107_x_x (q k : Nat) : Bool := pvfp fpL_X6_append_107_x_x q k
set_option maxHeartbeats 4000000 in
set_option maxRecDepth 10000 in
theorem sf_X6_append_107_x_x (M : pvM) (hok : pvOk M) (n1 : Int32) (n2 : Int32) (hn1 : 0 ≤ Int32.toInt n1 ∧ Int32.toInt n1 ≤ 6) (hn2 : 0 ≤ Int32.toInt n2 ∧ Int32.toInt n2 ≤ 9999) (d : Nat) : PW 151 d (0, [some (pvR 107), some (pvI n1), some (pvI n2)], [], M) (fun r X => (∃ x : Int32, r = some (pvI x) ∧ 1 ≤ Int32.toInt x ∧ Int32.toInt x ≤ 7) ∧ pvOk X ∧ pvFr fp_X6_append_107_x_x M X) := by
  have hT : pvdom 151 = pvD_151 := rfl
  refine pw_blk hT 1 (S' := (1, [some (pvR 107), some (pvI n1), some (pvI n2)], [pvR 107], M)) rfl ⟨trivial, trivial⟩ ?_
  refine pw_callT hT (as := [pvR 107]) (lo1 := [some (pvR 107)]) (d1 := d) (rest := []) rfl rfl rfl rfl rfl (fun _ => rfl) (Nat.zero_le _) rfl rfl rfl (sf_X6_isFull_107 M hok d) ?_
  have b6_ : 0 ≤ Int32.toInt (M.1 107 0) ∧ Int32.toInt (M.1 107 0) ≤ 7 := pvok_r hok 107 0 rfl
  by_cases c7_ : (M.1 107 0) < (Int32.ofNat 7)
  · refine pw_eqI (if_pos c7_) ?_
    have b8_ : 0 ≤ Int32.toInt (M.1 107 0) ∧ Int32.toInt (M.1 107 0) ≤ 6 := zr_lt_l 6 c7_ b6_ (show 7 ≤ Int32.toInt (Int32.ofNat 7) ∧ Int32.toInt (Int32.ofNat 7) ≤ 7 from (by decide)) (by decide)
    show PW 151 d (4, [some (pvR 107), some (pvI n1), some (pvI n2)], [pvI 0], M) _
    refine pw_if hT (c := 0 = 0) rfl rfl (fun c9_ => ?_) (fun c9_ => absurd (by decide) c9_)
    refine pw_blkw hT 6 (pc := 22) (lo := [some (pvR 107), some (pvI n1), some (pvI n2)]) (st := []) (M := pvu M 115 (Int32.toNatClampNeg (M.1 107 0)) n1) rfl ⟨trivial, rfl, trivial, rfl, trivial, ⟨rfl, (zr_in (n := 7) b8_ (by decide) (by decide))⟩, trivial⟩ (fun M10_ e11_ => ?_)
    have o12_ : pvOk M10_ := pvok_u2 e11_ hok rfl hn1
    have f13_ : pvFr fp_X6_append_107_x_x M M10_ := pvfr_u e11_ pvfr_0 rfl
    have e14_ : (M10_.1 107 0) = (M.1 107 0) := (pvu_n e11_ 107 0 (Or.inl (by decide)))
    have b15_ : 0 ≤ Int32.toInt (M10_.1 107 0) ∧ Int32.toInt (M10_.1 107 0) ≤ 6 := (by rw [e14_]; exact b8_)
    refine pw_blkw hT 6 (pc := 32) (lo := [some (pvR 107), some (pvI n1), some (pvI n2)]) (st := []) (M := pvu M10_ 123 (Int32.toNatClampNeg (M10_.1 107 0)) n2) rfl ⟨trivial, rfl, trivial, rfl, trivial, ⟨rfl, (zr_in (n := 7) b15_ (by decide) (by decide))⟩, trivial⟩ (fun M16_ e17_ => ?_)
    have o18_ : pvOk M16_ := pvok_u2 e17_ o12_ rfl hn2
    have f19_ : pvFr fp_X6_append_107_x_x M M16_ := pvfr_u e17_ f13_ rfl
    have e20_ : (M16_.1 107 0) = (M10_.1 107 0) := (pvu_n e17_ 107 0 (Or.inl (by decide)))
    have b21_ : 0 ≤ Int32.toInt (M16_.1 107 0) ∧ Int32.toInt (M16_.1 107 0) ≤ 6 := (by rw [e20_]; exact b15_)
    obtain ⟨q23_, b22_⟩ : (Int32.toInt ((M16_.1 107 0) + 1) = Int32.toInt (M16_.1 107 0) + 1) ∧ (1 ≤ Int32.toInt ((M16_.1 107 0) + 1) ∧ Int32.toInt ((M16_.1 107 0) + 1) ≤ 7) := zadd_k (M16_.1 107 0) 1 1 1 7 b21_ (by decide) (by decide) (by decide) (by decide) (by decide)
    refine pw_blkw hT 6 (pc := 42) (lo := [some (pvR 107), some (pvI n1), some (pvI n2)]) (st := []) (M := pvu M16_ 107 0 ((M16_.1 107 0) + 1)) rfl ⟨trivial, trivial, rfl, trivial, trivial, rfl, trivial⟩ (fun M24_ e25_ => ?_)
    have o26_ : pvOk M24_ := pvok_u2 e25_ o18_ rfl (zr_wide b22_ (by decide) (by decide))
    have f27_ : pvFr fp_X6_append_107_x_x M M24_ := pvfr_u e25_ f19_ rfl
    have e28_ : (M24_.1 107 0) = ((M16_.1 107 0) + 1) := (pvu_s e25_)
    have b29_ : 1 ≤ Int32.toInt (M24_.1 107 0) ∧ Int32.toInt (M24_.1 107 0) ≤ 7 := (by rw [e28_]; exact b22_)
    refine pw_blk hT 2 (S' := (46, [some (pvR 107), some (pvI n1), some (pvI n2)], [pvI (M24_.1 107 0)], M24_)) rfl ⟨trivial, rfl, trivial⟩ ?_
    exact pw_ret hT rfl (r := some (pvI (M24_.1 107 0))) (M' := M24_) ⟨rfl, rfl⟩ ⟨⟨_, rfl, b29_⟩, o26_, f27_⟩
  · refine pw_eqI (if_neg c7_) ?_
    have b30_ : 7 ≤ Int32.toInt (M.1 107 0) ∧ Int32.toInt (M.1 107 0) ≤ 7 := zr_nlt_l 7 c7_ b6_ (show 7 ≤ Int32.toInt (Int32.ofNat 7) ∧ Int32.toInt (Int32.ofNat 7) ≤ 7 from (by decide)) (by decide)
    show PW 151 d (4, [some (pvR 107), some (pvI n1), some (pvI n2)], [pvI 1], M) _
    refine pw_if hT (c := 1 = 0) rfl rfl (fun c31_ => absurd c31_ (by decide)) (fun c31_ => ?_)
    refine pw_blk hT 2 (S' := (11, [some (pvR 107), some (pvI n1), some (pvI n2)], [pvI (M.1 107 0)], M)) rfl ⟨trivial, rfl, trivial⟩ ?_
    exact pw_ret hT rfl (r := some (pvI (M.1 107 0))) (M' := M) ⟨rfl, rfl⟩ ⟨⟨_, rfl, (zr_wide b30_ (by decide) (by decide))⟩, hok, pvfr_0⟩
def fpL_X6_becomeAs_107_106 : List (Nat × Nat × Nat) := [(0, 107, 1), (0, 115, 0), (0, 123, 0)]
def fp_X6_becomeAs_107_106 (q k : Nat) : Bool := pvfp fpL_X6_becomeAs_107_106 q k
theorem fp_X6_becomeAs_107_106_fp_X6_append_107_x_x (a b : Nat) (h : fp_X6_append_107_x_x a b = true) : fp_X6_becomeAs_107_106 a b = true := pvfp_sub (l1 := fpL_X6_append_107_x_x) (l2 := fpL_X6_becomeAs_107_106) (by decide) a b h
theorem fp_X6_becomeAs_107_106_fp_X6_clear_107 (a b : Nat) (h : fp_X6_clear_107 a b = true) : fp_X6_becomeAs_107_106 a b = true := pvfp_sub (l1 := fpL_X6_clear_107) (l2 := fpL_X6_becomeAs_107_106) (by decide) a b h
set_option maxHeartbeats 4000000 in
set_option maxRecDepth 10000 in
theorem sf_X6_becomeAs_107_106 (M : pvM) (hok : pvOk M) (d : Nat) : PW 152 d (0, [some (pvR 107), some (pvR 106), none], [], M) (fun r X => r = none ∧ pvOk X ∧ pvFr fp_X6_becomeAs_107_106 M X) := by
  have hT : pvdom 152 = pvD_152 := rfl
  refine pw_blk hT 1 (S' := (1, [some (pvR 107), some (pvR 106), none], [pvR 107], M)) rfl ⟨trivial, trivial⟩ ?_
  refine pw_callG hT (as := [pvR 107]) (lo1 := [some (pvR 107)]) (d1 := d) (rest := []) rfl rfl rfl rfl rfl (fun _ => rfl) (Nat.zero_le _) rfl rfl rfl (sf_X6_clear_107 M hok d) (fun x1_ M2_ b3_ o4_ g5_ => ?_)
  have f6_ : pvFr fp_X6_becomeAs_107_106 M M2_ := pvfr_t g5_ pvfr_0 fp_X6_becomeAs_107_106_fp_X6_clear_107
  refine pw_blk hT 3 (S' := (7, [some (pvR 107), some (pvR 106), some (pvI 0)], [], M2_)) rfl ⟨trivial, trivial, trivial, trivial⟩ ?_
  have hlz75_ : ∀ (nz75_ : Nat) (i2z75_ : Int32) (Mz75_ : pvM), (pvOk Mz75_) → (pvFr fp_X6_becomeAs_107_106 M Mz75_) → (0 ≤ Int32.toInt i2z75_ ∧ Int32.toInt i2z75_ ≤ 7) → (zhide ((8 - Int32.toInt i2z75_).toNat < nz75_)) → PW 152 d (7, [some (pvR 107), some (pvR 106), some (pvI i2z75_)], [], Mz75_) (fun r X => r = none ∧ pvOk X ∧ pvFr fp_X6_becomeAs_107_106 M X) := by
    intro nz75_
    induction nz75_ with
    | zero => intro i2z75_ Mz75_ oz75_ fz75_ h2z75_ hmz75_; exact absurd (zshow hmz75_) (Nat.not_lt_zero _)
    | succ nz75_ ihz75_ =>
      intro i2z75_ Mz75_ oz75_ fz75_ h2z75_ hmz75_
      have b76_ : 0 ≤ Int32.toInt (Mz75_.1 106 0) ∧ Int32.toInt (Mz75_.1 106 0) ≤ 7 := pvok_r oz75_ 106 0 rfl
      refine pw_blk hT 3 (S' := (12, [some (pvR 107), some (pvR 106), some (pvI i2z75_)], [pvI (Mz75_.1 106 0), pvI i2z75_], Mz75_)) rfl ⟨trivial, trivial, rfl, trivial⟩ ?_
      refine pw_ic hT (c := (Mz75_.1 106 0) ≤ i2z75_) rfl rfl (fun c77_ => ?_) (fun c77_ => ?_)
      · have d78_ : Int32.toInt (Mz75_.1 106 0) ≤ Int32.toInt i2z75_ := (zi_le _ _).mp c77_
        exact pw_ret hT rfl (r := none) (M' := Mz75_) ⟨rfl, rfl⟩ ⟨rfl, oz75_, fz75_⟩
      · have b79_ : 1 ≤ Int32.toInt (Mz75_.1 106 0) ∧ Int32.toInt (Mz75_.1 106 0) ≤ 7 := zr_nle_l 1 c77_ b76_ h2z75_ (by decide)
        have b80_ : 0 ≤ Int32.toInt i2z75_ ∧ Int32.toInt i2z75_ ≤ 6 := zr_nle_r 6 c77_ h2z75_ b79_ (by decide)
        have d81_ : Int32.toInt (Mz75_.1 106 0) > Int32.toInt i2z75_ := Int.not_le.mp ((not_congr (zi_le _ _)).mp c77_)
        have b82_ : 0 ≤ Int32.toInt (Mz75_.1 114 (Int32.toNatClampNeg i2z75_)) ∧ Int32.toInt (Mz75_.1 114 (Int32.toNatClampNeg i2z75_)) ≤ 6 := pvok_r oz75_ 114 (Int32.toNatClampNeg i2z75_) rfl
        have b83_ : 0 ≤ Int32.toInt (Mz75_.1 122 (Int32.toNatClampNeg i2z75_)) ∧ Int32.toInt (Mz75_.1 122 (Int32.toNatClampNeg i2z75_)) ≤ 9999 := pvok_r oz75_ 122 (Int32.toNatClampNeg i2z75_) rfl
        refine pw_blk hT 9 (S' := (28, [some (pvR 107), some (pvR 106), some (pvI i2z75_)], [pvI (Mz75_.1 122 (Int32.toNatClampNeg i2z75_)), pvI (Mz75_.1 114 (Int32.toNatClampNeg i2z75_)), pvR 107], Mz75_)) rfl ⟨trivial, trivial, rfl, trivial, ⟨rfl, (zr_in (n := 7) b80_ (by decide) (by decide))⟩, trivial, rfl, trivial, ⟨rfl, (zr_in (n := 7) b80_ (by decide) (by decide))⟩, trivial⟩ ?_
        refine pw_callG hT (as := [pvR 107, pvI (Mz75_.1 114 (Int32.toNatClampNeg i2z75_)), pvI (Mz75_.1 122 (Int32.toNatClampNeg i2z75_))]) (lo1 := [some (pvR 107), some (pvI (Mz75_.1 114 (Int32.toNatClampNeg i2z75_))), some (pvI (Mz75_.1 122 (Int32.toNatClampNeg i2z75_)))]) (d1 := d) (rest := []) rfl rfl rfl rfl rfl (fun _ => rfl) (Nat.zero_le _) rfl rfl rfl (sf_X6_append_107_x_x Mz75_ oz75_ (Mz75_.1 114 (Int32.toNatClampNeg i2z75_)) (Mz75_.1 122 (Int32.toNatClampNeg i2z75_)) b82_ b83_ d) (fun x84_ M85_ b86_ o87_ g88_ => ?_)
        have f89_ : pvFr fp_X6_becomeAs_107_106 M M85_ := pvfr_t g88_ fz75_ fp_X6_becomeAs_107_106_fp_X6_append_107_x_x
        obtain ⟨q91_, b90_⟩ : (Int32.toInt (i2z75_ + 1) = Int32.toInt i2z75_ + 1) ∧ (1 ≤ Int32.toInt (i2z75_ + 1) ∧ Int32.toInt (i2z75_ + 1) ≤ 7) := zadd_k i2z75_ 1 1 1 7 b80_ (by decide) (by decide) (by decide) (by decide) (by decide)
        refine pw_blk hT 3 (S' := (7, [some (pvR 107), some (pvR 106), some (pvI (i2z75_ + 1))], [], M85_)) rfl ⟨trivial, trivial, trivial, trivial⟩ ?_
        exact ihz75_ (i2z75_ + 1) M85_ o87_ f89_ (zr_wide b90_ (by decide) (by decide)) (zhid (pvms_up (zshow hmz75_) h2z75_ q91_ (by decide) (by decide)))
  exact hlz75_ _ 0 M2_ o4_ f6_ (zr_wide (show 0 ≤ Int32.toInt 0 ∧ Int32.toInt 0 ≤ 0 from (by decide)) (by decide) (by decide)) (zhid (Nat.lt_succ_self _))
def fpL_X6_swap_106_x_x : List (Nat × Nat × Nat) := [(0, 114, 0)]
def fp_X6_swap_106_x_x (q k : Nat) : Bool := pvfp fpL_X6_swap_106_x_x q k
set_option maxHeartbeats 4000000 in
set_option maxRecDepth 10000 in
theorem sf_X6_swap_106_x_x (M : pvM) (hok : pvOk M) (n1 : Int32) (n2 : Int32) (hn1 : 0 ≤ Int32.toInt n1 ∧ Int32.toInt n1 ≤ 6) (hn2 : 0 ≤ Int32.toInt n2 ∧ Int32.toInt n2 ≤ 6) (d : Nat) : PW 157 d (0, [some (pvR 106), some (pvI n1), some (pvI n2), none], [], M) (fun r X => r = none ∧ pvOk X ∧ pvFr fp_X6_swap_106_x_x M X) := by
  have hT : pvdom 157 = pvD_157 := rfl
  have b1_ : 0 ≤ Int32.toInt (M.1 114 (Int32.toNatClampNeg n1)) ∧ Int32.toInt (M.1 114 (Int32.toNatClampNeg n1)) ≤ 6 := pvok_r hok 114 (Int32.toNatClampNeg n1) rfl
  have b2_ : 0 ≤ Int32.toInt (M.1 114 (Int32.toNatClampNeg n2)) ∧ Int32.toInt (M.1 114 (Int32.toNatClampNeg n2)) ≤ 6 := pvok_r hok 114 (Int32.toNatClampNeg n2) rfl
  refine pw_blkw hT 13 (pc := 19) (lo := [some (pvR 106), some (pvI n1), some (pvI n2), some (pvI (M.1 114 (Int32.toNatClampNeg n1)))]) (st := []) (M := pvu M 114 (Int32.toNatClampNeg n1) (M.1 114 (Int32.toNatClampNeg n2))) rfl ⟨trivial, rfl, trivial, ⟨rfl, (zr_in (n := 7) hn1 (by decide) (by decide))⟩, trivial, trivial, rfl, trivial, trivial, rfl, trivial, ⟨rfl, (zr_in (n := 7) hn2 (by decide) (by decide))⟩, ⟨rfl, (zr_in (n := 7) hn1 (by decide) (by decide))⟩, trivial⟩ (fun M3_ e4_ => ?_)
  have o5_ : pvOk M3_ := pvok_u2 e4_ hok rfl b2_
  have f6_ : pvFr fp_X6_swap_106_x_x M M3_ := pvfr_u e4_ pvfr_0 rfl
  refine pw_blkw hT 5 (pc := 26) (lo := [some (pvR 106), some (pvI n1), some (pvI n2), some (pvI (M.1 114 (Int32.toNatClampNeg n1)))]) (st := []) (M := pvu M3_ 114 (Int32.toNatClampNeg n2) (M.1 114 (Int32.toNatClampNeg n1))) rfl ⟨trivial, rfl, trivial, trivial, ⟨rfl, (zr_in (n := 7) hn2 (by decide) (by decide))⟩, trivial⟩ (fun M7_ e8_ => ?_)
  have o9_ : pvOk M7_ := pvok_u2 e8_ o5_ rfl b1_
  have f10_ : pvFr fp_X6_swap_106_x_x M M7_ := pvfr_u e8_ f6_ rfl
  exact pw_ret hT rfl (r := none) (M' := M7_) ⟨rfl, rfl⟩ ⟨rfl, o9_, f10_⟩
def fpL_X6_permute_106 : List (Nat × Nat × Nat) := [(0, 114, 0)]
def fp_X6_permute_106 (q k : Nat) : Bool := pvfp fpL_X6_permute_106 q k
theorem fp_X6_permute_106_fp_X6_swap_106_x_x (a b : Nat) (h : fp_X6_swap_106_x_x a b = true) : fp_X6_permute_106 a b = true := pvfp_sub (l1 := fpL_X6_swap_106_x_x) (l2 := fpL_X6_permute_106) (by decide) a b h
set_option maxHeartbeats 4000000 in
set_option maxRecDepth 10000 in
theorem sf_X6_permute_106 (M : pvM) (hok : pvOk M) (d : Nat) : PW 156 d (0, [some (pvR 106), none, none, none, none], [], M) (fun r X => (∃ x : Int32, r = some (pvI x) ∧ 0 ≤ Int32.toInt x ∧ Int32.toInt x ≤ 1) ∧ pvOk X ∧ pvFr fp_X6_permute_106 M X) := by
  have hT : pvdom 156 = pvD_156 := rfl
  have b1_ : 0 ≤ Int32.toInt (M.1 106 0) ∧ Int32.toInt (M.1 106 0) ≤ 7 := pvok_r hok 106 0 rfl
  obtain ⟨q3_, b2_⟩ : (Int32.toInt ((M.1 106 0) - 2) = Int32.toInt (M.1 106 0) - 2) ∧ ((-2) ≤ Int32.toInt ((M.1 106 0) - 2) ∧ Int32.toInt ((M.1 106 0) - 2) ≤ 5) := zsub_k (M.1 106 0) 2 2 (-2) 5 b1_ (by decide) (by decide) (by decide) (by decide) (by decide)
  refine pw_blk hT 5 (S' := (7, [some (pvR 106), some (pvI ((M.1 106 0) - 2)), none, none, none], [], M)) rfl ⟨trivial, rfl, trivial, trivial, trivial, trivial⟩ ?_
  have hlz408_ : ∀ (nz408_ : Nat) (i1z408_ : Int32), ((-2) ≤ Int32.toInt i1z408_ ∧ Int32.toInt i1z408_ ≤ 5) → (Int32.toInt i1z408_ ≤ Int32.toInt (M.1 106 0) - 2) → (zhide ((Int32.toInt i1z408_ + 3).toNat < nz408_)) → PW 156 d (7, [some (pvR 106), some (pvI i1z408_), none, none, none], [], M) (fun r X => (∃ x : Int32, r = some (pvI x) ∧ 0 ≤ Int32.toInt x ∧ Int32.toInt x ≤ 1) ∧ pvOk X ∧ pvFr fp_X6_permute_106 M X) := by
    intro nz408_
    induction nz408_ with
    | zero => intro i1z408_ h1z408_ j0z408_ hmz408_; exact absurd (zshow hmz408_) (Nat.not_lt_zero _)
    | succ nz408_ ihz408_ =>
      intro i1z408_ h1z408_ j0z408_ hmz408_
      refine pw_blk hT 1 (S' := (8, [some (pvR 106), some (pvI i1z408_), none, none, none], [pvI i1z408_], M)) rfl ⟨trivial, trivial⟩ ?_
      refine pw_if hT (c := i1z408_ < 0) rfl rfl (fun c409_ => ?_) (fun c409_ => ?_)
      · have b410_ : (-2) ≤ Int32.toInt i1z408_ ∧ Int32.toInt i1z408_ ≤ (-1) := zr_lt_l (-1) c409_ h1z408_ (show 0 ≤ Int32.toInt 0 ∧ Int32.toInt 0 ≤ 0 from (by decide)) (by decide)
        refine pw_blk hT 1 (S' := (35, [some (pvR 106), some (pvI i1z408_), none, none, none], [pvI i1z408_], M)) rfl ⟨trivial, trivial⟩ ?_
        refine pw_if hT (c := 0 ≤ i1z408_) rfl rfl (fun c411_ => absurd c411_ (by have z0 := (show 0 ≤ Int32.toInt 0 ∧ Int32.toInt 0 ≤ 0 from (by decide)); have z1 := b410_; rw [zi_le]; omega)) (fun c411_ => ?_)
        refine pw_blk hT 1 (S' := (39, [some (pvR 106), some (pvI i1z408_), none, none, none], [pvI 0], M)) rfl ⟨trivial, trivial⟩ ?_
        exact pw_ret hT rfl (r := some (pvI 0)) (M' := M) ⟨Or.inl rfl, rfl, rfl⟩ ⟨⟨_, rfl, (zr_wide (show 0 ≤ Int32.toInt 0 ∧ Int32.toInt 0 ≤ 0 from (by decide)) (by decide) (by decide))⟩, hok, pvfr_0⟩
      · have b412_ : 0 ≤ Int32.toInt i1z408_ ∧ Int32.toInt i1z408_ ≤ 5 := zr_nlt_l 0 c409_ h1z408_ (show 0 ≤ Int32.toInt 0 ∧ Int32.toInt 0 ≤ 0 from (by decide)) (by decide)
        have b413_ : 0 ≤ Int32.toInt (M.1 114 (Int32.toNatClampNeg i1z408_)) ∧ Int32.toInt (M.1 114 (Int32.toNatClampNeg i1z408_)) ≤ 6 := pvok_r hok 114 (Int32.toNatClampNeg i1z408_) rfl
        obtain ⟨q415_, b414_⟩ : (Int32.toInt (i1z408_ + 1) = Int32.toInt i1z408_ + 1) ∧ (1 ≤ Int32.toInt (i1z408_ + 1) ∧ Int32.toInt (i1z408_ + 1) ≤ 6) := zadd_k i1z408_ 1 1 1 6 b412_ (by decide) (by decide) (by decide) (by decide) (by decide)
        have b416_ : 0 ≤ Int32.toInt (M.1 114 (Int32.toNatClampNeg (i1z408_ + 1))) ∧ Int32.toInt (M.1 114 (Int32.toNatClampNeg (i1z408_ + 1))) ≤ 6 := pvok_r hok 114 (Int32.toNatClampNeg (i1z408_ + 1)) rfl
        refine pw_blk hT 10 (S' := (25, [some (pvR 106), some (pvI i1z408_), none, none, none], [pvI (M.1 114 (Int32.toNatClampNeg (i1z408_ + 1))), pvI (M.1 114 (Int32.toNatClampNeg i1z408_))], M)) rfl ⟨trivial, rfl, trivial, ⟨rfl, (zr_in (n := 7) b412_ (by decide) (by decide))⟩, trivial, rfl, trivial, trivial, trivial, ⟨rfl, (zr_in (n := 7) b414_ (by decide) (by decide))⟩, trivial⟩ ?_
        refine pw_ic hT (c := (M.1 114 (Int32.toNatClampNeg i1z408_)) < (M.1 114 (Int32.toNatClampNeg (i1z408_ + 1)))) rfl rfl (fun c417_ => ?_) (fun c417_ => ?_)
        · have b418_ : 0 ≤ Int32.toInt (M.1 114 (Int32.toNatClampNeg i1z408_)) ∧ Int32.toInt (M.1 114 (Int32.toNatClampNeg i1z408_)) ≤ 5 := zr_lt_l 5 c417_ b413_ b416_ (by decide)
          have b419_ : 1 ≤ Int32.toInt (M.1 114 (Int32.toNatClampNeg (i1z408_ + 1))) ∧ Int32.toInt (M.1 114 (Int32.toNatClampNeg (i1z408_ + 1))) ≤ 6 := zr_lt_r 1 c417_ b416_ b418_ (by decide)
          have d420_ : Int32.toInt (M.1 114 (Int32.toNatClampNeg i1z408_)) < Int32.toInt (M.1 114 (Int32.toNatClampNeg (i1z408_ + 1))) := (zi_lt _ _).mp c417_
          refine pw_blk hT 1 (S' := (35, [some (pvR 106), some (pvI i1z408_), none, none, none], [pvI i1z408_], M)) rfl ⟨trivial, trivial⟩ ?_
          refine pw_if hT (c := 0 ≤ i1z408_) rfl rfl (fun c421_ => ?_) (fun c421_ => absurd (by have z0 := (show 0 ≤ Int32.toInt 0 ∧ Int32.toInt 0 ≤ 0 from (by decide)); have z1 := b412_; rw [zi_le]; omega) c421_)
          obtain ⟨q423_, b422_⟩ : (Int32.toInt ((M.1 106 0) - 1) = Int32.toInt (M.1 106 0) - 1) ∧ ((-1) ≤ Int32.toInt ((M.1 106 0) - 1) ∧ Int32.toInt ((M.1 106 0) - 1) ≤ 6) := zsub_k (M.1 106 0) 1 1 (-1) 6 b1_ (by decide) (by decide) (by decide) (by decide) (by decide)
          refine pw_blk hT 5 (S' := (47, [some (pvR 106), some (pvI i1z408_), some (pvI ((M.1 106 0) - 1)), none, none], [], M)) rfl ⟨trivial, rfl, trivial, trivial, trivial, trivial⟩ ?_
          have hlz680_ : ∀ (nz680_ : Nat) (i2z680_ : Int32), (0 ≤ Int32.toInt i2z680_ ∧ Int32.toInt i2z680_ ≤ 6) → (Int32.toInt i1z408_ ≤ Int32.toInt i2z680_) → (zhide ((Int32.toInt i2z680_ + 1).toNat < nz680_)) → PW 156 d (47, [some (pvR 106), some (pvI i1z408_), some (pvI i2z680_), none, none], [], M) (fun r X => (∃ x : Int32, r = some (pvI x) ∧ 0 ≤ Int32.toInt x ∧ Int32.toInt x ≤ 1) ∧ pvOk X ∧ pvFr fp_X6_permute_106 M X) := by
            intro nz680_
            induction nz680_ with
            | zero => intro i2z680_ h2z680_ j0z680_ hmz680_; exact absurd (zshow hmz680_) (Nat.not_lt_zero _)
            | succ nz680_ ihz680_ =>
              intro i2z680_ h2z680_ j0z680_ hmz680_
              refine pw_blk hT 2 (S' := (49, [some (pvR 106), some (pvI i1z408_), some (pvI i2z680_), none, none], [pvI i1z408_, pvI i2z680_], M)) rfl ⟨trivial, trivial, trivial⟩ ?_
              refine pw_ic hT (c := i2z680_ ≤ i1z408_) rfl rfl (fun c681_ => ?_) (fun c681_ => ?_)
              · have b682_ : 0 ≤ Int32.toInt i2z680_ ∧ Int32.toInt i2z680_ ≤ 5 := zr_le_l 5 c681_ h2z680_ b412_ (by decide)
                have d683_ : Int32.toInt i2z680_ ≤ Int32.toInt i1z408_ := (zi_le _ _).mp c681_
                refine pw_blk hT 3 (S' := (76, [some (pvR 106), some (pvI i1z408_), some (pvI i2z680_), none, none], [pvI i2z680_, pvI i1z408_, pvR 106], M)) rfl ⟨trivial, trivial, trivial, trivial⟩ ?_
                refine pw_callV hT (as := [pvR 106, pvI i1z408_, pvI i2z680_]) (lo1 := [some (pvR 106), some (pvI i1z408_), some (pvI i2z680_), none]) (d1 := d) (rest := []) rfl rfl rfl rfl rfl (fun _ => rfl) (Nat.zero_le _) rfl rfl rfl (sf_X6_swap_106_x_x M hok i1z408_ i2z680_ (zr_wide b412_ (by decide) (by decide)) (zr_wide b682_ (by decide) (by decide)) d) (fun M685_ o687_ g688_ => ?_)
                have f689_ : pvFr fp_X6_permute_106 M M685_ := pvfr_t g688_ pvfr_0 fp_X6_permute_106_fp_X6_swap_106_x_x
                have b690_ : 0 ≤ Int32.toInt (M685_.1 106 0) ∧ Int32.toInt (M685_.1 106 0) ≤ 7 := pvok_r o687_ 106 0 rfl
                obtain ⟨q692_, b691_⟩ : (Int32.toInt ((M685_.1 106 0) - 1) = Int32.toInt (M685_.1 106 0) - 1) ∧ ((-1) ≤ Int32.toInt ((M685_.1 106 0) - 1) ∧ Int32.toInt ((M685_.1 106 0) - 1) ≤ 6) := zsub_k (M685_.1 106 0) 1 1 (-1) 6 b690_ (by decide) (by decide) (by decide) (by decide) (by decide)
                refine pw_blk hT 9 (S' := (91, [some (pvR 106), some (pvI i1z408_), some (pvI i2z680_), some (pvI (i1z408_ + 1)), some (pvI ((M685_.1 106 0) - 1))], [], M685_)) rfl ⟨trivial, trivial, trivial, trivial, trivial, rfl, trivial, trivial, trivial, trivial⟩ ?_
                have hlz725_ : ∀ (nz725_ : Nat) (i3z725_ : Int32) (i4z725_ : Int32) (Mz725_ : pvM), (pvOk Mz725_) → (pvFr fp_X6_permute_106 M Mz725_) → (1 ≤ Int32.toInt i3z725_ ∧ Int32.toInt i3z725_ ≤ 6) → ((-1) ≤ Int32.toInt i4z725_ ∧ Int32.toInt i4z725_ ≤ 6) → (zhide ((7 - Int32.toInt i3z725_).toNat < nz725_)) → PW 156 d (91, [some (pvR 106), some (pvI i1z408_), some (pvI i2z680_), some (pvI i3z725_), some (pvI i4z725_)], [], Mz725_) (fun r X => (∃ x : Int32, r = some (pvI x) ∧ 0 ≤ Int32.toInt x ∧ Int32.toInt x ≤ 1) ∧ pvOk X ∧ pvFr fp_X6_permute_106 M X) := by
                  intro nz725_
                  induction nz725_ with
                  | zero => intro i3z725_ i4z725_ Mz725_ oz725_ fz725_ h3z725_ h4z725_ hmz725_; exact absurd (zshow hmz725_) (Nat.not_lt_zero _)
                  | succ nz725_ ihz725_ =>
                    intro i3z725_ i4z725_ Mz725_ oz725_ fz725_ h3z725_ h4z725_ hmz725_
                    refine pw_blk hT 2 (S' := (94, [some (pvR 106), some (pvI i1z408_), some (pvI i2z680_), some (pvI i3z725_), some (pvI i4z725_)], [pvI i4z725_, pvI i3z725_], Mz725_)) rfl ⟨trivial, trivial, trivial⟩ ?_
                    refine pw_ic hT (c := i4z725_ ≤ i3z725_) rfl rfl (fun c726_ => ?_) (fun c726_ => ?_)
                    · have d727_ : Int32.toInt i4z725_ ≤ Int32.toInt i3z725_ := (zi_le _ _).mp c726_
                      refine pw_blk hT 1 (S' := (114, [some (pvR 106), some (pvI i1z408_), some (pvI i2z680_), some (pvI i3z725_), some (pvI i4z725_)], [pvI 1], Mz725_)) rfl ⟨trivial, trivial⟩ ?_
                      exact pw_ret hT rfl (r := some (pvI 1)) (M' := Mz725_) ⟨Or.inr rfl, rfl, rfl⟩ ⟨⟨_, rfl, (zr_wide (show 1 ≤ Int32.toInt 1 ∧ Int32.toInt 1 ≤ 1 from (by decide)) (by decide) (by decide))⟩, oz725_, fz725_⟩
                    · have b728_ : 2 ≤ Int32.toInt i4z725_ ∧ Int32.toInt i4z725_ ≤ 6 := zr_nle_l 2 c726_ h4z725_ h3z725_ (by decide)
                      have b729_ : 1 ≤ Int32.toInt i3z725_ ∧ Int32.toInt i3z725_ ≤ 5 := zr_nle_r 5 c726_ h3z725_ b728_ (by decide)
                      have d730_ : Int32.toInt i4z725_ > Int32.toInt i3z725_ := Int.not_le.mp ((not_congr (zi_le _ _)).mp c726_)
                      refine pw_blk hT 3 (S' := (101, [some (pvR 106), some (pvI i1z408_), some (pvI i2z680_), some (pvI i3z725_), some (pvI i4z725_)], [pvI i4z725_, pvI i3z725_, pvR 106], Mz725_)) rfl ⟨trivial, trivial, trivial, trivial⟩ ?_
                      refine pw_callV hT (as := [pvR 106, pvI i3z725_, pvI i4z725_]) (lo1 := [some (pvR 106), some (pvI i3z725_), some (pvI i4z725_), none]) (d1 := d) (rest := []) rfl rfl rfl rfl rfl (fun _ => rfl) (Nat.zero_le _) rfl rfl rfl (sf_X6_swap_106_x_x Mz725_ oz725_ i3z725_ i4z725_ (zr_wide b729_ (by decide) (by decide)) (zr_wide b728_ (by decide) (by decide)) d) (fun M732_ o734_ g735_ => ?_)
                      have f736_ : pvFr fp_X6_permute_106 M M732_ := pvfr_t g735_ fz725_ fp_X6_permute_106_fp_X6_swap_106_x_x
                      obtain ⟨q738_, b737_⟩ : (Int32.toInt (i3z725_ + 1) = Int32.toInt i3z725_ + 1) ∧ (2 ≤ Int32.toInt (i3z725_ + 1) ∧ Int32.toInt (i3z725_ + 1) ≤ 6) := zadd_k i3z725_ 1 1 2 6 b729_ (by decide) (by decide) (by decide) (by decide) (by decide)
                      obtain ⟨q740_, b739_⟩ : (Int32.toInt (i4z725_ + (-1)) = Int32.toInt i4z725_ + (-1)) ∧ (1 ≤ Int32.toInt (i4z725_ + (-1)) ∧ Int32.toInt (i4z725_ + (-1)) ≤ 5) := zadd_k i4z725_ (-1) (-1) 1 5 b728_ (by decide) (by decide) (by decide) (by decide) (by decide)
                      refine pw_blk hT 3 (S' := (91, [some (pvR 106), some (pvI i1z408_), some (pvI i2z680_), some (pvI (i3z725_ + 1)), some (pvI (i4z725_ + (-1)))], [], M732_)) rfl ⟨trivial, trivial, trivial, trivial⟩ ?_
                      exact ihz725_ (i3z725_ + 1) (i4z725_ + (-1)) M732_ o734_ f736_ (zr_wide b737_ (by decide) (by decide)) (zr_wide b739_ (by decide) (by decide)) (zhid (pvms_up (zshow hmz725_) h3z725_ q738_ (by decide) (by decide)))
                exact hlz725_ _ (i1z408_ + 1) ((M685_.1 106 0) - 1) M685_ o687_ f689_ b414_ b691_ (zhid (Nat.lt_succ_self _))
              · have b741_ : 1 ≤ Int32.toInt i2z680_ ∧ Int32.toInt i2z680_ ≤ 6 := zr_nle_l 1 c681_ h2z680_ b412_ (by decide)
                have d742_ : Int32.toInt i2z680_ > Int32.toInt i1z408_ := Int.not_le.mp ((not_congr (zi_le _ _)).mp c681_)
                have b743_ : 0 ≤ Int32.toInt (M.1 114 (Int32.toNatClampNeg i2z680_)) ∧ Int32.toInt (M.1 114 (Int32.toNatClampNeg i2z680_)) ≤ 6 := pvok_r hok 114 (Int32.toNatClampNeg i2z680_) rfl
                refine pw_blk hT 8 (S' := (64, [some (pvR 106), some (pvI i1z408_), some (pvI i2z680_), none, none], [pvI (M.1 114 (Int32.toNatClampNeg i1z408_)), pvI (M.1 114 (Int32.toNatClampNeg i2z680_))], M)) rfl ⟨trivial, rfl, trivial, ⟨rfl, (zr_in (n := 7) b741_ (by decide) (by decide))⟩, trivial, rfl, trivial, ⟨rfl, (zr_in (n := 7) b412_ (by decide) (by decide))⟩, trivial⟩ ?_
                refine pw_ic hT (c := (M.1 114 (Int32.toNatClampNeg i1z408_)) < (M.1 114 (Int32.toNatClampNeg i2z680_))) rfl rfl (fun c744_ => ?_) (fun c744_ => ?_)
                · have b745_ : 1 ≤ Int32.toInt (M.1 114 (Int32.toNatClampNeg i2z680_)) ∧ Int32.toInt (M.1 114 (Int32.toNatClampNeg i2z680_)) ≤ 6 := zr_lt_r 1 c744_ b743_ b418_ (by decide)
                  have d746_ : Int32.toInt (M.1 114 (Int32.toNatClampNeg i1z408_)) < Int32.toInt (M.1 114 (Int32.toNatClampNeg i2z680_)) := (zi_lt _ _).mp c744_
                  refine pw_blk hT 3 (S' := (76, [some (pvR 106), some (pvI i1z408_), some (pvI i2z680_), none, none], [pvI i2z680_, pvI i1z408_, pvR 106], M)) rfl ⟨trivial, trivial, trivial, trivial⟩ ?_
                  refine pw_callV hT (as := [pvR 106, pvI i1z408_, pvI i2z680_]) (lo1 := [some (pvR 106), some (pvI i1z408_), some (pvI i2z680_), none]) (d1 := d) (rest := []) rfl rfl rfl rfl rfl (fun _ => rfl) (Nat.zero_le _) rfl rfl rfl (sf_X6_swap_106_x_x M hok i1z408_ i2z680_ (zr_wide b412_ (by decide) (by decide)) (zr_wide b741_ (by decide) (by decide)) d) (fun M748_ o750_ g751_ => ?_)
                  have f752_ : pvFr fp_X6_permute_106 M M748_ := pvfr_t g751_ pvfr_0 fp_X6_permute_106_fp_X6_swap_106_x_x
                  have b753_ : 0 ≤ Int32.toInt (M748_.1 106 0) ∧ Int32.toInt (M748_.1 106 0) ≤ 7 := pvok_r o750_ 106 0 rfl
                  obtain ⟨q755_, b754_⟩ : (Int32.toInt ((M748_.1 106 0) - 1) = Int32.toInt (M748_.1 106 0) - 1) ∧ ((-1) ≤ Int32.toInt ((M748_.1 106 0) - 1) ∧ Int32.toInt ((M748_.1 106 0) - 1) ≤ 6) := zsub_k (M748_.1 106 0) 1 1 (-1) 6 b753_ (by decide) (by decide) (by decide) (by decide) (by decide)
                  refine pw_blk hT 9 (S' := (91, [some (pvR 106), some (pvI i1z408_), some (pvI i2z680_), some (pvI (i1z408_ + 1)), some (pvI ((M748_.1 106 0) - 1))], [], M748_)) rfl ⟨trivial, trivial, trivial, trivial, trivial, rfl, trivial, trivial, trivial, trivial⟩ ?_
                  have hlz788_ : ∀ (nz788_ : Nat) (i3z788_ : Int32) (i4z788_ : Int32) (Mz788_ : pvM), (pvOk Mz788_) → (pvFr fp_X6_permute_106 M Mz788_) → (1 ≤ Int32.toInt i3z788_ ∧ Int32.toInt i3z788_ ≤ 6) → ((-1) ≤ Int32.toInt i4z788_ ∧ Int32.toInt i4z788_ ≤ 6) → (zhide ((7 - Int32.toInt i3z788_).toNat < nz788_)) → PW 156 d (91, [some (pvR 106), some (pvI i1z408_), some (pvI i2z680_), some (pvI i3z788_), some (pvI i4z788_)], [], Mz788_) (fun r X => (∃ x : Int32, r = some (pvI x) ∧ 0 ≤ Int32.toInt x ∧ Int32.toInt x ≤ 1) ∧ pvOk X ∧ pvFr fp_X6_permute_106 M X) := by
                    intro nz788_
                    induction nz788_ with
                    | zero => intro i3z788_ i4z788_ Mz788_ oz788_ fz788_ h3z788_ h4z788_ hmz788_; exact absurd (zshow hmz788_) (Nat.not_lt_zero _)
                    | succ nz788_ ihz788_ =>
                      intro i3z788_ i4z788_ Mz788_ oz788_ fz788_ h3z788_ h4z788_ hmz788_
                      refine pw_blk hT 2 (S' := (94, [some (pvR 106), some (pvI i1z408_), some (pvI i2z680_), some (pvI i3z788_), some (pvI i4z788_)], [pvI i4z788_, pvI i3z788_], Mz788_)) rfl ⟨trivial, trivial, trivial⟩ ?_
                      refine pw_ic hT (c := i4z788_ ≤ i3z788_) rfl rfl (fun c789_ => ?_) (fun c789_ => ?_)
                      · have d790_ : Int32.toInt i4z788_ ≤ Int32.toInt i3z788_ := (zi_le _ _).mp c789_
                        refine pw_blk hT 1 (S' := (114, [some (pvR 106), some (pvI i1z408_), some (pvI i2z680_), some (pvI i3z788_), some (pvI i4z788_)], [pvI 1], Mz788_)) rfl ⟨trivial, trivial⟩ ?_
                        exact pw_ret hT rfl (r := some (pvI 1)) (M' := Mz788_) ⟨Or.inr rfl, rfl, rfl⟩ ⟨⟨_, rfl, (zr_wide (show 1 ≤ Int32.toInt 1 ∧ Int32.toInt 1 ≤ 1 from (by decide)) (by decide) (by decide))⟩, oz788_, fz788_⟩
                      · have b791_ : 2 ≤ Int32.toInt i4z788_ ∧ Int32.toInt i4z788_ ≤ 6 := zr_nle_l 2 c789_ h4z788_ h3z788_ (by decide)
                        have b792_ : 1 ≤ Int32.toInt i3z788_ ∧ Int32.toInt i3z788_ ≤ 5 := zr_nle_r 5 c789_ h3z788_ b791_ (by decide)
                        have d793_ : Int32.toInt i4z788_ > Int32.toInt i3z788_ := Int.not_le.mp ((not_congr (zi_le _ _)).mp c789_)
                        refine pw_blk hT 3 (S' := (101, [some (pvR 106), some (pvI i1z408_), some (pvI i2z680_), some (pvI i3z788_), some (pvI i4z788_)], [pvI i4z788_, pvI i3z788_, pvR 106], Mz788_)) rfl ⟨trivial, trivial, trivial, trivial⟩ ?_
                        refine pw_callV hT (as := [pvR 106, pvI i3z788_, pvI i4z788_]) (lo1 := [some (pvR 106), some (pvI i3z788_), some (pvI i4z788_), none]) (d1 := d) (rest := []) rfl rfl rfl rfl rfl (fun _ => rfl) (Nat.zero_le _) rfl rfl rfl (sf_X6_swap_106_x_x Mz788_ oz788_ i3z788_ i4z788_ (zr_wide b792_ (by decide) (by decide)) (zr_wide b791_ (by decide) (by decide)) d) (fun M795_ o797_ g798_ => ?_)
                        have f799_ : pvFr fp_X6_permute_106 M M795_ := pvfr_t g798_ fz788_ fp_X6_permute_106_fp_X6_swap_106_x_x
                        obtain ⟨q801_, b800_⟩ : (Int32.toInt (i3z788_ + 1) = Int32.toInt i3z788_ + 1) ∧ (2 ≤ Int32.toInt (i3z788_ + 1) ∧ Int32.toInt (i3z788_ + 1) ≤ 6) := zadd_k i3z788_ 1 1 2 6 b792_ (by decide) (by decide) (by decide) (by decide) (by decide)
                        obtain ⟨q803_, b802_⟩ : (Int32.toInt (i4z788_ + (-1)) = Int32.toInt i4z788_ + (-1)) ∧ (1 ≤ Int32.toInt (i4z788_ + (-1)) ∧ Int32.toInt (i4z788_ + (-1)) ≤ 5) := zadd_k i4z788_ (-1) (-1) 1 5 b791_ (by decide) (by decide) (by decide) (by decide) (by decide)
                        refine pw_blk hT 3 (S' := (91, [some (pvR 106), some (pvI i1z408_), some (pvI i2z680_), some (pvI (i3z788_ + 1)), some (pvI (i4z788_ + (-1)))], [], M795_)) rfl ⟨trivial, trivial, trivial, trivial⟩ ?_
                        exact ihz788_ (i3z788_ + 1) (i4z788_ + (-1)) M795_ o797_ f799_ (zr_wide b800_ (by decide) (by decide)) (zr_wide b802_ (by decide) (by decide)) (zhid (pvms_up (zshow hmz788_) h3z788_ q801_ (by decide) (by decide)))
                  exact hlz788_ _ (i1z408_ + 1) ((M748_.1 106 0) - 1) M748_ o750_ f752_ b414_ b754_ (zhid (Nat.lt_succ_self _))
                · have b804_ : 0 ≤ Int32.toInt (M.1 114 (Int32.toNatClampNeg i2z680_)) ∧ Int32.toInt (M.1 114 (Int32.toNatClampNeg i2z680_)) ≤ 5 := zr_nlt_r 5 c744_ b743_ b418_ (by decide)
                  have d805_ : Int32.toInt (M.1 114 (Int32.toNatClampNeg i1z408_)) ≥ Int32.toInt (M.1 114 (Int32.toNatClampNeg i2z680_)) := Int.not_lt.mp ((not_congr (zi_lt _ _)).mp c744_)
                  obtain ⟨q807_, b806_⟩ : (Int32.toInt (i2z680_ + (-1)) = Int32.toInt i2z680_ + (-1)) ∧ (0 ≤ Int32.toInt (i2z680_ + (-1)) ∧ Int32.toInt (i2z680_ + (-1)) ≤ 5) := zadd_k i2z680_ (-1) (-1) 0 5 b741_ (by decide) (by decide) (by decide) (by decide) (by decide)
                  refine pw_blk hT 2 (S' := (47, [some (pvR 106), some (pvI i1z408_), some (pvI (i2z680_ + (-1))), none, none], [], M)) rfl ⟨trivial, trivial, trivial⟩ ?_
                  have j808_ : Int32.toInt i1z408_ ≤ Int32.toInt (i2z680_ + (-1)) := by omega
                  exact ihz680_ (i2z680_ + (-1)) (zr_wide b806_ (by decide) (by decide)) j808_ (zhid (pvms_dn (zshow hmz680_) h2z680_ q807_ (by decide) (by decide)))
          have j809_ : Int32.toInt i1z408_ ≤ Int32.toInt ((M.1 106 0) - 1) := by omega
          exact hlz680_ _ ((M.1 106 0) - 1) (by have u0 := b422_; omega) j809_ (zhid (Nat.lt_succ_self _))
        · have d810_ : Int32.toInt (M.1 114 (Int32.toNatClampNeg i1z408_)) ≥ Int32.toInt (M.1 114 (Int32.toNatClampNeg (i1z408_ + 1))) := Int.not_lt.mp ((not_congr (zi_lt _ _)).mp c417_)
          obtain ⟨q812_, b811_⟩ : (Int32.toInt (i1z408_ + (-1)) = Int32.toInt i1z408_ + (-1)) ∧ ((-1) ≤ Int32.toInt (i1z408_ + (-1)) ∧ Int32.toInt (i1z408_ + (-1)) ≤ 4) := zadd_k i1z408_ (-1) (-1) (-1) 4 b412_ (by decide) (by decide) (by decide) (by decide) (by decide)
          refine pw_blk hT 2 (S' := (7, [some (pvR 106), some (pvI (i1z408_ + (-1))), none, none, none], [], M)) rfl ⟨trivial, trivial, trivial⟩ ?_
          have j813_ : Int32.toInt (i1z408_ + (-1)) ≤ Int32.toInt (M.1 106 0) - 2 := by omega
          exact ihz408_ (i1z408_ + (-1)) (zr_wide b811_ (by decide) (by decide)) j813_ (zhid (pvms_dn (zshow hmz408_) h1z408_ q812_ (by decide) (by decide)))
  have j814_ : Int32.toInt ((M.1 106 0) - 2) ≤ Int32.toInt (M.1 106 0) - 2 := by omega
  exact hlz408_ _ ((M.1 106 0) - 2) b2_ j814_ (zhid (Nat.lt_succ_self _))
set_option maxHeartbeats 4000000 in
set_option maxRecDepth 10000 in
theorem sf_X6_isFull_106 (M : pvM) (hok : pvOk M) (d : Nat) : PW 154 d (0, [some (pvR 106)], [], M) (fun r X => r = some (pvI ((if (M.1 106 0) < (Int32.ofNat 7) then 0 else 1))) ∧ X = M) := by
  have hT : pvdom 154 = pvD_154 := rfl
  have b1_ : 0 ≤ Int32.toInt (M.1 106 0) ∧ Int32.toInt (M.1 106 0) ≤ 7 := pvok_r hok 106 0 rfl
  refine pw_blk hT 5 (S' := (9, [some (pvR 106)], [pvI (Int32.ofNat 7), pvI (M.1 106 0)], M)) rfl ⟨trivial, rfl, trivial, rfl, rfl, trivial⟩ ?_
  refine pw_ic hT (c := (M.1 106 0) < (Int32.ofNat 7)) rfl rfl (fun c2_ => ?_) (fun c2_ => ?_)
  · have b3_ : 0 ≤ Int32.toInt (M.1 106 0) ∧ Int32.toInt (M.1 106 0) ≤ 6 := zr_lt_l 6 c2_ b1_ (show 7 ≤ Int32.toInt (Int32.ofNat 7) ∧ Int32.toInt (Int32.ofNat 7) ≤ 7 from (by decide)) (by decide)
    refine pw_blk hT 1 (S' := (17, [some (pvR 106)], [pvI 0], M)) rfl ⟨trivial, trivial⟩ ?_
    exact pw_ret hT rfl (r := some (pvI 0)) (M' := M) ⟨Or.inl rfl, rfl, rfl⟩ ⟨(by rw [if_pos c2_]), rfl⟩
  · have b4_ : 7 ≤ Int32.toInt (M.1 106 0) ∧ Int32.toInt (M.1 106 0) ≤ 7 := zr_nlt_l 7 c2_ b1_ (show 7 ≤ Int32.toInt (Int32.ofNat 7) ∧ Int32.toInt (Int32.ofNat 7) ≤ 7 from (by decide)) (by decide)
    refine pw_blk hT 2 (S' := (17, [some (pvR 106)], [pvI 1], M)) rfl ⟨trivial, trivial, trivial⟩ ?_
    exact pw_ret hT rfl (r := some (pvI 1)) (M' := M) ⟨Or.inr rfl, rfl, rfl⟩ ⟨(by rw [if_neg c2_]), rfl⟩
def fpL_X6_append_106_x_x : List (Nat × Nat × Nat) := [(0, 106, 1), (0, 114, 0), (0, 122, 0)]
def fp_X6_append_106_x_x (q k : Nat) : Bool := pvfp fpL_X6_append_106_x_x q k
set_option maxHeartbeats 4000000 in
set_option maxRecDepth 10000 in
theorem sf_X6_append_106_x_x (M : pvM) (hok : pvOk M) (n1 : Int32) (n2 : Int32) (hn1 : 0 ≤ Int32.toInt n1 ∧ Int32.toInt n1 ≤ 6) (hn2 : 0 ≤ Int32.toInt n2 ∧ Int32.toInt n2 ≤ 9999) (d : Nat) : PW 151 d (0, [some (pvR 106), some (pvI n1), some (pvI n2)], [], M) (fun r X => (∃ x : Int32, r = some (pvI x) ∧ 1 ≤ Int32.toInt x ∧ Int32.toInt x ≤ 7) ∧ pvOk X ∧ pvFr fp_X6_append_106_x_x M X) := by
  have hT : pvdom 151 = pvD_151 := rfl
  refine pw_blk hT 1 (S' := (1, [some (pvR 106), some (pvI n1), some (pvI n2)], [pvR 106], M)) rfl ⟨trivial, trivial⟩ ?_
  refine pw_callT hT (as := [pvR 106]) (lo1 := [some (pvR 106)]) (d1 := d) (rest := []) rfl rfl rfl rfl rfl (fun _ => rfl) (Nat.zero_le _) rfl rfl rfl (sf_X6_isFull_106 M hok d) ?_
  have b6_ : 0 ≤ Int32.toInt (M.1 106 0) ∧ Int32.toInt (M.1 106 0) ≤ 7 := pvok_r hok 106 0 rfl
  by_cases c7_ : (M.1 106 0) < (Int32.ofNat 7)
  · refine pw_eqI (if_pos c7_) ?_
    have b8_ : 0 ≤ Int32.toInt (M.1 106 0) ∧ Int32.toInt (M.1 106 0) ≤ 6 := zr_lt_l 6 c7_ b6_ (show 7 ≤ Int32.toInt (Int32.ofNat 7) ∧ Int32.toInt (Int32.ofNat 7) ≤ 7 from (by decide)) (by decide)
    show PW 151 d (4, [some (pvR 106), some (pvI n1), some (pvI n2)], [pvI 0], M) _
    refine pw_if hT (c := 0 = 0) rfl rfl (fun c9_ => ?_) (fun c9_ => absurd (by decide) c9_)
    refine pw_blkw hT 6 (pc := 22) (lo := [some (pvR 106), some (pvI n1), some (pvI n2)]) (st := []) (M := pvu M 114 (Int32.toNatClampNeg (M.1 106 0)) n1) rfl ⟨trivial, rfl, trivial, rfl, trivial, ⟨rfl, (zr_in (n := 7) b8_ (by decide) (by decide))⟩, trivial⟩ (fun M10_ e11_ => ?_)
    have o12_ : pvOk M10_ := pvok_u2 e11_ hok rfl hn1
    have f13_ : pvFr fp_X6_append_106_x_x M M10_ := pvfr_u e11_ pvfr_0 rfl
    have e14_ : (M10_.1 106 0) = (M.1 106 0) := (pvu_n e11_ 106 0 (Or.inl (by decide)))
    have b15_ : 0 ≤ Int32.toInt (M10_.1 106 0) ∧ Int32.toInt (M10_.1 106 0) ≤ 6 := (by rw [e14_]; exact b8_)
    refine pw_blkw hT 6 (pc := 32) (lo := [some (pvR 106), some (pvI n1), some (pvI n2)]) (st := []) (M := pvu M10_ 122 (Int32.toNatClampNeg (M10_.1 106 0)) n2) rfl ⟨trivial, rfl, trivial, rfl, trivial, ⟨rfl, (zr_in (n := 7) b15_ (by decide) (by decide))⟩, trivial⟩ (fun M16_ e17_ => ?_)
    have o18_ : pvOk M16_ := pvok_u2 e17_ o12_ rfl hn2
    have f19_ : pvFr fp_X6_append_106_x_x M M16_ := pvfr_u e17_ f13_ rfl
    have e20_ : (M16_.1 106 0) = (M10_.1 106 0) := (pvu_n e17_ 106 0 (Or.inl (by decide)))
    have b21_ : 0 ≤ Int32.toInt (M16_.1 106 0) ∧ Int32.toInt (M16_.1 106 0) ≤ 6 := (by rw [e20_]; exact b15_)
    obtain ⟨q23_, b22_⟩ : (Int32.toInt ((M16_.1 106 0) + 1) = Int32.toInt (M16_.1 106 0) + 1) ∧ (1 ≤ Int32.toInt ((M16_.1 106 0) + 1) ∧ Int32.toInt ((M16_.1 106 0) + 1) ≤ 7) := zadd_k (M16_.1 106 0) 1 1 1 7 b21_ (by decide) (by decide) (by decide) (by decide) (by decide)
    refine pw_blkw hT 6 (pc := 42) (lo := [some (pvR 106), some (pvI n1), some (pvI n2)]) (st := []) (M := pvu M16_ 106 0 ((M16_.1 106 0) + 1)) rfl ⟨trivial, trivial, rfl, trivial, trivial, rfl, trivial⟩ (fun M24_ e25_ => ?_)
    have o26_ : pvOk M24_ := pvok_u2 e25_ o18_ rfl (zr_wide b22_ (by decide) (by decide))
    have f27_ : pvFr fp_X6_append_106_x_x M M24_ := pvfr_u e25_ f19_ rfl
    have e28_ : (M24_.1 106 0) = ((M16_.1 106 0) + 1) := (pvu_s e25_)
    have b29_ : 1 ≤ Int32.toInt (M24_.1 106 0) ∧ Int32.toInt (M24_.1 106 0) ≤ 7 := (by rw [e28_]; exact b22_)
    refine pw_blk hT 2 (S' := (46, [some (pvR 106), some (pvI n1), some (pvI n2)], [pvI (M24_.1 106 0)], M24_)) rfl ⟨trivial, rfl, trivial⟩ ?_
    exact pw_ret hT rfl (r := some (pvI (M24_.1 106 0))) (M' := M24_) ⟨rfl, rfl⟩ ⟨⟨_, rfl, b29_⟩, o26_, f27_⟩
  · refine pw_eqI (if_neg c7_) ?_
    have b30_ : 7 ≤ Int32.toInt (M.1 106 0) ∧ Int32.toInt (M.1 106 0) ≤ 7 := zr_nlt_l 7 c7_ b6_ (show 7 ≤ Int32.toInt (Int32.ofNat 7) ∧ Int32.toInt (Int32.ofNat 7) ≤ 7 from (by decide)) (by decide)
    show PW 151 d (4, [some (pvR 106), some (pvI n1), some (pvI n2)], [pvI 1], M) _
    refine pw_if hT (c := 1 = 0) rfl rfl (fun c31_ => absurd c31_ (by decide)) (fun c31_ => ?_)
    refine pw_blk hT 2 (S' := (11, [some (pvR 106), some (pvI n1), some (pvI n2)], [pvI (M.1 106 0)], M)) rfl ⟨trivial, rfl, trivial⟩ ?_
    exact pw_ret hT rfl (r := some (pvI (M.1 106 0))) (M' := M) ⟨rfl, rfl⟩ ⟨⟨_, rfl, (zr_wide b30_ (by decide) (by decide))⟩, hok, pvfr_0⟩
def fpL_X1_seekBest_5 : List (Nat × Nat × Nat) := [(0, 106, 1), (0, 107, 1), (0, 114, 0), (0, 115, 0), (0, 12, 0), (0, 122, 0), (0, 123, 0), (0, 5, 7)]
def fp_X1_seekBest_5 (q k : Nat) : Bool := pvfp fpL_X1_seekBest_5 q k
theorem fp_X1_seekBest_5_fp_X1_costOfTried_5 (a b : Nat) (h : fp_X1_costOfTried_5 a b = true) : fp_X1_seekBest_5 a b = true := pvfp_sub (l1 := fpL_X1_costOfTried_5) (l2 := fpL_X1_seekBest_5) (by decide) a b h
theorem fp_X1_seekBest_5_fp_X6_append_106_x_x (a b : Nat) (h : fp_X6_append_106_x_x a b = true) : fp_X1_seekBest_5 a b = true := pvfp_sub (l1 := fpL_X6_append_106_x_x) (l2 := fpL_X1_seekBest_5) (by decide) a b h
theorem fp_X1_seekBest_5_fp_X6_becomeAs_107_106 (a b : Nat) (h : fp_X6_becomeAs_107_106 a b = true) : fp_X1_seekBest_5 a b = true := pvfp_sub (l1 := fpL_X6_becomeAs_107_106) (l2 := fpL_X1_seekBest_5) (by decide) a b h
theorem fp_X1_seekBest_5_fp_X6_clear_106 (a b : Nat) (h : fp_X6_clear_106 a b = true) : fp_X1_seekBest_5 a b = true := pvfp_sub (l1 := fpL_X6_clear_106) (l2 := fpL_X1_seekBest_5) (by decide) a b h
theorem fp_X1_seekBest_5_fp_X6_permute_106 (a b : Nat) (h : fp_X6_permute_106 a b = true) : fp_X1_seekBest_5 a b = true := pvfp_sub (l1 := fpL_X6_permute_106) (l2 := fpL_X1_seekBest_5) (by decide) a b h
set_option maxHeartbeats 4000000 in
set_option maxRecDepth 10000 in
theorem sf_X1_seekBest_5 (M : pvM) (hok : pvOk M) (d : Nat) : PW 117 d (0, [some (pvR 5), none, none], [], M) (fun r X => r = none ∧ pvOk X ∧ pvFr fp_X1_seekBest_5 M X) := by
  have hT : pvdom 117 = pvD_117 := rfl
  refine pw_blk hT 2 (S' := (4, [some (pvR 5), none, none], [pvR 106], M)) rfl ⟨trivial, rfl, trivial⟩ ?_
  refine pw_callG hT (as := [pvR 106]) (lo1 := [some (pvR 106)]) (d1 := d) (rest := []) rfl rfl rfl rfl rfl (fun _ => rfl) (Nat.zero_le _) rfl rfl rfl (sf_X6_clear_106 M hok d) (fun x1_ M2_ b3_ o4_ g5_ => ?_)
  have f6_ : pvFr fp_X1_seekBest_5 M M2_ := pvfr_t g5_ pvfr_0 fp_X1_seekBest_5_fp_X6_clear_106
  refine pw_blk hT 3 (S' := (10, [some (pvR 5), some (pvI 0), none], [], M2_)) rfl ⟨trivial, trivial, trivial, trivial⟩ ?_
  have hlz1359_ : ∀ (nz1359_ : Nat) (i1z1359_ : Int32) (Mz1359_ : pvM), (pvOk Mz1359_) → (pvFr fp_X1_seekBest_5 M Mz1359_) → (0 ≤ Int32.toInt i1z1359_ ∧ Int32.toInt i1z1359_ ≤ 7) → (zhide ((8 - Int32.toInt i1z1359_).toNat < nz1359_)) → PW 117 d (10, [some (pvR 5), some (pvI i1z1359_), none], [], Mz1359_) (fun r X => r = none ∧ pvOk X ∧ pvFr fp_X1_seekBest_5 M X) := by
    intro nz1359_
    induction nz1359_ with
    | zero => intro i1z1359_ Mz1359_ oz1359_ fz1359_ h1z1359_ hmz1359_; exact absurd (zshow hmz1359_) (Nat.not_lt_zero _)
    | succ nz1359_ ihz1359_ =>
      intro i1z1359_ Mz1359_ oz1359_ fz1359_ h1z1359_ hmz1359_
      have b1360_ : 0 ≤ Int32.toInt (Mz1359_.1 8 1) ∧ Int32.toInt (Mz1359_.1 8 1) ≤ 7 := pvok_r oz1359_ 8 1 rfl
      refine pw_blk hT 4 (S' := (18, [some (pvR 5), some (pvI i1z1359_), none], [pvI (Mz1359_.1 8 1), pvI i1z1359_], Mz1359_)) rfl ⟨trivial, trivial, rfl, rfl, trivial⟩ ?_
      refine pw_ic hT (c := (Mz1359_.1 8 1) ≤ i1z1359_) rfl rfl (fun c1361_ => ?_) (fun c1361_ => ?_)
      · have d1362_ : Int32.toInt (Mz1359_.1 8 1) ≤ Int32.toInt i1z1359_ := (zi_le _ _).mp c1361_
        refine pw_blk hT 2 (S' := (54, [some (pvR 5), some (pvI 0), none], [], Mz1359_)) rfl ⟨trivial, trivial, trivial⟩ ?_
        have hlz1606_ : ∀ (nz1606_ : Nat) (i1z1606_ : Int32) (v2z1606_ : Option pvV) (Mz1606_ : pvM), (pvOk Mz1606_) → (pvFr fp_X1_seekBest_5 M Mz1606_) → (0 ≤ Int32.toInt i1z1606_ ∧ Int32.toInt i1z1606_ ≤ 120) → (zhide ((121 - Int32.toInt i1z1606_).toNat < nz1606_)) → PW 117 d (54, [some (pvR 5), some (pvI i1z1606_), v2z1606_], [], Mz1606_) (fun r X => r = none ∧ pvOk X ∧ pvFr fp_X1_seekBest_5 M X) := by
          intro nz1606_
          induction nz1606_ with
          | zero => intro i1z1606_ v2z1606_ Mz1606_ oz1606_ fz1606_ h1z1606_ hmz1606_; exact absurd (zshow hmz1606_) (Nat.not_lt_zero _)
          | succ nz1606_ ihz1606_ =>
            intro i1z1606_ v2z1606_ Mz1606_ oz1606_ fz1606_ h1z1606_ hmz1606_
            refine pw_blk hT 2 (S' := (57, [some (pvR 5), some (pvI i1z1606_), v2z1606_], [pvI 120, pvI i1z1606_], Mz1606_)) rfl ⟨trivial, trivial, trivial⟩ ?_
            refine pw_ic hT (c := 120 ≤ i1z1606_) rfl rfl (fun c1607_ => ?_) (fun c1607_ => ?_)
            · have b1608_ : 120 ≤ Int32.toInt i1z1606_ ∧ Int32.toInt i1z1606_ ≤ 120 := zr_le_r 120 c1607_ h1z1606_ (show 120 ≤ Int32.toInt 120 ∧ Int32.toInt 120 ≤ 120 from (by decide)) (by decide)
              exact pw_ret hT rfl (r := none) (M' := Mz1606_) ⟨rfl, rfl⟩ ⟨rfl, oz1606_, fz1606_⟩
            · have b1609_ : 0 ≤ Int32.toInt i1z1606_ ∧ Int32.toInt i1z1606_ ≤ 119 := zr_nle_r 119 c1607_ h1z1606_ (show 120 ≤ Int32.toInt 120 ∧ Int32.toInt 120 ≤ 120 from (by decide)) (by decide)
              refine pw_blk hT 1 (S' := (61, [some (pvR 5), some (pvI i1z1606_), v2z1606_], [pvR 5], Mz1606_)) rfl ⟨trivial, trivial⟩ ?_
              refine pw_callG hT (as := [pvR 5]) (lo1 := [some (pvR 5)]) (d1 := d) (rest := []) rfl rfl rfl rfl rfl (fun _ => rfl) (Nat.zero_le _) rfl rfl rfl (sf_X1_costOfTried_5 Mz1606_ oz1606_ d) (fun x1610_ M1611_ b1612_ o1613_ g1614_ => ?_)
              have f1615_ : pvFr fp_X1_seekBest_5 M M1611_ := pvfr_t g1614_ fz1606_ fp_X1_seekBest_5_fp_X1_costOfTried_5
              refine pw_blk hT 2 (S' := (66, [some (pvR 5), some (pvI i1z1606_), some (pvI x1610_)], [pvI i1z1606_], M1611_)) rfl ⟨trivial, trivial, trivial⟩ ?_
              refine pw_if hT (c := i1z1606_ = 0) rfl rfl (fun c1616_ => ?_) (fun c1616_ => ?_)
              · have b1617_ : 0 ≤ Int32.toInt i1z1606_ ∧ Int32.toInt i1z1606_ ≤ 0 := (by have u0 := b1609_; have u1 := (zi_eq _ _).mp c1616_; have u2 := (show 0 ≤ Int32.toInt 0 ∧ Int32.toInt 0 ≤ 0 from (by decide)); omega)
                refine pw_blkw hT 3 (pc := 82) (lo := [some (pvR 5), some (pvI i1z1606_), some (pvI x1610_)]) (st := []) (M := pvu M1611_ 5 6 x1610_) rfl ⟨trivial, trivial, rfl, trivial⟩ (fun M1618_ e1619_ => ?_)
                have o1620_ : pvOk M1618_ := pvok_u2 e1619_ o1613_ rfl (zbnd x1610_)
                have f1621_ : pvFr fp_X1_seekBest_5 M M1618_ := pvfr_u e1619_ f1615_ rfl
                refine pw_blk hT 4 (S' := (90, [some (pvR 5), some (pvI i1z1606_), some (pvI x1610_)], [pvR 106, pvR 107], M1618_)) rfl ⟨trivial, rfl, trivial, rfl, trivial⟩ ?_
                refine pw_callV hT (as := [pvR 107, pvR 106]) (lo1 := [some (pvR 107), some (pvR 106), none]) (d1 := d) (rest := []) rfl rfl rfl rfl rfl (fun _ => rfl) (Nat.zero_le _) rfl rfl rfl (sf_X6_becomeAs_107_106 M1618_ o1620_ d) (fun M1623_ o1625_ g1626_ => ?_)
                have f1627_ : pvFr fp_X1_seekBest_5 M M1623_ := pvfr_t g1626_ f1621_ fp_X1_seekBest_5_fp_X6_becomeAs_107_106
                refine pw_blk hT 2 (S' := (97, [some (pvR 5), some (pvI i1z1606_), some (pvI x1610_)], [pvR 106], M1623_)) rfl ⟨trivial, rfl, trivial⟩ ?_
                refine pw_callG hT (as := [pvR 106]) (lo1 := [some (pvR 106), none, none, none, none]) (d1 := d) (rest := []) rfl rfl rfl rfl rfl (fun _ => rfl) (Nat.zero_le _) rfl rfl rfl (sf_X6_permute_106 M1623_ o1625_ d) (fun x1628_ M1629_ b1630_ o1631_ g1632_ => ?_)
                have f1633_ : pvFr fp_X1_seekBest_5 M M1629_ := pvfr_t g1632_ f1627_ fp_X1_seekBest_5_fp_X6_permute_106
                refine pw_ifn hT (c := x1628_ = 0) rfl rfl (fun c1634_ => ?_) (fun c1634_ => ?_)
                · have b1635_ : 1 ≤ Int32.toInt x1628_ ∧ Int32.toInt x1628_ ≤ 1 := (by have u0 := b1630_; have u1 := (not_congr (zi_eq _ _)).mp c1634_; have u2 := (show 0 ≤ Int32.toInt 0 ∧ Int32.toInt 0 ≤ 0 from (by decide)); omega)
                  obtain ⟨q1637_, b1636_⟩ : (Int32.toInt (i1z1606_ + 1) = Int32.toInt i1z1606_ + 1) ∧ (1 ≤ Int32.toInt (i1z1606_ + 1) ∧ Int32.toInt (i1z1606_ + 1) ≤ 1) := zadd_k i1z1606_ 1 1 1 1 b1617_ (by decide) (by decide) (by decide) (by decide) (by decide)
                  refine pw_blk hT 2 (S' := (54, [some (pvR 5), some (pvI (i1z1606_ + 1)), some (pvI x1610_)], [], M1629_)) rfl ⟨trivial, trivial, trivial⟩ ?_
                  exact ihz1606_ (i1z1606_ + 1) (some (pvI x1610_)) M1629_ o1631_ f1633_ (zr_wide b1636_ (by decide) (by decide)) (zhid (pvms_up (zshow hmz1606_) h1z1606_ q1637_ (by decide) (by decide)))
                · have b1638_ : 0 ≤ Int32.toInt x1628_ ∧ Int32.toInt x1628_ ≤ 0 := (by have u0 := b1630_; have u1 := (zi_eq _ _).mp c1634_; have u2 := (show 0 ≤ Int32.toInt 0 ∧ Int32.toInt 0 ≤ 0 from (by decide)); omega)
                  exact pw_ret hT rfl (r := none) (M' := M1629_) ⟨rfl, rfl⟩ ⟨rfl, o1631_, f1633_⟩
              · have b1639_ : 1 ≤ Int32.toInt i1z1606_ ∧ Int32.toInt i1z1606_ ≤ 119 := (by have u0 := b1609_; have u1 := (not_congr (zi_eq _ _)).mp c1616_; have u2 := (show 0 ≤ Int32.toInt 0 ∧ Int32.toInt 0 ≤ 0 from (by decide)); omega)
                refine pw_blk hT 3 (S' := (74, [some (pvR 5), some (pvI i1z1606_), some (pvI x1610_)], [pvI (M1611_.1 5 6), pvI x1610_], M1611_)) rfl ⟨trivial, trivial, rfl, trivial⟩ ?_
                refine pw_ic hT (c := (M1611_.1 5 6) ≤ x1610_) rfl rfl (fun c1640_ => ?_) (fun c1640_ => ?_)
                · have d1641_ : Int32.toInt (M1611_.1 5 6) ≤ Int32.toInt x1610_ := (zi_le _ _).mp c1640_
                  refine pw_blk hT 2 (S' := (97, [some (pvR 5), some (pvI i1z1606_), some (pvI x1610_)], [pvR 106], M1611_)) rfl ⟨trivial, rfl, trivial⟩ ?_
                  refine pw_callG hT (as := [pvR 106]) (lo1 := [some (pvR 106), none, none, none, none]) (d1 := d) (rest := []) rfl rfl rfl rfl rfl (fun _ => rfl) (Nat.zero_le _) rfl rfl rfl (sf_X6_permute_106 M1611_ o1613_ d) (fun x1642_ M1643_ b1644_ o1645_ g1646_ => ?_)
                  have f1647_ : pvFr fp_X1_seekBest_5 M M1643_ := pvfr_t g1646_ f1615_ fp_X1_seekBest_5_fp_X6_permute_106
                  refine pw_ifn hT (c := x1642_ = 0) rfl rfl (fun c1648_ => ?_) (fun c1648_ => ?_)
                  · have b1649_ : 1 ≤ Int32.toInt x1642_ ∧ Int32.toInt x1642_ ≤ 1 := (by have u0 := b1644_; have u1 := (not_congr (zi_eq _ _)).mp c1648_; have u2 := (show 0 ≤ Int32.toInt 0 ∧ Int32.toInt 0 ≤ 0 from (by decide)); omega)
                    obtain ⟨q1651_, b1650_⟩ : (Int32.toInt (i1z1606_ + 1) = Int32.toInt i1z1606_ + 1) ∧ (2 ≤ Int32.toInt (i1z1606_ + 1) ∧ Int32.toInt (i1z1606_ + 1) ≤ 120) := zadd_k i1z1606_ 1 1 2 120 b1639_ (by decide) (by decide) (by decide) (by decide) (by decide)
                    refine pw_blk hT 2 (S' := (54, [some (pvR 5), some (pvI (i1z1606_ + 1)), some (pvI x1610_)], [], M1643_)) rfl ⟨trivial, trivial, trivial⟩ ?_
                    exact ihz1606_ (i1z1606_ + 1) (some (pvI x1610_)) M1643_ o1645_ f1647_ (zr_wide b1650_ (by decide) (by decide)) (zhid (pvms_up (zshow hmz1606_) h1z1606_ q1651_ (by decide) (by decide)))
                  · have b1652_ : 0 ≤ Int32.toInt x1642_ ∧ Int32.toInt x1642_ ≤ 0 := (by have u0 := b1644_; have u1 := (zi_eq _ _).mp c1648_; have u2 := (show 0 ≤ Int32.toInt 0 ∧ Int32.toInt 0 ≤ 0 from (by decide)); omega)
                    exact pw_ret hT rfl (r := none) (M' := M1643_) ⟨rfl, rfl⟩ ⟨rfl, o1645_, f1647_⟩
                · have b1653_ : (-2147483647) ≤ Int32.toInt (M1611_.1 5 6) ∧ Int32.toInt (M1611_.1 5 6) ≤ 2147483647 := zr_nle_l (-2147483647) c1640_ (zbnd (M1611_.1 5 6)) (zbnd x1610_) (by decide)
                  have b1654_ : (-2147483648) ≤ Int32.toInt x1610_ ∧ Int32.toInt x1610_ ≤ 2147483646 := zr_nle_r 2147483646 c1640_ (zbnd x1610_) b1653_ (by decide)
                  have d1655_ : Int32.toInt (M1611_.1 5 6) > Int32.toInt x1610_ := Int.not_le.mp ((not_congr (zi_le _ _)).mp c1640_)
                  refine pw_blkw hT 3 (pc := 82) (lo := [some (pvR 5), some (pvI i1z1606_), some (pvI x1610_)]) (st := []) (M := pvu M1611_ 5 6 x1610_) rfl ⟨trivial, trivial, rfl, trivial⟩ (fun M1656_ e1657_ => ?_)
                  have o1658_ : pvOk M1656_ := pvok_u2 e1657_ o1613_ rfl (zbnd x1610_)
                  have f1659_ : pvFr fp_X1_seekBest_5 M M1656_ := pvfr_u e1657_ f1615_ rfl
                  refine pw_blk hT 4 (S' := (90, [some (pvR 5), some (pvI i1z1606_), some (pvI x1610_)], [pvR 106, pvR 107], M1656_)) rfl ⟨trivial, rfl, trivial, rfl, trivial⟩ ?_
                  refine pw_callV hT (as := [pvR 107, pvR 106]) (lo1 := [some (pvR 107), some (pvR 106), none]) (d1 := d) (rest := []) rfl rfl rfl rfl rfl (fun _ => rfl) (Nat.zero_le _) rfl rfl rfl (sf_X6_becomeAs_107_106 M1656_ o1658_ d) (fun M1661_ o1663_ g1664_ => ?_)
                  have f1665_ : pvFr fp_X1_seekBest_5 M M1661_ := pvfr_t g1664_ f1659_ fp_X1_seekBest_5_fp_X6_becomeAs_107_106
                  refine pw_blk hT 2 (S' := (97, [some (pvR 5), some (pvI i1z1606_), some (pvI x1610_)], [pvR 106], M1661_)) rfl ⟨trivial, rfl, trivial⟩ ?_
                  refine pw_callG hT (as := [pvR 106]) (lo1 := [some (pvR 106), none, none, none, none]) (d1 := d) (rest := []) rfl rfl rfl rfl rfl (fun _ => rfl) (Nat.zero_le _) rfl rfl rfl (sf_X6_permute_106 M1661_ o1663_ d) (fun x1666_ M1667_ b1668_ o1669_ g1670_ => ?_)
                  have f1671_ : pvFr fp_X1_seekBest_5 M M1667_ := pvfr_t g1670_ f1665_ fp_X1_seekBest_5_fp_X6_permute_106
                  refine pw_ifn hT (c := x1666_ = 0) rfl rfl (fun c1672_ => ?_) (fun c1672_ => ?_)
                  · have b1673_ : 1 ≤ Int32.toInt x1666_ ∧ Int32.toInt x1666_ ≤ 1 := (by have u0 := b1668_; have u1 := (not_congr (zi_eq _ _)).mp c1672_; have u2 := (show 0 ≤ Int32.toInt 0 ∧ Int32.toInt 0 ≤ 0 from (by decide)); omega)
                    obtain ⟨q1675_, b1674_⟩ : (Int32.toInt (i1z1606_ + 1) = Int32.toInt i1z1606_ + 1) ∧ (2 ≤ Int32.toInt (i1z1606_ + 1) ∧ Int32.toInt (i1z1606_ + 1) ≤ 120) := zadd_k i1z1606_ 1 1 2 120 b1639_ (by decide) (by decide) (by decide) (by decide) (by decide)
                    refine pw_blk hT 2 (S' := (54, [some (pvR 5), some (pvI (i1z1606_ + 1)), some (pvI x1610_)], [], M1667_)) rfl ⟨trivial, trivial, trivial⟩ ?_
                    exact ihz1606_ (i1z1606_ + 1) (some (pvI x1610_)) M1667_ o1669_ f1671_ (zr_wide b1674_ (by decide) (by decide)) (zhid (pvms_up (zshow hmz1606_) h1z1606_ q1675_ (by decide) (by decide)))
                  · have b1676_ : 0 ≤ Int32.toInt x1666_ ∧ Int32.toInt x1666_ ≤ 0 := (by have u0 := b1668_; have u1 := (zi_eq _ _).mp c1672_; have u2 := (show 0 ≤ Int32.toInt 0 ∧ Int32.toInt 0 ≤ 0 from (by decide)); omega)
                    exact pw_ret hT rfl (r := none) (M' := M1667_) ⟨rfl, rfl⟩ ⟨rfl, o1669_, f1671_⟩
        exact hlz1606_ _ 0 none Mz1359_ oz1359_ fz1359_ (zr_wide (show 0 ≤ Int32.toInt 0 ∧ Int32.toInt 0 ≤ 0 from (by decide)) (by decide) (by decide)) (zhid (Nat.lt_succ_self _))
      · have b1677_ : 1 ≤ Int32.toInt (Mz1359_.1 8 1) ∧ Int32.toInt (Mz1359_.1 8 1) ≤ 7 := zr_nle_l 1 c1361_ b1360_ h1z1359_ (by decide)
        have b1678_ : 0 ≤ Int32.toInt i1z1359_ ∧ Int32.toInt i1z1359_ ≤ 6 := zr_nle_r 6 c1361_ h1z1359_ b1677_ (by decide)
        have d1679_ : Int32.toInt (Mz1359_.1 8 1) > Int32.toInt i1z1359_ := Int.not_le.mp ((not_congr (zi_le _ _)).mp c1361_)
        refine pw_blkr hT 5 (pc := 30) (lo := [some (pvR 5), some (pvI i1z1359_), none]) (st := []) (M := Mz1359_) (z := (pvbs 10 + Int32.toNatClampNeg i1z1359_)) rfl ⟨trivial, rfl, rfl, trivial, ⟨rfl, (zr_in (n := 7) b1678_ (by decide) (by decide))⟩, trivial⟩ (fun q1680_ e1682_ => ?_)
        have k1681_ : pvkl q1680_ = 3 := pvel_10 (zr_in (n := 7) b1678_ (by decide) (by decide)) e1682_
        have b1683_ : 0 ≤ Int32.toInt (Mz1359_.1 q1680_ 5) ∧ Int32.toInt (Mz1359_.1 q1680_ 5) ≤ 1 := pvok_r oz1359_ q1680_ 5 ((pvrg_o 5 k1681_ (by decide) (by decide)).trans rfl)
        refine pw_blk hT 1 (S' := (33, [some (pvR 5), some (pvI i1z1359_), none], [pvI (Mz1359_.1 q1680_ 5)], Mz1359_)) rfl ⟨k1681_, trivial⟩ ?_
        refine pw_ifn hT (c := (Mz1359_.1 q1680_ 5) = 0) rfl rfl (fun c1684_ => ?_) (fun c1684_ => ?_)
        · have b1685_ : 1 ≤ Int32.toInt (Mz1359_.1 q1680_ 5) ∧ Int32.toInt (Mz1359_.1 q1680_ 5) ≤ 1 := (by have u0 := b1683_; have u1 := (not_congr (zi_eq _ _)).mp c1684_; have u2 := (show 0 ≤ Int32.toInt 0 ∧ Int32.toInt 0 ≤ 0 from (by decide)); omega)
          obtain ⟨q1687_, b1686_⟩ : (Int32.toInt (i1z1359_ + 1) = Int32.toInt i1z1359_ + 1) ∧ (1 ≤ Int32.toInt (i1z1359_ + 1) ∧ Int32.toInt (i1z1359_ + 1) ≤ 7) := zadd_k i1z1359_ 1 1 1 7 b1678_ (by decide) (by decide) (by decide) (by decide) (by decide)
          refine pw_blk hT 2 (S' := (10, [some (pvR 5), some (pvI (i1z1359_ + 1)), none], [], Mz1359_)) rfl ⟨trivial, trivial, trivial⟩ ?_
          exact ihz1359_ (i1z1359_ + 1) Mz1359_ oz1359_ fz1359_ (zr_wide b1686_ (by decide) (by decide)) (zhid (pvms_up (zshow hmz1359_) h1z1359_ q1687_ (by decide) (by decide)))
        · have b1688_ : 0 ≤ Int32.toInt (Mz1359_.1 q1680_ 5) ∧ Int32.toInt (Mz1359_.1 q1680_ 5) ≤ 0 := (by have u0 := b1683_; have u1 := (zi_eq _ _).mp c1684_; have u2 := (show 0 ≤ Int32.toInt 0 ∧ Int32.toInt 0 ≤ 0 from (by decide)); omega)
          refine pw_blk hT 4 (S' := (42, [some (pvR 5), some (pvI i1z1359_), none], [pvI 0, pvI i1z1359_, pvR 106], Mz1359_)) rfl ⟨trivial, rfl, trivial, trivial, trivial⟩ ?_
          refine pw_callG hT (as := [pvR 106, pvI i1z1359_, pvI 0]) (lo1 := [some (pvR 106), some (pvI i1z1359_), some (pvI 0)]) (d1 := d) (rest := []) rfl rfl rfl rfl rfl (fun _ => rfl) (Nat.zero_le _) rfl rfl rfl (sf_X6_append_106_x_x Mz1359_ oz1359_ i1z1359_ 0 b1678_ (zr_wide (show 0 ≤ Int32.toInt 0 ∧ Int32.toInt 0 ≤ 0 from (by decide)) (by decide) (by decide)) d) (fun x1689_ M1690_ b1691_ o1692_ g1693_ => ?_)
          have f1694_ : pvFr fp_X1_seekBest_5 M M1690_ := pvfr_t g1693_ fz1359_ fp_X1_seekBest_5_fp_X6_append_106_x_x
          obtain ⟨q1696_, b1695_⟩ : (Int32.toInt (i1z1359_ + 1) = Int32.toInt i1z1359_ + 1) ∧ (1 ≤ Int32.toInt (i1z1359_ + 1) ∧ Int32.toInt (i1z1359_ + 1) ≤ 7) := zadd_k i1z1359_ 1 1 1 7 b1678_ (by decide) (by decide) (by decide) (by decide) (by decide)
          refine pw_blk hT 3 (S' := (10, [some (pvR 5), some (pvI (i1z1359_ + 1)), none], [], M1690_)) rfl ⟨trivial, trivial, trivial, trivial⟩ ?_
          exact ihz1359_ (i1z1359_ + 1) M1690_ o1692_ f1694_ (zr_wide b1695_ (by decide) (by decide)) (zhid (pvms_up (zshow hmz1359_) h1z1359_ q1696_ (by decide) (by decide)))
  exact hlz1359_ _ 0 M2_ o4_ f6_ (zr_wide (show 0 ≤ Int32.toInt 0 ∧ Int32.toInt 0 ≤ 0 from (by decide)) (by decide) (by decide)) (zhid (Nat.lt_succ_self _))
