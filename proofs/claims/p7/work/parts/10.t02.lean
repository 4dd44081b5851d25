set_option maxHeartbeats 4000000 in
set_option maxRecDepth 10000 in
theorem sf_X10_hasOther_124_x_x (M : pvM) (hok : pvOk M) (n1 : Int32) (n2 : Int32) (hn1 : 0 ≤ Int32.toInt n1 ∧ Int32.toInt n1 ≤ 6) (d : Nat) : PW 32 d (0, [some (pvR 124), some (pvI n1), some (pvI n2), none], [], M) (fun r X => (∃ x : Int32, r = some (pvI x) ∧ 0 ≤ Int32.toInt x ∧ Int32.toInt x ≤ 1) ∧ X = M) := by
  have hT : pvdom 32 = pvD_32 := rfl
  refine pw_blk hT 2 (S' := (2, [some (pvR 124), some (pvI n1), some (pvI n2), some (pvI 0)], [], M)) rfl ⟨trivial, trivial, trivial⟩ ?_
  have hlz105_ : ∀ (nz105_ : Nat) (i3z105_ : Int32), (0 ≤ Int32.toInt i3z105_ ∧ Int32.toInt i3z105_ ≤ 7) → ((8 - Int32.toInt i3z105_).toNat < nz105_) → PW 32 d (2, [some (pvR 124), some (pvI n1), some (pvI n2), some (pvI i3z105_)], [], M) (fun r X => (∃ x : Int32, r = some (pvI x) ∧ 0 ≤ Int32.toInt x ∧ Int32.toInt x ≤ 1) ∧ X = M) := by
    intro nz105_
    induction nz105_ with
    | zero => intro i3z105_ h3z105_ hmz105_; exact absurd hmz105_ (Nat.not_lt_zero _)
    | succ nz105_ ihz105_ =>
      intro i3z105_ h3z105_ hmz105_
      have b106_ : 0 ≤ Int32.toInt (M.1 124 0) ∧ Int32.toInt (M.1 124 0) ≤ 7 := pvok_r hok 124 0 rfl
      refine pw_blk hT 3 (S' := (7, [some (pvR 124), some (pvI n1), some (pvI n2), some (pvI i3z105_)], [pvI (M.1 124 0), pvI i3z105_], M)) rfl ⟨trivial, trivial, rfl, trivial⟩ ?_
      refine pw_ic hT (c := (M.1 124 0) ≤ i3z105_) rfl rfl (fun c107_ => ?_) (fun c107_ => ?_)
      · have d108_ : Int32.toInt (M.1 124 0) ≤ Int32.toInt i3z105_ := (zi_le _ _).mp c107_
        refine pw_blk hT 1 (S' := (43, [some (pvR 124), some (pvI n1), some (pvI n2), some (pvI i3z105_)], [pvI 0], M)) rfl ⟨trivial, trivial⟩ ?_
        exact pw_ret hT rfl (r := some (pvI 0)) (M' := M) ⟨Or.inl rfl, rfl, rfl⟩ ⟨⟨_, rfl, (zr_wide (show 0 ≤ Int32.toInt 0 ∧ Int32.toInt 0 ≤ 0 from (by decide)) (by decide) (by decide))⟩, rfl⟩
      · have b109_ : 1 ≤ Int32.toInt (M.1 124 0) ∧ Int32.toInt (M.1 124 0) ≤ 7 := zr_nle_l 1 c107_ b106_ h3z105_ (by decide)
        have b110_ : 0 ≤ Int32.toInt i3z105_ ∧ Int32.toInt i3z105_ ≤ 6 := zr_nle_r 6 c107_ h3z105_ b109_ (by decide)
        have d111_ : Int32.toInt (M.1 124 0) > Int32.toInt i3z105_ := Int.not_le.mp ((not_congr (zi_le _ _)).mp c107_)
        refine pw_blk hT 2 (S' := (12, [some (pvR 124), some (pvI n1), some (pvI n2), some (pvI i3z105_)], [pvI n1, pvI i3z105_], M)) rfl ⟨trivial, trivial, trivial⟩ ?_
        refine pw_ic hT (c := i3z105_ = n1) rfl rfl (fun c112_ => ?_) (fun c112_ => ?_)
        · have d113_ : Int32.toInt i3z105_ = Int32.toInt n1 := (zi_eq _ _).mp c112_
          obtain ⟨q115_, b114_⟩ : (Int32.toInt (i3z105_ + 1) = Int32.toInt i3z105_ + Int32.toInt 1) ∧ (1 ≤ Int32.toInt (i3z105_ + 1) ∧ Int32.toInt (i3z105_ + 1) ≤ 7) := zadd_r i3z105_ 1 1 7 b110_ (show 1 ≤ Int32.toInt 1 ∧ Int32.toInt 1 ≤ 1 from (by decide)) (by decide) (by decide) (by decide) (by decide)
          have u116_ : Int32.toInt 1 = 1 := by decide
          refine pw_blk hT 2 (S' := (2, [some (pvR 124), some (pvI n1), some (pvI n2), some (pvI (i3z105_ + 1))], [], M)) rfl ⟨trivial, trivial, trivial⟩ ?_
          exact ihz105_ (i3z105_ + 1) (zr_wide b114_ (by decide) (by decide)) (by omega)
        · have b117_ : 0 ≤ Int32.toInt (M.1 125 (Int32.toNatClampNeg i3z105_)) ∧ Int32.toInt (M.1 125 (Int32.toNatClampNeg i3z105_)) ≤ 6 := pvok_r hok 125 (Int32.toNatClampNeg i3z105_) rfl
          refine pw_blk hT 5 (S' := (22, [some (pvR 124), some (pvI n1), some (pvI n2), some (pvI i3z105_)], [pvI 4, pvI (M.1 125 (Int32.toNatClampNeg i3z105_))], M)) rfl ⟨trivial, rfl, trivial, ⟨rfl, (zr_in (n := 7) b110_ (by decide) (by decide))⟩, trivial, trivial⟩ ?_
          refine pw_icn hT (c := (M.1 125 (Int32.toNatClampNeg i3z105_)) = 4) rfl rfl (fun c118_ => ?_) (fun c118_ => ?_)
          · obtain ⟨q120_, b119_⟩ : (Int32.toInt (i3z105_ + 1) = Int32.toInt i3z105_ + Int32.toInt 1) ∧ (1 ≤ Int32.toInt (i3z105_ + 1) ∧ Int32.toInt (i3z105_ + 1) ≤ 7) := zadd_r i3z105_ 1 1 7 b110_ (show 1 ≤ Int32.toInt 1 ∧ Int32.toInt 1 ≤ 1 from (by decide)) (by decide) (by decide) (by decide) (by decide)
            have u121_ : Int32.toInt 1 = 1 := by decide
            refine pw_blk hT 2 (S' := (2, [some (pvR 124), some (pvI n1), some (pvI n2), some (pvI (i3z105_ + 1))], [], M)) rfl ⟨trivial, trivial, trivial⟩ ?_
            exact ihz105_ (i3z105_ + 1) (zr_wide b119_ (by decide) (by decide)) (by omega)
          · have b122_ : 4 ≤ Int32.toInt (M.1 125 (Int32.toNatClampNeg i3z105_)) ∧ Int32.toInt (M.1 125 (Int32.toNatClampNeg i3z105_)) ≤ 4 := (by have u0 := b117_; have u1 := (zi_eq _ _).mp c118_; have u2 := (show 4 ≤ Int32.toInt 4 ∧ Int32.toInt 4 ≤ 4 from (by decide)); omega)
            refine pw_blk hT 3 (S' := (28, [some (pvR 124), some (pvI n1), some (pvI n2), some (pvI i3z105_)], [pvI n2, pvI i3z105_, pvR 124], M)) rfl ⟨trivial, trivial, trivial, trivial⟩ ?_
            refine pw_callT hT (as := [pvR 124, pvI i3z105_, pvI n2]) (lo1 := [some (pvR 124), some (pvI i3z105_), some (pvI n2)]) (d1 := d) (rest := []) rfl rfl rfl rfl rfl (fun _ => rfl) (Nat.zero_le _) rfl rfl rfl (sf_X10_isOpenAt_124_x_x M hok i3z105_ n2 b110_ d) ?_
            have b128_ : (-1) ≤ Int32.toInt (M.1 143 (Int32.toNatClampNeg i3z105_)) ∧ Int32.toInt (M.1 143 (Int32.toNatClampNeg i3z105_)) ≤ 99999 := pvok_r hok 143 (Int32.toNatClampNeg i3z105_) rfl
            by_cases c129_ : (M.1 143 (Int32.toNatClampNeg i3z105_)) ≤ n2
            · refine pw_eqI (if_pos c129_) ?_
              have b130_ : (-1) ≤ Int32.toInt n2 ∧ Int32.toInt n2 ≤ 2147483647 := zr_le_r (-1) c129_ (zbnd n2) b128_ (by decide)
              have d131_ : Int32.toInt (M.1 143 (Int32.toNatClampNeg i3z105_)) ≤ Int32.toInt n2 := (zi_le _ _).mp c129_
              show PW 32 d (31, [some (pvR 124), some (pvI n1), some (pvI n2), some (pvI i3z105_)], [pvI 0], M) _
              refine pw_if hT (c := 0 = 0) rfl rfl (fun c132_ => ?_) (fun c132_ => absurd (by decide) c132_)
              obtain ⟨q134_, b133_⟩ : (Int32.toInt (i3z105_ + 1) = Int32.toInt i3z105_ + Int32.toInt 1) ∧ (1 ≤ Int32.toInt (i3z105_ + 1) ∧ Int32.toInt (i3z105_ + 1) ≤ 7) := zadd_r i3z105_ 1 1 7 b110_ (show 1 ≤ Int32.toInt 1 ∧ Int32.toInt 1 ≤ 1 from (by decide)) (by decide) (by decide) (by decide) (by decide)
              have u135_ : Int32.toInt 1 = 1 := by decide
              refine pw_blk hT 2 (S' := (2, [some (pvR 124), some (pvI n1), some (pvI n2), some (pvI (i3z105_ + 1))], [], M)) rfl ⟨trivial, trivial, trivial⟩ ?_
              exact ihz105_ (i3z105_ + 1) (zr_wide b133_ (by decide) (by decide)) (by omega)
            · refine pw_eqI (if_neg c129_) ?_
              have b136_ : (-2147483648) ≤ Int32.toInt n2 ∧ Int32.toInt n2 ≤ 99998 := zr_nle_r 99998 c129_ (zbnd n2) b128_ (by decide)
              have d137_ : Int32.toInt (M.1 143 (Int32.toNatClampNeg i3z105_)) > Int32.toInt n2 := Int.not_le.mp ((not_congr (zi_le _ _)).mp c129_)
              show PW 32 d (31, [some (pvR 124), some (pvI n1), some (pvI n2), some (pvI i3z105_)], [pvI 1], M) _
              refine pw_if hT (c := 1 = 0) rfl rfl (fun c138_ => absurd c138_ (by decide)) (fun c138_ => ?_)
              refine pw_blk hT 1 (S' := (35, [some (pvR 124), some (pvI n1), some (pvI n2), some (pvI i3z105_)], [pvI 1], M)) rfl ⟨trivial, trivial⟩ ?_
              exact pw_ret hT rfl (r := some (pvI 1)) (M' := M) ⟨Or.inr rfl, rfl, rfl⟩ ⟨⟨_, rfl, (zr_wide (show 1 ≤ Int32.toInt 1 ∧ Int32.toInt 1 ≤ 1 from (by decide)) (by decide) (by decide))⟩, rfl⟩
  exact hlz105_ _ 0 (zr_wide (show 0 ≤ Int32.toInt 0 ∧ Int32.toInt 0 ≤ 0 from (by decide)) (by decide) (by decide)) (Nat.lt_succ_self _)
set_option maxHeartbeats 4000000 in
set_option maxRecDepth 10000 in
theorem sf_X10_harm_124_x_x (M : pvM) (hok : pvOk M) (n1 : Int32) (n2 : Int32) (hn1 : 0 ≤ Int32.toInt n1 ∧ Int32.toInt n1 ≤ 6) (hn2 : 0 ≤ Int32.toInt n2 ∧ Int32.toInt n2 ≤ 200000) (d : Nat) : PW 26 d (0, [some (pvR 124), some (pvI n1), some (pvI n2), none, none], [], M) (fun r X => (∃ x : Int32, r = some (pvI x) ∧ 0 ≤ Int32.toInt x ∧ Int32.toInt x ≤ 12009) ∧ X = M) := by
  have hT : pvdom 26 = pvD_26 := rfl
  have b1_ : 0 ≤ Int32.toInt (M.1 124 3) ∧ Int32.toInt (M.1 124 3) ≤ 108 := pvok_r hok 124 3 rfl
  obtain ⟨q3_, b2_⟩ : (Int32.toInt (n2 - (M.1 124 3)) = Int32.toInt n2 - Int32.toInt (M.1 124 3)) ∧ ((-108) ≤ Int32.toInt (n2 - (M.1 124 3)) ∧ Int32.toInt (n2 - (M.1 124 3)) ≤ 200000) := zsub_r n2 (M.1 124 3) (-108) 200000 hn2 b1_ (by decide) (by decide) (by decide) (by decide)
  refine pw_blk hT 6 (S' := (8, [some (pvR 124), some (pvI n1), some (pvI n2), some (pvI (n2 - (M.1 124 3))), none], [pvI (n2 - (M.1 124 3))], M)) rfl ⟨trivial, trivial, rfl, trivial, trivial, trivial, trivial⟩ ?_
  refine pw_if hT (c := (n2 - (M.1 124 3)) < 0) rfl rfl (fun c4_ => ?_) (fun c4_ => ?_)
  · have b5_ : (-108) ≤ Int32.toInt (n2 - (M.1 124 3)) ∧ Int32.toInt (n2 - (M.1 124 3)) ≤ (-1) := zr_lt_l (-1) c4_ b2_ (show 0 ≤ Int32.toInt 0 ∧ Int32.toInt 0 ≤ 0 from (by decide)) (by decide)
    refine pw_blk hT 1 (S' := (29, [some (pvR 124), some (pvI n1), some (pvI n2), some (pvI (n2 - (M.1 124 3))), none], [pvI 0], M)) rfl ⟨trivial, trivial⟩ ?_
    exact pw_ret hT rfl (r := some (pvI 0)) (M' := M) ⟨rfl, rfl⟩ ⟨⟨_, rfl, (zr_wide (show 0 ≤ Int32.toInt 0 ∧ Int32.toInt 0 ≤ 0 from (by decide)) (by decide) (by decide))⟩, rfl⟩
  · have b6_ : 0 ≤ Int32.toInt (n2 - (M.1 124 3)) ∧ Int32.toInt (n2 - (M.1 124 3)) ≤ 200000 := zr_nlt_l 0 c4_ b2_ (show 0 ≤ Int32.toInt 0 ∧ Int32.toInt 0 ≤ 0 from (by decide)) (by decide)
    refine pw_blk hT 2 (S' := (13, [some (pvR 124), some (pvI n1), some (pvI n2), some (pvI (n2 - (M.1 124 3))), none], [pvR 124, pvI (n2 - (M.1 124 3))], M)) rfl ⟨trivial, trivial, trivial⟩ ?_
    refine pw_callGp hT (as := [pvR 124]) (lo1 := [some (pvR 124)]) (d1 := d) (rest := [pvI (n2 - (M.1 124 3))]) rfl rfl rfl rfl rfl (fun _ => rfl) (Nat.zero_le _) rfl rfl rfl (sf_X10_lastNow_124 M hok d) (fun x7_ b9_ => ?_)
    refine pw_ic hT (c := x7_ ≤ (n2 - (M.1 124 3))) rfl rfl (fun c12_ => ?_) (fun c12_ => ?_)
    · have d13_ : Int32.toInt x7_ ≤ Int32.toInt (n2 - (M.1 124 3)) := (zi_le _ _).mp c12_
      refine pw_blk hT 1 (S' := (29, [some (pvR 124), some (pvI n1), some (pvI n2), some (pvI (n2 - (M.1 124 3))), none], [pvI 0], M)) rfl ⟨trivial, trivial⟩ ?_
      exact pw_ret hT rfl (r := some (pvI 0)) (M' := M) ⟨rfl, rfl⟩ ⟨⟨_, rfl, (zr_wide (show 0 ≤ Int32.toInt 0 ∧ Int32.toInt 0 ≤ 0 from (by decide)) (by decide) (by decide))⟩, rfl⟩
    · have b14_ : 1 ≤ Int32.toInt x7_ ∧ Int32.toInt x7_ ≤ 99 := zr_nle_l 1 c12_ b9_ b6_ (by decide)
      have b15_ : 0 ≤ Int32.toInt (n2 - (M.1 124 3)) ∧ Int32.toInt (n2 - (M.1 124 3)) ≤ 98 := zr_nle_r 98 c12_ b6_ b14_ (by decide)
      have d16_ : Int32.toInt x7_ > Int32.toInt (n2 - (M.1 124 3)) := Int.not_le.mp ((not_congr (zi_le _ _)).mp c12_)
      refine pw_blk hT 3 (S' := (22, [some (pvR 124), some (pvI n1), some (pvI n2), some (pvI (n2 - (M.1 124 3))), none], [pvI n2, pvI n1, pvR 124], M)) rfl ⟨trivial, trivial, trivial, trivial⟩ ?_
      refine pw_callT hT (as := [pvR 124, pvI n1, pvI n2]) (lo1 := [some (pvR 124), some (pvI n1), some (pvI n2)]) (d1 := d) (rest := []) rfl rfl rfl rfl rfl (fun _ => rfl) (Nat.zero_le _) rfl rfl rfl (sf_X10_isOpenAt_124_x_x M hok n1 n2 hn1 d) ?_
      have b22_ : (-1) ≤ Int32.toInt (M.1 143 (Int32.toNatClampNeg n1)) ∧ Int32.toInt (M.1 143 (Int32.toNatClampNeg n1)) ≤ 99999 := pvok_r hok 143 (Int32.toNatClampNeg n1) rfl
      by_cases c23_ : (M.1 143 (Int32.toNatClampNeg n1)) ≤ n2
      · refine pw_eqI (if_pos c23_) ?_
        have d24_ : Int32.toInt (M.1 143 (Int32.toNatClampNeg n1)) ≤ Int32.toInt n2 := (zi_le _ _).mp c23_
        show PW 26 d (25, [some (pvR 124), some (pvI n1), some (pvI n2), some (pvI (n2 - (M.1 124 3))), none], [pvI 0], M) _
        refine pw_ifn hT (c := 0 = 0) rfl rfl (fun c25_ => absurd (by decide) c25_) (fun c25_ => ?_)
        refine pw_blk hT 1 (S' := (29, [some (pvR 124), some (pvI n1), some (pvI n2), some (pvI (n2 - (M.1 124 3))), none], [pvI 0], M)) rfl ⟨trivial, trivial⟩ ?_
        exact pw_ret hT rfl (r := some (pvI 0)) (M' := M) ⟨rfl, rfl⟩ ⟨⟨_, rfl, (zr_wide (show 0 ≤ Int32.toInt 0 ∧ Int32.toInt 0 ≤ 0 from (by decide)) (by decide) (by decide))⟩, rfl⟩
      · refine pw_eqI (if_neg c23_) ?_
        have b26_ : 1 ≤ Int32.toInt (M.1 143 (Int32.toNatClampNeg n1)) ∧ Int32.toInt (M.1 143 (Int32.toNatClampNeg n1)) ≤ 99999 := zr_nle_l 1 c23_ b22_ hn2 (by decide)
        have b27_ : 0 ≤ Int32.toInt n2 ∧ Int32.toInt n2 ≤ 99998 := zr_nle_r 99998 c23_ hn2 b26_ (by decide)
        have d28_ : Int32.toInt (M.1 143 (Int32.toNatClampNeg n1)) > Int32.toInt n2 := Int.not_le.mp ((not_congr (zi_le _ _)).mp c23_)
        show PW 26 d (25, [some (pvR 124), some (pvI n1), some (pvI n2), some (pvI (n2 - (M.1 124 3))), none], [pvI 1], M) _
        refine pw_ifn hT (c := 1 = 0) rfl rfl (fun c29_ => ?_) (fun c29_ => absurd c29_ (by decide))
        have q30_ : Int32.toInt (99 * n1) = 99 * Int32.toInt n1 := by have u0 : Int32.toInt 99 = 99 := (by decide); have u1 := hn1; have u2 := zmul 99 n1 (by rw [u0]; omega) (by rw [u0]; omega); rw [u0] at u2; omega
        have b31_ : 0 ≤ Int32.toInt (99 * n1) ∧ Int32.toInt (99 * n1) ≤ 594 := (by have u1 := hn1; omega)
        obtain ⟨q33_, b32_⟩ : (Int32.toInt ((99 * n1) + (n2 - (M.1 124 3))) = Int32.toInt (99 * n1) + Int32.toInt (n2 - (M.1 124 3))) ∧ (0 ≤ Int32.toInt ((99 * n1) + (n2 - (M.1 124 3))) ∧ Int32.toInt ((99 * n1) + (n2 - (M.1 124 3))) ≤ 692) := zadd_r (99 * n1) (n2 - (M.1 124 3)) 0 692 b31_ b15_ (by decide) (by decide) (by decide) (by decide)
        have b34_ : 0 ≤ Int32.toInt (M.1 142 (Int32.toNatClampNeg ((99 * n1) + (n2 - (M.1 124 3))))) ∧ Int32.toInt (M.1 142 (Int32.toNatClampNeg ((99 * n1) + (n2 - (M.1 124 3))))) ≤ 6000 := pvok_r hok 142 (Int32.toNatClampNeg ((99 * n1) + (n2 - (M.1 124 3)))) rfl
        have b35_ : 0 ≤ Int32.toInt (M.1 125 (Int32.toNatClampNeg n1)) ∧ Int32.toInt (M.1 125 (Int32.toNatClampNeg n1)) ≤ 6 := pvok_r hok 125 (Int32.toNatClampNeg n1) rfl
        refine pw_blk hT 13 (S' := (49, [some (pvR 124), some (pvI n1), some (pvI n2), some (pvI (n2 - (M.1 124 3))), some (pvI (M.1 142 (Int32.toNatClampNeg ((99 * n1) + (n2 - (M.1 124 3))))))], [pvI (M.1 125 (Int32.toNatClampNeg n1))], M)) rfl ⟨trivial, rfl, trivial, trivial, trivial, trivial, trivial, ⟨rfl, (zr_in (n := 693) b32_ (by decide) (by decide))⟩, trivial, trivial, rfl, trivial, ⟨rfl, (zr_in (n := 7) hn1 (by decide) (by decide))⟩, trivial⟩ ?_
        refine pw_sw hT rfl rfl ?_
        refine And.intro (fun c36_ => ?_) (fun c36_ => ?_)
        · show PW 26 d (84, [some (pvR 124), some (pvI n1), some (pvI n2), some (pvI (n2 - (M.1 124 3))), some (pvI (M.1 142 (Int32.toNatClampNeg ((99 * n1) + (n2 - (M.1 124 3))))))], [], M) _
          have b37_ : 2 ≤ Int32.toInt (M.1 125 (Int32.toNatClampNeg n1)) ∧ Int32.toInt (M.1 125 (Int32.toNatClampNeg n1)) ≤ 2 := (by have u0 := b35_; have u1 := (zi_eq _ _).mp c36_; have u2 := (show 2 ≤ Int32.toInt 2 ∧ Int32.toInt 2 ≤ 2 from (by decide)); omega)
          have q38_ : Int32.toInt ((M.1 142 (Int32.toNatClampNeg ((99 * n1) + (n2 - (M.1 124 3))))) / 2) = Int32.toInt (M.1 142 (Int32.toNatClampNeg ((99 * n1) + (n2 - (M.1 124 3))))) / 2 := by have u0 := b34_; have u := zdiv_p (M.1 142 (Int32.toNatClampNeg ((99 * n1) + (n2 - (M.1 124 3))))) 2 (by omega) (by decide) (by decide); have e0 : nI 2 = (2 : Int32) := rfl; rw [e0] at u; omega
          have b39_ : 0 ≤ Int32.toInt ((M.1 142 (Int32.toNatClampNeg ((99 * n1) + (n2 - (M.1 124 3))))) / 2) ∧ Int32.toInt ((M.1 142 (Int32.toNatClampNeg ((99 * n1) + (n2 - (M.1 124 3))))) / 2) ≤ 3000 := (by have u0 := b34_; omega)
          refine pw_blk hT 3 (S' := (88, [some (pvR 124), some (pvI n1), some (pvI n2), some (pvI (n2 - (M.1 124 3))), some (pvI (M.1 142 (Int32.toNatClampNeg ((99 * n1) + (n2 - (M.1 124 3))))))], [pvI ((M.1 142 (Int32.toNatClampNeg ((99 * n1) + (n2 - (M.1 124 3))))) / 2)], M)) rfl ⟨trivial, trivial, (by decide), trivial⟩ ?_
          exact pw_ret hT rfl (r := some (pvI ((M.1 142 (Int32.toNatClampNeg ((99 * n1) + (n2 - (M.1 124 3))))) / 2))) (M' := M) ⟨rfl, rfl⟩ ⟨⟨_, rfl, (zr_wide b39_ (by decide) (by decide))⟩, rfl⟩
        · refine And.intro (fun c40_ => ?_) (fun c40_ => ?_)
          · show PW 26 d (89, [some (pvR 124), some (pvI n1), some (pvI n2), some (pvI (n2 - (M.1 124 3))), some (pvI (M.1 142 (Int32.toNatClampNeg ((99 * n1) + (n2 - (M.1 124 3))))))], [], M) _
            have b41_ : 3 ≤ Int32.toInt (M.1 125 (Int32.toNatClampNeg n1)) ∧ Int32.toInt (M.1 125 (Int32.toNatClampNeg n1)) ≤ 3 := (by have u0 := b35_; have u1 := (zi_eq _ _).mp c40_; have u2 := (show 3 ≤ Int32.toInt 3 ∧ Int32.toInt 3 ≤ 3 from (by decide)); omega)
            have q42_ : Int32.toInt (2 * (M.1 142 (Int32.toNatClampNeg ((99 * n1) + (n2 - (M.1 124 3)))))) = 2 * Int32.toInt (M.1 142 (Int32.toNatClampNeg ((99 * n1) + (n2 - (M.1 124 3))))) := by have u0 : Int32.toInt 2 = 2 := (by decide); have u1 := b34_; have u2 := zmul 2 (M.1 142 (Int32.toNatClampNeg ((99 * n1) + (n2 - (M.1 124 3))))) (by rw [u0]; omega) (by rw [u0]; omega); rw [u0] at u2; omega
            have b43_ : 0 ≤ Int32.toInt (2 * (M.1 142 (Int32.toNatClampNeg ((99 * n1) + (n2 - (M.1 124 3)))))) ∧ Int32.toInt (2 * (M.1 142 (Int32.toNatClampNeg ((99 * n1) + (n2 - (M.1 124 3)))))) ≤ 12000 := (by have u1 := b34_; omega)
            refine pw_blk hT 3 (S' := (93, [some (pvR 124), some (pvI n1), some (pvI n2), some (pvI (n2 - (M.1 124 3))), some (pvI (M.1 142 (Int32.toNatClampNeg ((99 * n1) + (n2 - (M.1 124 3))))))], [pvI (2 * (M.1 142 (Int32.toNatClampNeg ((99 * n1) + (n2 - (M.1 124 3))))))], M)) rfl ⟨trivial, trivial, trivial, trivial⟩ ?_
            exact pw_ret hT rfl (r := some (pvI (2 * (M.1 142 (Int32.toNatClampNeg ((99 * n1) + (n2 - (M.1 124 3)))))))) (M' := M) ⟨rfl, rfl⟩ ⟨⟨_, rfl, (zr_wide b43_ (by decide) (by decide))⟩, rfl⟩
          · refine And.intro (fun c44_ => ?_) (fun c44_ => ?_)
            · show PW 26 d (94, [some (pvR 124), some (pvI n1), some (pvI n2), some (pvI (n2 - (M.1 124 3))), some (pvI (M.1 142 (Int32.toNatClampNeg ((99 * n1) + (n2 - (M.1 124 3))))))], [], M) _
              have b45_ : 4 ≤ Int32.toInt (M.1 125 (Int32.toNatClampNeg n1)) ∧ Int32.toInt (M.1 125 (Int32.toNatClampNeg n1)) ≤ 4 := (by have u0 := b35_; have u1 := (zi_eq _ _).mp c44_; have u2 := (show 4 ≤ Int32.toInt 4 ∧ Int32.toInt 4 ≤ 4 from (by decide)); omega)
              refine pw_blk hT 3 (S' := (97, [some (pvR 124), some (pvI n1), some (pvI n2), some (pvI (n2 - (M.1 124 3))), some (pvI (M.1 142 (Int32.toNatClampNeg ((99 * n1) + (n2 - (M.1 124 3))))))], [pvI n2, pvI n1, pvR 124], M)) rfl ⟨trivial, trivial, trivial, trivial⟩ ?_
              refine pw_callGp hT (as := [pvR 124, pvI n1, pvI n2]) (lo1 := [some (pvR 124), some (pvI n1), some (pvI n2), none]) (d1 := d) (rest := []) rfl rfl rfl rfl rfl (fun _ => rfl) (Nat.zero_le _) rfl rfl rfl (sf_X10_hasOther_124_x_x M hok n1 n2 hn1 d) (fun x46_ b48_ => ?_)
              refine pw_if hT (c := x46_ = 0) rfl rfl (fun c51_ => ?_) (fun c51_ => ?_)
              · have b52_ : 0 ≤ Int32.toInt x46_ ∧ Int32.toInt x46_ ≤ 0 := (by have u0 := b48_; have u1 := (zi_eq _ _).mp c51_; have u2 := (show 0 ≤ Int32.toInt 0 ∧ Int32.toInt 0 ≤ 0 from (by decide)); omega)
                refine pw_blk hT 1 (S' := (117, [some (pvR 124), some (pvI n1), some (pvI n2), some (pvI (n2 - (M.1 124 3))), some (pvI (M.1 142 (Int32.toNatClampNeg ((99 * n1) + (n2 - (M.1 124 3))))))], [pvI (M.1 142 (Int32.toNatClampNeg ((99 * n1) + (n2 - (M.1 124 3)))))], M)) rfl ⟨trivial, trivial⟩ ?_
                exact pw_ret hT rfl (r := some (pvI (M.1 142 (Int32.toNatClampNeg ((99 * n1) + (n2 - (M.1 124 3))))))) (M' := M) ⟨rfl, rfl⟩ ⟨⟨_, rfl, (zr_wide b34_ (by decide) (by decide))⟩, rfl⟩
              · have b53_ : 1 ≤ Int32.toInt x46_ ∧ Int32.toInt x46_ ≤ 1 := (by have u0 := b48_; have u1 := (not_congr (zi_eq _ _)).mp c51_; have u2 := (show 0 ≤ Int32.toInt 0 ∧ Int32.toInt 0 ≤ 0 from (by decide)); omega)
                have b54_ : 0 ≤ Int32.toInt (M.1 126 (Int32.toNatClampNeg n1)) ∧ Int32.toInt (M.1 126 (Int32.toNatClampNeg n1)) ≤ 9 := pvok_r hok 126 (Int32.toNatClampNeg n1) rfl
                obtain ⟨q56_, b55_⟩ : (Int32.toInt ((M.1 142 (Int32.toNatClampNeg ((99 * n1) + (n2 - (M.1 124 3))))) + (M.1 126 (Int32.toNatClampNeg n1))) = Int32.toInt (M.1 142 (Int32.toNatClampNeg ((99 * n1) + (n2 - (M.1 124 3))))) + Int32.toInt (M.1 126 (Int32.toNatClampNeg n1))) ∧ (0 ≤ Int32.toInt ((M.1 142 (Int32.toNatClampNeg ((99 * n1) + (n2 - (M.1 124 3))))) + (M.1 126 (Int32.toNatClampNeg n1))) ∧ Int32.toInt ((M.1 142 (Int32.toNatClampNeg ((99 * n1) + (n2 - (M.1 124 3))))) + (M.1 126 (Int32.toNatClampNeg n1))) ≤ 6009) := zadd_r (M.1 142 (Int32.toNatClampNeg ((99 * n1) + (n2 - (M.1 124 3))))) (M.1 126 (Int32.toNatClampNeg n1)) 0 6009 b34_ b54_ (by decide) (by decide) (by decide) (by decide)
                refine pw_blk hT 7 (S' := (117, [some (pvR 124), some (pvI n1), some (pvI n2), some (pvI (n2 - (M.1 124 3))), some (pvI (M.1 142 (Int32.toNatClampNeg ((99 * n1) + (n2 - (M.1 124 3))))))], [pvI ((M.1 142 (Int32.toNatClampNeg ((99 * n1) + (n2 - (M.1 124 3))))) + (M.1 126 (Int32.toNatClampNeg n1)))], M)) rfl ⟨trivial, trivial, rfl, trivial, ⟨rfl, (zr_in (n := 7) hn1 (by decide) (by decide))⟩, trivial, trivial, trivial⟩ ?_
                exact pw_ret hT rfl (r := some (pvI ((M.1 142 (Int32.toNatClampNeg ((99 * n1) + (n2 - (M.1 124 3))))) + (M.1 126 (Int32.toNatClampNeg n1))))) (M' := M) ⟨rfl, rfl⟩ ⟨⟨_, rfl, (zr_wide b55_ (by decide) (by decide))⟩, rfl⟩
            · refine And.intro (fun c57_ => ?_) (fun c57_ => ?_)
              · show PW 26 d (118, [some (pvR 124), some (pvI n1), some (pvI n2), some (pvI (n2 - (M.1 124 3))), some (pvI (M.1 142 (Int32.toNatClampNeg ((99 * n1) + (n2 - (M.1 124 3))))))], [], M) _
                have b58_ : 5 ≤ Int32.toInt (M.1 125 (Int32.toNatClampNeg n1)) ∧ Int32.toInt (M.1 125 (Int32.toNatClampNeg n1)) ≤ 5 := (by have u0 := b35_; have u1 := (zi_eq _ _).mp c57_; have u2 := (show 5 ≤ Int32.toInt 5 ∧ Int32.toInt 5 ≤ 5 from (by decide)); omega)
                have b59_ : 0 ≤ Int32.toInt (M.1 124 4) ∧ Int32.toInt (M.1 124 4) ≤ 4 := pvok_r hok 124 4 rfl
                have b60_ : 0 ≤ Int32.toInt (M.1 126 (Int32.toNatClampNeg n1)) ∧ Int32.toInt (M.1 126 (Int32.toNatClampNeg n1)) ≤ 9 := pvok_r hok 126 (Int32.toNatClampNeg n1) rfl
                have b61_ : 0 ≤ Int32.toInt ((M.1 126 (Int32.toNatClampNeg n1)) - (M.1 126 (Int32.toNatClampNeg n1)) / 4 * 4) ∧ Int32.toInt ((M.1 126 (Int32.toNatClampNeg n1)) - (M.1 126 (Int32.toNatClampNeg n1)) / 4 * 4) ≤ 3 := (by have u0 := b60_; have u := zrem_p (M.1 126 (Int32.toNatClampNeg n1)) 4 (by omega) (by decide) (by decide); have e0 : nI 4 = (4 : Int32) := rfl; rw [e0] at u; omega)
                refine pw_blk hT 8 (S' := (130, [some (pvR 124), some (pvI n1), some (pvI n2), some (pvI (n2 - (M.1 124 3))), some (pvI (M.1 142 (Int32.toNatClampNeg ((99 * n1) + (n2 - (M.1 124 3))))))], [pvI ((M.1 126 (Int32.toNatClampNeg n1)) - (M.1 126 (Int32.toNatClampNeg n1)) / 4 * 4), pvI (M.1 124 4)], M)) rfl ⟨trivial, rfl, trivial, rfl, trivial, ⟨rfl, (zr_in (n := 7) hn1 (by decide) (by decide))⟩, trivial, (by decide), trivial⟩ ?_
                refine pw_icn hT (c := (M.1 124 4) = ((M.1 126 (Int32.toNatClampNeg n1)) - (M.1 126 (Int32.toNatClampNeg n1)) / 4 * 4)) rfl rfl (fun c62_ => ?_) (fun c62_ => ?_)
                · refine pw_blk hT 1 (S' := (141, [some (pvR 124), some (pvI n1), some (pvI n2), some (pvI (n2 - (M.1 124 3))), some (pvI (M.1 142 (Int32.toNatClampNeg ((99 * n1) + (n2 - (M.1 124 3))))))], [pvI 0], M)) rfl ⟨trivial, trivial⟩ ?_
                  exact pw_ret hT rfl (r := some (pvI 0)) (M' := M) ⟨rfl, rfl⟩ ⟨⟨_, rfl, (zr_wide (show 0 ≤ Int32.toInt 0 ∧ Int32.toInt 0 ≤ 0 from (by decide)) (by decide) (by decide))⟩, rfl⟩
                · have b63_ : 0 ≤ Int32.toInt (M.1 124 4) ∧ Int32.toInt (M.1 124 4) ≤ 3 := (by have u0 := b59_; have u1 := (zi_eq _ _).mp c62_; have u2 := b61_; omega)
                  have d64_ : Int32.toInt (M.1 124 4) = Int32.toInt ((M.1 126 (Int32.toNatClampNeg n1)) - (M.1 126 (Int32.toNatClampNeg n1)) / 4 * 4) := (zi_eq _ _).mp c62_
                  have q65_ : Int32.toInt ((M.1 142 (Int32.toNatClampNeg ((99 * n1) + (n2 - (M.1 124 3))))) / 2) = Int32.toInt (M.1 142 (Int32.toNatClampNeg ((99 * n1) + (n2 - (M.1 124 3))))) / 2 := by have u0 := b34_; have u := zdiv_p (M.1 142 (Int32.toNatClampNeg ((99 * n1) + (n2 - (M.1 124 3))))) 2 (by omega) (by decide) (by decide); have e0 : nI 2 = (2 : Int32) := rfl; rw [e0] at u; omega
                  have b66_ : 0 ≤ Int32.toInt ((M.1 142 (Int32.toNatClampNeg ((99 * n1) + (n2 - (M.1 124 3))))) / 2) ∧ Int32.toInt ((M.1 142 (Int32.toNatClampNeg ((99 * n1) + (n2 - (M.1 124 3))))) / 2) ≤ 3000 := (by have u0 := b34_; omega)
                  refine pw_blk hT 4 (S' := (141, [some (pvR 124), some (pvI n1), some (pvI n2), some (pvI (n2 - (M.1 124 3))), some (pvI (M.1 142 (Int32.toNatClampNeg ((99 * n1) + (n2 - (M.1 124 3))))))], [pvI ((M.1 142 (Int32.toNatClampNeg ((99 * n1) + (n2 - (M.1 124 3))))) / 2)], M)) rfl ⟨trivial, trivial, (by decide), trivial, trivial⟩ ?_
                  exact pw_ret hT rfl (r := some (pvI ((M.1 142 (Int32.toNatClampNeg ((99 * n1) + (n2 - (M.1 124 3))))) / 2))) (M' := M) ⟨rfl, rfl⟩ ⟨⟨_, rfl, (zr_wide b66_ (by decide) (by decide))⟩, rfl⟩
              · refine And.intro (fun c67_ => ?_) (fun c67_ => ?_)
                · show PW 26 d (142, [some (pvR 124), some (pvI n1), some (pvI n2), some (pvI (n2 - (M.1 124 3))), some (pvI (M.1 142 (Int32.toNatClampNeg ((99 * n1) + (n2 - (M.1 124 3))))))], [], M) _
                  have b68_ : 6 ≤ Int32.toInt (M.1 125 (Int32.toNatClampNeg n1)) ∧ Int32.toInt (M.1 125 (Int32.toNatClampNeg n1)) ≤ 6 := (by have u0 := b35_; have u1 := (zi_eq _ _).mp c67_; have u2 := (show 6 ≤ Int32.toInt 6 ∧ Int32.toInt 6 ≤ 6 from (by decide)); omega)
                  have q69_ : Int32.toInt (2 * (M.1 142 (Int32.toNatClampNeg ((99 * n1) + (n2 - (M.1 124 3)))))) = 2 * Int32.toInt (M.1 142 (Int32.toNatClampNeg ((99 * n1) + (n2 - (M.1 124 3))))) := by have u0 : Int32.toInt 2 = 2 := (by decide); have u1 := b34_; have u2 := zmul 2 (M.1 142 (Int32.toNatClampNeg ((99 * n1) + (n2 - (M.1 124 3))))) (by rw [u0]; omega) (by rw [u0]; omega); rw [u0] at u2; omega
                  have b70_ : 0 ≤ Int32.toInt (2 * (M.1 142 (Int32.toNatClampNeg ((99 * n1) + (n2 - (M.1 124 3)))))) ∧ Int32.toInt (2 * (M.1 142 (Int32.toNatClampNeg ((99 * n1) + (n2 - (M.1 124 3)))))) ≤ 12000 := (by have u1 := b34_; omega)
                  have q71_ : Int32.toInt (4 * n1) = 4 * Int32.toInt n1 := by have u0 : Int32.toInt 4 = 4 := (by decide); have u1 := hn1; have u2 := zmul 4 n1 (by rw [u0]; omega) (by rw [u0]; omega); rw [u0] at u2; omega
                  have b72_ : 0 ≤ Int32.toInt (4 * n1) ∧ Int32.toInt (4 * n1) ≤ 24 := (by have u1 := hn1; omega)
                  have b73_ : 0 ≤ Int32.toInt (n2 - n2 / 4 * 4) ∧ Int32.toInt (n2 - n2 / 4 * 4) ≤ 3 := (by have u0 := b27_; have u := zrem_p n2 4 (by omega) (by decide) (by decide); have e0 : nI 4 = (4 : Int32) := rfl; rw [e0] at u; omega)
                  obtain ⟨q75_, b74_⟩ : (Int32.toInt ((4 * n1) + (n2 - n2 / 4 * 4)) = Int32.toInt (4 * n1) + Int32.toInt (n2 - n2 / 4 * 4)) ∧ (0 ≤ Int32.toInt ((4 * n1) + (n2 - n2 / 4 * 4)) ∧ Int32.toInt ((4 * n1) + (n2 - n2 / 4 * 4)) ≤ 27) := zadd_r (4 * n1) (n2 - n2 / 4 * 4) 0 27 b72_ b73_ (by decide) (by decide) (by decide) (by decide)
                  have b76_ : 0 ≤ Int32.toInt (M.1 130 (Int32.toNatClampNeg ((4 * n1) + (n2 - n2 / 4 * 4)))) ∧ Int32.toInt (M.1 130 (Int32.toNatClampNeg ((4 * n1) + (n2 - n2 / 4 * 4)))) ≤ 9 := pvok_r hok 130 (Int32.toNatClampNeg ((4 * n1) + (n2 - n2 / 4 * 4))) rfl
                  obtain ⟨q78_, b77_⟩ : (Int32.toInt ((2 * (M.1 142 (Int32.toNatClampNeg ((99 * n1) + (n2 - (M.1 124 3)))))) + (M.1 130 (Int32.toNatClampNeg ((4 * n1) + (n2 - n2 / 4 * 4))))) = Int32.toInt (2 * (M.1 142 (Int32.toNatClampNeg ((99 * n1) + (n2 - (M.1 124 3)))))) + Int32.toInt (M.1 130 (Int32.toNatClampNeg ((4 * n1) + (n2 - n2 / 4 * 4))))) ∧ (0 ≤ Int32.toInt ((2 * (M.1 142 (Int32.toNatClampNeg ((99 * n1) + (n2 - (M.1 124 3)))))) + (M.1 130 (Int32.toNatClampNeg ((4 * n1) + (n2 - n2 / 4 * 4))))) ∧ Int32.toInt ((2 * (M.1 142 (Int32.toNatClampNeg ((99 * n1) + (n2 - (M.1 124 3)))))) + (M.1 130 (Int32.toNatClampNeg ((4 * n1) + (n2 - n2 / 4 * 4))))) ≤ 12009) := zadd_r (2 * (M.1 142 (Int32.toNatClampNeg ((99 * n1) + (n2 - (M.1 124 3)))))) (M.1 130 (Int32.toNatClampNeg ((4 * n1) + (n2 - n2 / 4 * 4)))) 0 12009 b70_ b76_ (by decide) (by decide) (by decide) (by decide)
                  refine pw_blk hT 14 (S' := (159, [some (pvR 124), some (pvI n1), some (pvI n2), some (pvI (n2 - (M.1 124 3))), some (pvI (M.1 142 (Int32.toNatClampNeg ((99 * n1) + (n2 - (M.1 124 3))))))], [pvI ((2 * (M.1 142 (Int32.toNatClampNeg ((99 * n1) + (n2 - (M.1 124 3)))))) + (M.1 130 (Int32.toNatClampNeg ((4 * n1) + (n2 - n2 / 4 * 4)))))], M)) rfl ⟨trivial, trivial, trivial, trivial, rfl, trivial, trivial, trivial, trivial, trivial, (by decide), trivial, ⟨rfl, (zr_in (n := 28) b74_ (by decide) (by decide))⟩, trivial, trivial⟩ ?_
                  exact pw_ret hT rfl (r := some (pvI ((2 * (M.1 142 (Int32.toNatClampNeg ((99 * n1) + (n2 - (M.1 124 3)))))) + (M.1 130 (Int32.toNatClampNeg ((4 * n1) + (n2 - n2 / 4 * 4))))))) (M' := M) ⟨rfl, rfl⟩ ⟨⟨_, rfl, b77_⟩, rfl⟩
                · have b79_ : 0 ≤ Int32.toInt (M.1 125 (Int32.toNatClampNeg n1)) ∧ Int32.toInt (M.1 125 (Int32.toNatClampNeg n1)) ≤ 1 := (by have u0 := b35_; have u9 := (show _ ∧ _ from ⟨(not_congr (zi_eq _ _)).mp c67_, (show 6 ≤ Int32.toInt 6 ∧ Int32.toInt 6 ≤ 6 from (by decide))⟩); have v1 := (not_congr (zi_eq _ _)).mp c57_; have w1 : (5 : Int32).toInt = 5 := (by decide); have v2 := (not_congr (zi_eq _ _)).mp c44_; have w2 : (4 : Int32).toInt = 4 := (by decide); have v3 := (not_congr (zi_eq _ _)).mp c40_; have w3 : (3 : Int32).toInt = 3 := (by decide); have v4 := (not_congr (zi_eq _ _)).mp c36_; have w4 : (2 : Int32).toInt = 2 := (by decide); omega)
                  show PW 26 d (160, [some (pvR 124), some (pvI n1), some (pvI n2), some (pvI (n2 - (M.1 124 3))), some (pvI (M.1 142 (Int32.toNatClampNeg ((99 * n1) + (n2 - (M.1 124 3))))))], [], M) _
                  refine pw_blk hT 1 (S' := (162, [some (pvR 124), some (pvI n1), some (pvI n2), some (pvI (n2 - (M.1 124 3))), some (pvI (M.1 142 (Int32.toNatClampNeg ((99 * n1) + (n2 - (M.1 124 3))))))], [pvI (M.1 142 (Int32.toNatClampNeg ((99 * n1) + (n2 - (M.1 124 3)))))], M)) rfl ⟨trivial, trivial⟩ ?_
                  exact pw_ret hT rfl (r := some (pvI (M.1 142 (Int32.toNatClampNeg ((99 * n1) + (n2 - (M.1 124 3))))))) (M' := M) ⟨rfl, rfl⟩ ⟨⟨_, rfl, (zr_wide b34_ (by decide) (by decide))⟩, rfl⟩
set_option maxHeartbeats 4000000 in
set_option maxRecDepth 10000 in
theorem sf_X10_harmAt_124_x (M : pvM) (hok : pvOk M) (n1 : Int32) (hn1 : 0 ≤ Int32.toInt n1 ∧ Int32.toInt n1 ≤ 200000) (d : Nat) : PW 27 d (0, [some (pvR 124), some (pvI n1), none, none], [], M) (fun r X => (∃ x : Int32, r = some (pvI x) ∧ 0 ≤ Int32.toInt x ∧ Int32.toInt x ≤ 84700) ∧ X = M) := by
  have hT : pvdom 27 = pvD_27 := rfl
  refine pw_blk hT 4 (S' := (4, [some (pvR 124), some (pvI n1), some (pvI 0), some (pvI 0)], [], M)) rfl ⟨trivial, trivial, trivial, trivial, trivial⟩ ?_
  have hlz50_ : ∀ (nz50_ : Nat) (i2z50_ : Int32) (i3z50_ : Int32), (0 ≤ Int32.toInt i2z50_ ∧ Int32.toInt i2z50_ ≤ 84700) → (0 ≤ Int32.toInt i3z50_ ∧ Int32.toInt i3z50_ ≤ 7) → (Int32.toInt i2z50_ ≤ 12100 * Int32.toInt i3z50_) → (0 ≤ Int32.toInt i2z50_) → ((8 - Int32.toInt i3z50_).toNat < nz50_) → PW 27 d (4, [some (pvR 124), some (pvI n1), some (pvI i2z50_), some (pvI i3z50_)], [], M) (fun r X => (∃ x : Int32, r = some (pvI x) ∧ 0 ≤ Int32.toInt x ∧ Int32.toInt x ≤ 84700) ∧ X = M) := by
    intro nz50_
    induction nz50_ with
    | zero => intro i2z50_ i3z50_ h2z50_ h3z50_ j0z50_ j1z50_ hmz50_; exact absurd hmz50_ (Nat.not_lt_zero _)
    | succ nz50_ ihz50_ =>
      intro i2z50_ i3z50_ h2z50_ h3z50_ j0z50_ j1z50_ hmz50_
      have b51_ : 0 ≤ Int32.toInt (M.1 124 0) ∧ Int32.toInt (M.1 124 0) ≤ 7 := pvok_r hok 124 0 rfl
      refine pw_blk hT 3 (S' := (9, [some (pvR 124), some (pvI n1), some (pvI i2z50_), some (pvI i3z50_)], [pvI (M.1 124 0), pvI i3z50_], M)) rfl ⟨trivial, trivial, rfl, trivial⟩ ?_
      refine pw_ic hT (c := (M.1 124 0) ≤ i3z50_) rfl rfl (fun c52_ => ?_) (fun c52_ => ?_)
      · have d53_ : Int32.toInt (M.1 124 0) ≤ Int32.toInt i3z50_ := (zi_le _ _).mp c52_
        refine pw_blk hT 1 (S' := (28, [some (pvR 124), some (pvI n1), some (pvI i2z50_), some (pvI i3z50_)], [pvI i2z50_], M)) rfl ⟨trivial, trivial⟩ ?_
        exact pw_ret hT rfl (r := some (pvI i2z50_)) (M' := M) ⟨rfl, rfl⟩ ⟨⟨_, rfl, h2z50_⟩, rfl⟩
      · have b54_ : 1 ≤ Int32.toInt (M.1 124 0) ∧ Int32.toInt (M.1 124 0) ≤ 7 := zr_nle_l 1 c52_ b51_ h3z50_ (by decide)
        have b55_ : 0 ≤ Int32.toInt i3z50_ ∧ Int32.toInt i3z50_ ≤ 6 := zr_nle_r 6 c52_ h3z50_ b54_ (by decide)
        have d56_ : Int32.toInt (M.1 124 0) > Int32.toInt i3z50_ := Int.not_le.mp ((not_congr (zi_le _ _)).mp c52_)
        refine pw_blk hT 4 (S' := (16, [some (pvR 124), some (pvI n1), some (pvI i2z50_), some (pvI i3z50_)], [pvI n1, pvI i3z50_, pvR 124, pvI i2z50_], M)) rfl ⟨trivial, trivial, trivial, trivial, trivial⟩ ?_
        refine pw_callGp hT (as := [pvR 124, pvI i3z50_, pvI n1]) (lo1 := [some (pvR 124), some (pvI i3z50_), some (pvI n1), none, none]) (d1 := d) (rest := [pvI i2z50_]) rfl rfl rfl rfl rfl (fun _ => rfl) (Nat.zero_le _) rfl rfl rfl (sf_X10_harm_124_x_x M hok i3z50_ n1 b55_ hn1 d) (fun x57_ b59_ => ?_)
        obtain ⟨q63_, b62_⟩ : (Int32.toInt (i2z50_ + x57_) = Int32.toInt i2z50_ + Int32.toInt x57_) ∧ (0 ≤ Int32.toInt (i2z50_ + x57_) ∧ Int32.toInt (i2z50_ + x57_) ≤ 96709) := zadd_r i2z50_ x57_ 0 96709 h2z50_ b59_ (by decide) (by decide) (by decide) (by decide)
        obtain ⟨q65_, b64_⟩ : (Int32.toInt (i3z50_ + 1) = Int32.toInt i3z50_ + Int32.toInt 1) ∧ (1 ≤ Int32.toInt (i3z50_ + 1) ∧ Int32.toInt (i3z50_ + 1) ≤ 7) := zadd_r i3z50_ 1 1 7 b55_ (show 1 ≤ Int32.toInt 1 ∧ Int32.toInt 1 ≤ 1 from (by decide)) (by decide) (by decide) (by decide) (by decide)
        have u66_ : Int32.toInt 1 = 1 := by decide
        refine pw_blk hT 4 (S' := (4, [some (pvR 124), some (pvI n1), some (pvI (i2z50_ + x57_)), some (pvI (i3z50_ + 1))], [], M)) rfl ⟨trivial, trivial, trivial, trivial, trivial⟩ ?_
        have j67_ : Int32.toInt (i2z50_ + x57_) ≤ 12100 * Int32.toInt (i3z50_ + 1) := by omega
        have j68_ : 0 ≤ Int32.toInt (i2z50_ + x57_) := by omega
        exact ihz50_ (i2z50_ + x57_) (i3z50_ + 1) (by have u0 := b62_; omega) (zr_wide b64_ (by decide) (by decide)) j67_ j68_ (by omega)
  have u69_ : Int32.toInt 0 = 0 := by decide
  have j70_ : Int32.toInt 0 ≤ 12100 * Int32.toInt 0 := by omega
  have j71_ : 0 ≤ Int32.toInt 0 := by omega
  exact hlz50_ _ 0 0 (zr_wide (show 0 ≤ Int32.toInt 0 ∧ Int32.toInt 0 ≤ 0 from (by decide)) (by decide) (by decide)) (zr_wide (show 0 ≤ Int32.toInt 0 ∧ Int32.toInt 0 ≤ 0 from (by decide)) (by decide) (by decide)) j70_ j71_ (Nat.lt_succ_self _)
set_option maxHeartbeats 4000000 in
set_option maxRecDepth 10000 in
theorem sf_X10_harmFrom_124_x_x (M : pvM) (hok : pvOk M) (n1 : Int32) (n2 : Int32) (hn1 : 0 ≤ Int32.toInt n1 ∧ Int32.toInt n1 ≤ 200000) (hn2 : 0 ≤ Int32.toInt n2 ∧ Int32.toInt n2 ≤ 200000) (d : Nat) : PW 28 d (0, [some (pvR 124), some (pvI n1), some (pvI n2), none, none], [], M) (fun r X => (∃ x : Int32, r = some (pvI x) ∧ 0 ≤ Int32.toInt x ∧ Int32.toInt x ≤ 9000000) ∧ X = M) := by
  have hT : pvdom 28 = pvD_28 := rfl
  have b1_ : 0 ≤ Int32.toInt (M.1 124 3) ∧ Int32.toInt (M.1 124 3) ≤ 108 := pvok_r hok 124 3 rfl
  refine pw_blk hT 5 (S' := (7, [some (pvR 124), some (pvI n1), some (pvI n2), some (pvI 0), none], [pvI (M.1 124 3), pvI n1], M)) rfl ⟨trivial, trivial, trivial, trivial, rfl, trivial⟩ ?_
  refine pw_ic hT (c := (M.1 124 3) ≤ n1) rfl rfl (fun c2_ => ?_) (fun c2_ => ?_)
  · have d3_ : Int32.toInt (M.1 124 3) ≤ Int32.toInt n1 := (zi_le _ _).mp c2_
    refine pw_blk hT 2 (S' := (20, [some (pvR 124), some (pvI n1), some (pvI n2), some (pvI 0), some (pvI n1)], [], M)) rfl ⟨trivial, trivial, trivial⟩ ?_
    have hlz86_ : ∀ (nz86_ : Nat) (i3z86_ : Int32) (i4z86_ : Int32), (0 ≤ Int32.toInt i3z86_ ∧ Int32.toInt i3z86_ ≤ 9000000) → (0 ≤ Int32.toInt i4z86_ ∧ Int32.toInt i4z86_ ≤ 200000) → (Int32.toInt i3z86_ ≤ 90000 * (Int32.toInt i4z86_ - Int32.toInt (M.1 124 3))) → (0 ≤ Int32.toInt i3z86_) → (Int32.toInt (M.1 124 3) ≤ Int32.toInt i4z86_) → (Int32.toInt i4z86_ ≤ Int32.toInt (M.1 124 3) + 99 ∨ Int32.toInt i3z86_ = 0) → ((200001 - Int32.toInt i4z86_).toNat < nz86_) → PW 28 d (20, [some (pvR 124), some (pvI n1), some (pvI n2), some (pvI i3z86_), some (pvI i4z86_)], [], M) (fun r X => (∃ x : Int32, r = some (pvI x) ∧ 0 ≤ Int32.toInt x ∧ Int32.toInt x ≤ 9000000) ∧ X = M) := by
      intro nz86_
      induction nz86_ with
      | zero => intro i3z86_ i4z86_ h3z86_ h4z86_ j0z86_ j1z86_ j2z86_ j3z86_ hmz86_; exact absurd hmz86_ (Nat.not_lt_zero _)
      | succ nz86_ ihz86_ =>
        intro i3z86_ i4z86_ h3z86_ h4z86_ j0z86_ j1z86_ j2z86_ j3z86_ hmz86_
        refine pw_blk hT 2 (S' := (23, [some (pvR 124), some (pvI n1), some (pvI n2), some (pvI i3z86_), some (pvI i4z86_)], [pvI n2, pvI i4z86_], M)) rfl ⟨trivial, trivial, trivial⟩ ?_
        refine pw_ic hT (c := n2 ≤ i4z86_) rfl rfl (fun c87_ => ?_) (fun c87_ => ?_)
        · have d88_ : Int32.toInt n2 ≤ Int32.toInt i4z86_ := (zi_le _ _).mp c87_
          refine pw_blk hT 1 (S' := (56, [some (pvR 124), some (pvI n1), some (pvI n2), some (pvI i3z86_), some (pvI i4z86_)], [pvI i3z86_], M)) rfl ⟨trivial, trivial⟩ ?_
          exact pw_ret hT rfl (r := some (pvI i3z86_)) (M' := M) ⟨rfl, rfl⟩ ⟨⟨_, rfl, h3z86_⟩, rfl⟩
        · have b89_ : 1 ≤ Int32.toInt n2 ∧ Int32.toInt n2 ≤ 200000 := zr_nle_l 1 c87_ hn2 h4z86_ (by decide)
          have b90_ : 0 ≤ Int32.toInt i4z86_ ∧ Int32.toInt i4z86_ ≤ 199999 := zr_nle_r 199999 c87_ h4z86_ b89_ (by decide)
          have d91_ : Int32.toInt n2 > Int32.toInt i4z86_ := Int.not_le.mp ((not_congr (zi_le _ _)).mp c87_)
          refine pw_blk hT 4 (S' := (33, [some (pvR 124), some (pvI n1), some (pvI n2), some (pvI i3z86_), some (pvI i4z86_)], [pvR 124, pvI (M.1 124 3), pvI i4z86_], M)) rfl ⟨trivial, trivial, rfl, trivial, trivial⟩ ?_
          refine pw_callGp hT (as := [pvR 124]) (lo1 := [some (pvR 124)]) (d1 := d) (rest := [pvI (M.1 124 3), pvI i4z86_]) rfl rfl rfl rfl rfl (fun _ => rfl) (Nat.zero_le _) rfl rfl rfl (sf_X10_lastNow_124 M hok d) (fun x92_ b94_ => ?_)
          obtain ⟨q98_, b97_⟩ : (Int32.toInt ((M.1 124 3) + x92_) = Int32.toInt (M.1 124 3) + Int32.toInt x92_) ∧ (0 ≤ Int32.toInt ((M.1 124 3) + x92_) ∧ Int32.toInt ((M.1 124 3) + x92_) ≤ 207) := zadd_r (M.1 124 3) x92_ 0 207 b1_ b94_ (by decide) (by decide) (by decide) (by decide)
          refine pw_blk hT 1 (S' := (37, [some (pvR 124), some (pvI n1), some (pvI n2), some (pvI i3z86_), some (pvI i4z86_)], [pvI ((M.1 124 3) + x92_), pvI i4z86_], M)) rfl ⟨trivial, trivial⟩ ?_
          refine pw_ic hT (c := ((M.1 124 3) + x92_) ≤ i4z86_) rfl rfl (fun c99_ => ?_) (fun c99_ => ?_)
          · have d100_ : Int32.toInt ((M.1 124 3) + x92_) ≤ Int32.toInt i4z86_ := (zi_le _ _).mp c99_
            refine pw_blk hT 1 (S' := (56, [some (pvR 124), some (pvI n1), some (pvI n2), some (pvI i3z86_), some (pvI i4z86_)], [pvI i3z86_], M)) rfl ⟨trivial, trivial⟩ ?_
            exact pw_ret hT rfl (r := some (pvI i3z86_)) (M' := M) ⟨rfl, rfl⟩ ⟨⟨_, rfl, h3z86_⟩, rfl⟩
          · have b101_ : 1 ≤ Int32.toInt ((M.1 124 3) + x92_) ∧ Int32.toInt ((M.1 124 3) + x92_) ≤ 207 := zr_nle_l 1 c99_ b97_ b90_ (by decide)
            have b102_ : 0 ≤ Int32.toInt i4z86_ ∧ Int32.toInt i4z86_ ≤ 206 := zr_nle_r 206 c99_ b90_ b101_ (by decide)
            have d103_ : Int32.toInt ((M.1 124 3) + x92_) > Int32.toInt i4z86_ := Int.not_le.mp ((not_congr (zi_le _ _)).mp c99_)
            refine pw_blk hT 3 (S' := (44, [some (pvR 124), some (pvI n1), some (pvI n2), some (pvI i3z86_), some (pvI i4z86_)], [pvI i4z86_, pvR 124, pvI i3z86_], M)) rfl ⟨trivial, trivial, trivial, trivial⟩ ?_
            refine pw_callGp hT (as := [pvR 124, pvI i4z86_]) (lo1 := [some (pvR 124), some (pvI i4z86_), none, none]) (d1 := d) (rest := [pvI i3z86_]) rfl rfl rfl rfl rfl (fun _ => rfl) (Nat.zero_le _) rfl rfl rfl (sf_X10_harmAt_124_x M hok i4z86_ (zr_wide b102_ (by decide) (by decide)) d) (fun x104_ b106_ => ?_)
            obtain ⟨q110_, b109_⟩ : (Int32.toInt (i3z86_ + x104_) = Int32.toInt i3z86_ + Int32.toInt x104_) ∧ (0 ≤ Int32.toInt (i3z86_ + x104_) ∧ Int32.toInt (i3z86_ + x104_) ≤ 9084700) := zadd_r i3z86_ x104_ 0 9084700 h3z86_ b106_ (by decide) (by decide) (by decide) (by decide)
            obtain ⟨q112_, b111_⟩ : (Int32.toInt (i4z86_ + 1) = Int32.toInt i4z86_ + Int32.toInt 1) ∧ (1 ≤ Int32.toInt (i4z86_ + 1) ∧ Int32.toInt (i4z86_ + 1) ≤ 207) := zadd_r i4z86_ 1 1 207 b102_ (show 1 ≤ Int32.toInt 1 ∧ Int32.toInt 1 ≤ 1 from (by decide)) (by decide) (by decide) (by decide) (by decide)
            have u113_ : Int32.toInt 1 = 1 := by decide
            refine pw_blk hT 4 (S' := (20, [some (pvR 124), some (pvI n1), some (pvI n2), some (pvI (i3z86_ + x104_)), some (pvI (i4z86_ + 1))], [], M)) rfl ⟨trivial, trivial, trivial, trivial, trivial⟩ ?_
            have j114_ : Int32.toInt (i3z86_ + x104_) ≤ 90000 * (Int32.toInt (i4z86_ + 1) - Int32.toInt (M.1 124 3)) := by omega
            have j115_ : 0 ≤ Int32.toInt (i3z86_ + x104_) := by omega
            have j116_ : Int32.toInt (M.1 124 3) ≤ Int32.toInt (i4z86_ + 1) := by omega
            have j117_ : Int32.toInt (i4z86_ + 1) ≤ Int32.toInt (M.1 124 3) + 99 ∨ Int32.toInt (i3z86_ + x104_) = 0 := by omega
            exact ihz86_ (i3z86_ + x104_) (i4z86_ + 1) (by have u0 := b109_; omega) (zr_wide b111_ (by decide) (by decide)) j114_ j115_ j116_ j117_ (by omega)
    have u118_ : Int32.toInt 0 = 0 := by decide
    have j119_ : Int32.toInt 0 ≤ 90000 * (Int32.toInt n1 - Int32.toInt (M.1 124 3)) := by omega
    have j120_ : 0 ≤ Int32.toInt 0 := by omega
    have j121_ : Int32.toInt (M.1 124 3) ≤ Int32.toInt n1 := by omega
    have j122_ : Int32.toInt n1 ≤ Int32.toInt (M.1 124 3) + 99 ∨ Int32.toInt 0 = 0 := by omega
    exact hlz86_ _ 0 n1 (zr_wide (show 0 ≤ Int32.toInt 0 ∧ Int32.toInt 0 ≤ 0 from (by decide)) (by decide) (by decide)) hn1 j119_ j120_ j121_ j122_ (Nat.lt_succ_self _)
  · have b123_ : 1 ≤ Int32.toInt (M.1 124 3) ∧ Int32.toInt (M.1 124 3) ≤ 108 := zr_nle_l 1 c2_ b1_ hn1 (by decide)
    have b124_ : 0 ≤ Int32.toInt n1 ∧ Int32.toInt n1 ≤ 107 := zr_nle_r 107 c2_ hn1 b123_ (by decide)
    have d125_ : Int32.toInt (M.1 124 3) > Int32.toInt n1 := Int.not_le.mp ((not_congr (zi_le _ _)).mp c2_)
    refine pw_blk hT 4 (S' := (20, [some (pvR 124), some (pvI n1), some (pvI n2), some (pvI 0), some (pvI (M.1 124 3))], [], M)) rfl ⟨trivial, rfl, trivial, trivial, trivial⟩ ?_
    have hlz208_ : ∀ (nz208_ : Nat) (i3z208_ : Int32) (i4z208_ : Int32), (0 ≤ Int32.toInt i3z208_ ∧ Int32.toInt i3z208_ ≤ 9000000) → (1 ≤ Int32.toInt i4z208_ ∧ Int32.toInt i4z208_ ≤ 207) → (Int32.toInt i3z208_ ≤ 90000 * (Int32.toInt i4z208_ - Int32.toInt (M.1 124 3))) → (0 ≤ Int32.toInt i3z208_) → (Int32.toInt (M.1 124 3) ≤ Int32.toInt i4z208_) → (Int32.toInt i4z208_ ≤ Int32.toInt (M.1 124 3) + 99 ∨ Int32.toInt i3z208_ = 0) → ((208 - Int32.toInt i4z208_).toNat < nz208_) → PW 28 d (20, [some (pvR 124), some (pvI n1), some (pvI n2), some (pvI i3z208_), some (pvI i4z208_)], [], M) (fun r X => (∃ x : Int32, r = some (pvI x) ∧ 0 ≤ Int32.toInt x ∧ Int32.toInt x ≤ 9000000) ∧ X = M) := by
      intro nz208_
      induction nz208_ with
      | zero => intro i3z208_ i4z208_ h3z208_ h4z208_ j0z208_ j1z208_ j2z208_ j3z208_ hmz208_; exact absurd hmz208_ (Nat.not_lt_zero _)
      | succ nz208_ ihz208_ =>
        intro i3z208_ i4z208_ h3z208_ h4z208_ j0z208_ j1z208_ j2z208_ j3z208_ hmz208_
        refine pw_blk hT 2 (S' := (23, [some (pvR 124), some (pvI n1), some (pvI n2), some (pvI i3z208_), some (pvI i4z208_)], [pvI n2, pvI i4z208_], M)) rfl ⟨trivial, trivial, trivial⟩ ?_
        refine pw_ic hT (c := n2 ≤ i4z208_) rfl rfl (fun c209_ => ?_) (fun c209_ => ?_)
        · have b210_ : 0 ≤ Int32.toInt n2 ∧ Int32.toInt n2 ≤ 207 := zr_le_l 207 c209_ hn2 h4z208_ (by decide)
          have d211_ : Int32.toInt n2 ≤ Int32.toInt i4z208_ := (zi_le _ _).mp c209_
          refine pw_blk hT 1 (S' := (56, [some (pvR 124), some (pvI n1), some (pvI n2), some (pvI i3z208_), some (pvI i4z208_)], [pvI i3z208_], M)) rfl ⟨trivial, trivial⟩ ?_
          exact pw_ret hT rfl (r := some (pvI i3z208_)) (M' := M) ⟨rfl, rfl⟩ ⟨⟨_, rfl, h3z208_⟩, rfl⟩
        · have b212_ : 2 ≤ Int32.toInt n2 ∧ Int32.toInt n2 ≤ 200000 := zr_nle_l 2 c209_ hn2 h4z208_ (by decide)
          have d213_ : Int32.toInt n2 > Int32.toInt i4z208_ := Int.not_le.mp ((not_congr (zi_le _ _)).mp c209_)
          refine pw_blk hT 4 (S' := (33, [some (pvR 124), some (pvI n1), some (pvI n2), some (pvI i3z208_), some (pvI i4z208_)], [pvR 124, pvI (M.1 124 3), pvI i4z208_], M)) rfl ⟨trivial, trivial, rfl, trivial, trivial⟩ ?_
          refine pw_callGp hT (as := [pvR 124]) (lo1 := [some (pvR 124)]) (d1 := d) (rest := [pvI (M.1 124 3), pvI i4z208_]) rfl rfl rfl rfl rfl (fun _ => rfl) (Nat.zero_le _) rfl rfl rfl (sf_X10_lastNow_124 M hok d) (fun x214_ b216_ => ?_)
          obtain ⟨q220_, b219_⟩ : (Int32.toInt ((M.1 124 3) + x214_) = Int32.toInt (M.1 124 3) + Int32.toInt x214_) ∧ (1 ≤ Int32.toInt ((M.1 124 3) + x214_) ∧ Int32.toInt ((M.1 124 3) + x214_) ≤ 207) := zadd_r (M.1 124 3) x214_ 1 207 b123_ b216_ (by decide) (by decide) (by decide) (by decide)
          refine pw_blk hT 1 (S' := (37, [some (pvR 124), some (pvI n1), some (pvI n2), some (pvI i3z208_), some (pvI i4z208_)], [pvI ((M.1 124 3) + x214_), pvI i4z208_], M)) rfl ⟨trivial, trivial⟩ ?_
          refine pw_ic hT (c := ((M.1 124 3) + x214_) ≤ i4z208_) rfl rfl (fun c221_ => ?_) (fun c221_ => ?_)
          · have d222_ : Int32.toInt ((M.1 124 3) + x214_) ≤ Int32.toInt i4z208_ := (zi_le _ _).mp c221_
            refine pw_blk hT 1 (S' := (56, [some (pvR 124), some (pvI n1), some (pvI n2), some (pvI i3z208_), some (pvI i4z208_)], [pvI i3z208_], M)) rfl ⟨trivial, trivial⟩ ?_
            exact pw_ret hT rfl (r := some (pvI i3z208_)) (M' := M) ⟨rfl, rfl⟩ ⟨⟨_, rfl, h3z208_⟩, rfl⟩
          · have b223_ : 2 ≤ Int32.toInt ((M.1 124 3) + x214_) ∧ Int32.toInt ((M.1 124 3) + x214_) ≤ 207 := zr_nle_l 2 c221_ b219_ h4z208_ (by decide)
            have b224_ : 1 ≤ Int32.toInt i4z208_ ∧ Int32.toInt i4z208_ ≤ 206 := zr_nle_r 206 c221_ h4z208_ b223_ (by decide)
            have d225_ : Int32.toInt ((M.1 124 3) + x214_) > Int32.toInt i4z208_ := Int.not_le.mp ((not_congr (zi_le _ _)).mp c221_)
            refine pw_blk hT 3 (S' := (44, [some (pvR 124), some (pvI n1), some (pvI n2), some (pvI i3z208_), some (pvI i4z208_)], [pvI i4z208_, pvR 124, pvI i3z208_], M)) rfl ⟨trivial, trivial, trivial, trivial⟩ ?_
            refine pw_callGp hT (as := [pvR 124, pvI i4z208_]) (lo1 := [some (pvR 124), some (pvI i4z208_), none, none]) (d1 := d) (rest := [pvI i3z208_]) rfl rfl rfl rfl rfl (fun _ => rfl) (Nat.zero_le _) rfl rfl rfl (sf_X10_harmAt_124_x M hok i4z208_ (zr_wide b224_ (by decide) (by decide)) d) (fun x226_ b228_ => ?_)
            obtain ⟨q232_, b231_⟩ : (Int32.toInt (i3z208_ + x226_) = Int32.toInt i3z208_ + Int32.toInt x226_) ∧ (0 ≤ Int32.toInt (i3z208_ + x226_) ∧ Int32.toInt (i3z208_ + x226_) ≤ 9084700) := zadd_r i3z208_ x226_ 0 9084700 h3z208_ b228_ (by decide) (by decide) (by decide) (by decide)
            obtain ⟨q234_, b233_⟩ : (Int32.toInt (i4z208_ + 1) = Int32.toInt i4z208_ + Int32.toInt 1) ∧ (2 ≤ Int32.toInt (i4z208_ + 1) ∧ Int32.toInt (i4z208_ + 1) ≤ 207) := zadd_r i4z208_ 1 2 207 b224_ (show 1 ≤ Int32.toInt 1 ∧ Int32.toInt 1 ≤ 1 from (by decide)) (by decide) (by decide) (by decide) (by decide)
            have u235_ : Int32.toInt 1 = 1 := by decide
            refine pw_blk hT 4 (S' := (20, [some (pvR 124), some (pvI n1), some (pvI n2), some (pvI (i3z208_ + x226_)), some (pvI (i4z208_ + 1))], [], M)) rfl ⟨trivial, trivial, trivial, trivial, trivial⟩ ?_
            have j236_ : Int32.toInt (i3z208_ + x226_) ≤ 90000 * (Int32.toInt (i4z208_ + 1) - Int32.toInt (M.1 124 3)) := by omega
            have j237_ : 0 ≤ Int32.toInt (i3z208_ + x226_) := by omega
            have j238_ : Int32.toInt (M.1 124 3) ≤ Int32.toInt (i4z208_ + 1) := by omega
            have j239_ : Int32.toInt (i4z208_ + 1) ≤ Int32.toInt (M.1 124 3) + 99 ∨ Int32.toInt (i3z208_ + x226_) = 0 := by omega
            exact ihz208_ (i3z208_ + x226_) (i4z208_ + 1) (by have u0 := b231_; omega) (zr_wide b233_ (by decide) (by decide)) j236_ j237_ j238_ j239_ (by omega)
    have u240_ : Int32.toInt 0 = 0 := by decide
    have j241_ : Int32.toInt 0 ≤ 90000 * (Int32.toInt (M.1 124 3) - Int32.toInt (M.1 124 3)) := by omega
    have j242_ : 0 ≤ Int32.toInt 0 := by omega
    have j243_ : Int32.toInt (M.1 124 3) ≤ Int32.toInt (M.1 124 3) := by omega
    have j244_ : Int32.toInt (M.1 124 3) ≤ Int32.toInt (M.1 124 3) + 99 ∨ Int32.toInt 0 = 0 := by omega
    exact hlz208_ _ 0 (M.1 124 3) (zr_wide (show 0 ≤ Int32.toInt 0 ∧ Int32.toInt 0 ≤ 0 from (by decide)) (by decide) (by decide)) (zr_wide b123_ (by decide) (by decide)) j241_ j242_ j243_ j244_ (Nat.lt_succ_self _)
set_option maxHeartbeats 4000000 in
set_option maxRecDepth 10000 in
theorem sf_X10_harmTillEnd_124 (M : pvM) (hok : pvOk M) (d : Nat) : PW 30 d (0, [some (pvR 124)], [], M) (fun r X => (∃ x : Int32, r = some (pvI x) ∧ 0 ≤ Int32.toInt x ∧ Int32.toInt x ≤ 9000000) ∧ X = M) := by
  have hT : pvdom 30 = pvD_30 := rfl
  have b1_ : 0 ≤ Int32.toInt (M.1 124 1) ∧ Int32.toInt (M.1 124 1) ≤ 9999 := pvok_r hok 124 1 rfl
  have b2_ : 0 ≤ Int32.toInt (M.1 124 3) ∧ Int32.toInt (M.1 124 3) ≤ 108 := pvok_r hok 124 3 rfl
  refine pw_blk hT 6 (S' := (10, [some (pvR 124)], [pvR 124, pvI (M.1 124 3), pvI (M.1 124 1), pvR 124], M)) rfl ⟨trivial, trivial, rfl, trivial, rfl, trivial, trivial⟩ ?_
  refine pw_callGp hT (as := [pvR 124]) (lo1 := [some (pvR 124)]) (d1 := d) (rest := [pvI (M.1 124 3), pvI (M.1 124 1), pvR 124]) rfl rfl rfl rfl rfl (fun _ => rfl) (Nat.zero_le _) rfl rfl rfl (sf_X10_lastNow_124 M hok d) (fun x3_ b5_ => ?_)
  obtain ⟨q9_, b8_⟩ : (Int32.toInt ((M.1 124 3) + x3_) = Int32.toInt (M.1 124 3) + Int32.toInt x3_) ∧ (0 ≤ Int32.toInt ((M.1 124 3) + x3_) ∧ Int32.toInt ((M.1 124 3) + x3_) ≤ 207) := zadd_r (M.1 124 3) x3_ 0 207 b2_ b5_ (by decide) (by decide) (by decide) (by decide)
  refine pw_blk hT 1 (S' := (14, [some (pvR 124)], [pvI ((M.1 124 3) + x3_), pvI (M.1 124 1), pvR 124], M)) rfl ⟨trivial, trivial⟩ ?_
  refine pw_callGp hT (as := [pvR 124, pvI (M.1 124 1), pvI ((M.1 124 3) + x3_)]) (lo1 := [some (pvR 124), some (pvI (M.1 124 1)), some (pvI ((M.1 124 3) + x3_)), none, none]) (d1 := d) (rest := []) rfl rfl rfl rfl rfl (fun _ => rfl) (Nat.zero_le _) rfl rfl rfl (sf_X10_harmFrom_124_x_x M hok (M.1 124 1) ((M.1 124 3) + x3_) (zr_wide b1_ (by decide) (by decide)) (zr_wide b8_ (by decide) (by decide)) d) (fun x10_ b12_ => ?_)
  exact pw_ret hT rfl (r := some (pvI x10_)) (M' := M) ⟨rfl, rfl⟩ ⟨⟨_, rfl, b12_⟩, rfl⟩
def fpL_X10_costOfPath_124_x : List (Nat × Nat × Nat) := [(0, 143, 0)]
def fp_X10_costOfPath_124_x (q k : Nat) : Bool := pvfp fpL_X10_costOfPath_124_x q k
theorem fp_X10_costOfPath_124_x_fp_X10_goes_124_x_x_x (a b : Nat) (h : fp_X10_goes_124_x_x_x a b = true) : fp_X10_costOfPath_124_x a b = true := pvfp_sub (l1 := fpL_X10_goes_124_x_x_x) (l2 := fpL_X10_costOfPath_124_x) (by decide) a b h
theorem fp_X10_costOfPath_124_x_fp_X10_layOpen_124 (a b : Nat) (h : fp_X10_layOpen_124 a b = true) : fp_X10_costOfPath_124_x a b = true := pvfp_sub (l1 := fpL_X10_layOpen_124) (l2 := fpL_X10_costOfPath_124_x) (by decide) a b h
set_option maxHeartbeats 4000000 in
set_option maxRecDepth 10000 in
theorem sf_X10_costOfPath_124_x (M : pvM) (hok : pvOk M) (n1 : Int32) (hn1 : 0 ≤ Int32.toInt n1 ∧ Int32.toInt n1 ≤ 60) (d : Nat) : PW 14 d (0, [some (pvR 124), some (pvI n1), none], [], M) (fun r X => (∃ x : Int32, r = some (pvI x) ∧ 0 ≤ Int32.toInt x ∧ Int32.toInt x ≤ 9000000) ∧ pvOk X ∧ pvFr fp_X10_costOfPath_124_x M X) := by
  have hT : pvdom 14 = pvD_14 := rfl
  refine pw_blk hT 1 (S' := (1, [some (pvR 124), some (pvI n1), none], [pvR 124], M)) rfl ⟨trivial, trivial⟩ ?_
  refine pw_callV hT (as := [pvR 124]) (lo1 := [some (pvR 124), none]) (d1 := d) (rest := []) rfl rfl rfl rfl rfl (fun _ => rfl) (Nat.zero_le _) rfl rfl rfl (sf_X10_layOpen_124 M hok d) (fun M2_ o4_ g5_ => ?_)
  have f6_ : pvFr fp_X10_costOfPath_124_x M M2_ := pvfr_t g5_ pvfr_0 fp_X10_costOfPath_124_x_fp_X10_layOpen_124
  have b7_ : 0 ≤ Int32.toInt (M2_.1 124 35) ∧ Int32.toInt (M2_.1 124 35) ≤ 7 := pvok_r o4_ 124 35 rfl
  have b8_ : 0 ≤ Int32.toInt (M2_.1 124 1) ∧ Int32.toInt (M2_.1 124 1) ≤ 9999 := pvok_r o4_ 124 1 rfl
  obtain ⟨q10_, b9_⟩ : (Int32.toInt ((M2_.1 124 1) + n1) = Int32.toInt (M2_.1 124 1) + Int32.toInt n1) ∧ (0 ≤ Int32.toInt ((M2_.1 124 1) + n1) ∧ Int32.toInt ((M2_.1 124 1) + n1) ≤ 10059) := zadd_r (M2_.1 124 1) n1 0 10059 b8_ hn1 (by decide) (by decide) (by decide) (by decide)
  refine pw_blk hT 8 (S' := (16, [some (pvR 124), some (pvI n1), none], [pvI ((M2_.1 124 1) + n1), pvI (M2_.1 124 35), pvI 0, pvR 124], M2_)) rfl ⟨trivial, trivial, trivial, rfl, trivial, rfl, trivial, trivial, trivial⟩ ?_
  refine pw_callG hT (as := [pvR 124, pvI 0, pvI (M2_.1 124 35), pvI ((M2_.1 124 1) + n1)]) (lo1 := [some (pvR 124), some (pvI 0), some (pvI (M2_.1 124 35)), some (pvI ((M2_.1 124 1) + n1)), none, none, none, none, none]) (d1 := d) (rest := []) rfl rfl rfl rfl rfl (fun _ => rfl) (Nat.zero_le _) rfl rfl rfl (sf_X10_goes_124_x_x_x M2_ o4_ 0 (M2_.1 124 35) ((M2_.1 124 1) + n1) (zr_wide (show 0 ≤ Int32.toInt 0 ∧ Int32.toInt 0 ≤ 0 from (by decide)) (by decide) (by decide)) b7_ (zr_wide b9_ (by decide) (by decide)) d) (fun x11_ M12_ b13_ o14_ g15_ => ?_)
  have f16_ : pvFr fp_X10_costOfPath_124_x M M12_ := pvfr_t g15_ f6_ fp_X10_costOfPath_124_x_fp_X10_goes_124_x_x_x
  refine pw_blk hT 2 (S' := (21, [some (pvR 124), some (pvI n1), some (pvI x11_)], [pvR 124], M12_)) rfl ⟨trivial, trivial, trivial⟩ ?_
  refine pw_callGp hT (as := [pvR 124]) (lo1 := [some (pvR 124)]) (d1 := d) (rest := []) rfl rfl rfl rfl rfl (fun _ => rfl) (Nat.zero_le _) rfl rfl rfl (sf_X10_harmTillEnd_124 M12_ o14_ d) (fun x17_ b19_ => ?_)
  exact pw_ret hT rfl (r := some (pvI x17_)) (M' := M12_) ⟨rfl, rfl⟩ ⟨⟨_, rfl, b19_⟩, o14_, f16_⟩
def fpL_X10_begin_124_x : List (Nat × Nat × Nat) := [(0, 124, 4), (0, 124, 33), (0, 124, 36), (0, 141, 0), (0, 142, 0), (0, 143, 0), (0, 144, 0)]
def fp_X10_begin_124_x (q k : Nat) : Bool := pvfp fpL_X10_begin_124_x q k
theorem fp_X10_begin_124_x_fp_X10_costOfPath_124_x (a b : Nat) (h : fp_X10_costOfPath_124_x a b = true) : fp_X10_begin_124_x a b = true := pvfp_sub (l1 := fpL_X10_costOfPath_124_x) (l2 := fpL_X10_begin_124_x) (by decide) a b h
theorem fp_X10_begin_124_x_fp_X10_layRain_124 (a b : Nat) (h : fp_X10_layRain_124 a b = true) : fp_X10_begin_124_x a b = true := pvfp_sub (l1 := fpL_X10_layRain_124) (l2 := fpL_X10_begin_124_x) (by decide) a b h
theorem fp_X10_begin_124_x_fp_X10_layRound_124 (a b : Nat) (h : fp_X10_layRound_124 a b = true) : fp_X10_begin_124_x a b = true := pvfp_sub (l1 := fpL_X10_layRound_124) (l2 := fpL_X10_begin_124_x) (by decide) a b h
set_option maxHeartbeats 4000000 in
set_option maxRecDepth 10000 in
theorem sf_X10_begin_124_x (M : pvM) (hok : pvOk M) (n1 : Int32) (d : Nat) : PW 8 d (0, [some (pvR 124), some (pvI n1), none, none, none, none], [], M) (fun r X => (∃ x : Int32, r = some (pvI x) ∧ (-1) ≤ Int32.toInt x ∧ Int32.toInt x ≤ 2147483647) ∧ pvOk X ∧ pvFr fp_X10_begin_124_x M X ∧ X.1 124 3 = M.1 124 3) := by
  have hT : pvdom 8 = pvD_8 := rfl
  refine pw_blk hT 4 (S' := (4, [some (pvR 124), some (pvI n1), none, none, none, none], [pvI 1, pvI 0, pvI n1, pvR 124], M)) rfl ⟨trivial, trivial, trivial, trivial, trivial⟩ ?_
  refine pw_callT hT (as := [pvR 124, pvI n1, pvI 0, pvI 1]) (lo1 := [some (pvR 124), some (pvI n1), some (pvI 0), some (pvI 1)]) (d1 := d) (rest := []) rfl rfl rfl rfl rfl (fun _ => rfl) (Nat.zero_le _) rfl rfl rfl (sf_X10_in_124_x_x_x M hok n1 0 1 d) ?_
  by_cases c6_ : n1 < 0
  · refine pw_eqI (if_pos c6_) ?_
    have b7_ : (-2147483648) ≤ Int32.toInt n1 ∧ Int32.toInt n1 ≤ (-1) := zr_lt_l (-1) c6_ (zbnd n1) (show 0 ≤ Int32.toInt 0 ∧ Int32.toInt 0 ≤ 0 from (by decide)) (by decide)
    show PW 8 d (7, [some (pvR 124), some (pvI n1), none, none, none, none], [pvI 0], M) _
    refine pw_ifn hT (c := 0 = 0) rfl rfl (fun c8_ => absurd (by decide) c8_) (fun c8_ => ?_)
    refine pw_blk hT 1 (S' := (11, [some (pvR 124), some (pvI n1), none, none, none, none], [pvI (-1)], M)) rfl ⟨trivial, trivial⟩ ?_
    exact pw_ret hT rfl (r := some (pvI (-1))) (M' := M) ⟨rfl, rfl⟩ ⟨⟨_, rfl, (zr_wide (show (-1) ≤ Int32.toInt (-1) ∧ Int32.toInt (-1) ≤ (-1) from (by decide)) (by decide) (by decide))⟩, hok, pvfr_0, rfl⟩
  · refine pw_eqI (if_neg c6_) ?_
    have b9_ : 0 ≤ Int32.toInt n1 ∧ Int32.toInt n1 ≤ 2147483647 := zr_nlt_l 0 c6_ (zbnd n1) (show 0 ≤ Int32.toInt 0 ∧ Int32.toInt 0 ≤ 0 from (by decide)) (by decide)
    by_cases c10_ : 1 < n1
    · refine pw_eqI (if_pos c10_) ?_
      have b11_ : 2 ≤ Int32.toInt n1 ∧ Int32.toInt n1 ≤ 2147483647 := zr_lt_r 2 c10_ b9_ (show 1 ≤ Int32.toInt 1 ∧ Int32.toInt 1 ≤ 1 from (by decide)) (by decide)
      show PW 8 d (7, [some (pvR 124), some (pvI n1), none, none, none, none], [pvI 0], M) _
      refine pw_ifn hT (c := 0 = 0) rfl rfl (fun c12_ => absurd (by decide) c12_) (fun c12_ => ?_)
      refine pw_blk hT 1 (S' := (11, [some (pvR 124), some (pvI n1), none, none, none, none], [pvI (-1)], M)) rfl ⟨trivial, trivial⟩ ?_
      exact pw_ret hT rfl (r := some (pvI (-1))) (M' := M) ⟨rfl, rfl⟩ ⟨⟨_, rfl, (zr_wide (show (-1) ≤ Int32.toInt (-1) ∧ Int32.toInt (-1) ≤ (-1) from (by decide)) (by decide) (by decide))⟩, hok, pvfr_0, rfl⟩
    · refine pw_eqI (if_neg c10_) ?_
      have b13_ : 0 ≤ Int32.toInt n1 ∧ Int32.toInt n1 ≤ 1 := zr_nlt_r 1 c10_ b9_ (show 1 ≤ Int32.toInt 1 ∧ Int32.toInt 1 ≤ 1 from (by decide)) (by decide)
      show PW 8 d (7, [some (pvR 124), some (pvI n1), none, none, none, none], [pvI 1], M) _
      refine pw_ifn hT (c := 1 = 0) rfl rfl (fun c14_ => ?_) (fun c14_ => absurd c14_ (by decide))
      have b15_ : 0 ≤ Int32.toInt (M.1 124 3) ∧ Int32.toInt (M.1 124 3) ≤ 108 := pvok_r hok 124 3 rfl
      refine pw_blk hT 8 (S' := (23, [some (pvR 124), some (pvI n1), some (pvI (M.1 124 3)), some (pvI 0), some (pvI (-1)), none], [pvR 124], M)) rfl ⟨trivial, rfl, trivial, trivial, trivial, trivial, trivial, trivial, trivial⟩ ?_
      refine pw_callV hT (as := [pvR 124]) (lo1 := [some (pvR 124), none, none]) (d1 := d) (rest := []) rfl rfl rfl rfl rfl (fun _ => rfl) (Nat.zero_le _) rfl rfl rfl (sf_X10_layRain_124 M hok d) (fun M17_ o19_ g20_ => ?_)
      have f21_ : pvFr fp_X10_begin_124_x M M17_ := pvfr_t g20_ pvfr_0 fp_X10_begin_124_x_fp_X10_layRain_124
      refine pw_blk hT 1 (S' := (27, [some (pvR 124), some (pvI n1), some (pvI (M.1 124 3)), some (pvI 0), some (pvI (-1)), none], [pvR 124], M17_)) rfl ⟨trivial, trivial⟩ ?_
      refine pw_callV hT (as := [pvR 124]) (lo1 := [some (pvR 124), none]) (d1 := d) (rest := []) rfl rfl rfl rfl rfl (fun _ => rfl) (Nat.zero_le _) rfl rfl rfl (sf_X10_layRound_124 M17_ o19_ d) (fun M23_ o25_ g26_ => ?_)
      have f27_ : pvFr fp_X10_begin_124_x M M23_ := pvfr_t g26_ f21_ fp_X10_begin_124_x_fp_X10_layRound_124
      refine pw_blkw hT 3 (pc := 35) (lo := [some (pvR 124), some (pvI n1), some (pvI (M.1 124 3)), some (pvI 0), some (pvI (-1)), none]) (st := []) (M := pvu M23_ 124 3 0) rfl ⟨trivial, trivial, rfl, trivial⟩ (fun M28_ e29_ => ?_)
      have o30_ : pvOk M28_ := pvok_u2 e29_ o25_ rfl (zr_wide (show 0 ≤ Int32.toInt 0 ∧ Int32.toInt 0 ≤ 0 from (by decide)) (by decide) (by decide))
      have f31_ : pvFr fp_X10_begin_124_x M M28_ := pvfr_u e29_ f27_ rfl
      have hlz167_ : ∀ (nz167_ : Nat) (i3z167_ : Int32) (i4z167_ : Int32) (v5z167_ : Option pvV) (Mz167_ : pvM), (pvOk Mz167_) → (pvFr fp_X10_begin_124_x M Mz167_) → (0 ≤ Int32.toInt i3z167_ ∧ Int32.toInt i3z167_ ≤ 2147483647) → ((-1) ≤ Int32.toInt i4z167_ ∧ Int32.toInt i4z167_ ≤ 2147483647) → ((101 - Int32.toInt (Mz167_.1 124 3)).toNat < nz167_) → PW 8 d (35, [some (pvR 124), some (pvI n1), some (pvI (M.1 124 3)), some (pvI i3z167_), some (pvI i4z167_), v5z167_], [], Mz167_) (fun r X => (∃ x : Int32, r = some (pvI x) ∧ (-1) ≤ Int32.toInt x ∧ Int32.toInt x ≤ 2147483647) ∧ pvOk X ∧ pvFr fp_X10_begin_124_x M X ∧ X.1 124 3 = M.1 124 3) := by
        intro nz167_
        induction nz167_ with
        | zero => intro i3z167_ i4z167_ v5z167_ Mz167_ oz167_ fz167_ h3z167_ h4z167_ hmz167_; exact absurd hmz167_ (Nat.not_lt_zero _)
        | succ nz167_ ihz167_ =>
          intro i3z167_ i4z167_ v5z167_ Mz167_ oz167_ fz167_ h3z167_ h4z167_ hmz167_
          have b168_ : 0 ≤ Int32.toInt (Mz167_.1 124 3) ∧ Int32.toInt (Mz167_.1 124 3) ≤ 108 := pvok_r oz167_ 124 3 rfl
          refine pw_blk hT 3 (S' := (41, [some (pvR 124), some (pvI n1), some (pvI (M.1 124 3)), some (pvI i3z167_), some (pvI i4z167_), v5z167_], [pvI 100, pvI (Mz167_.1 124 3)], Mz167_)) rfl ⟨trivial, rfl, trivial, trivial⟩ ?_
          refine pw_ic hT (c := 100 ≤ (Mz167_.1 124 3)) rfl rfl (fun c169_ => ?_) (fun c169_ => ?_)
          · have b170_ : 100 ≤ Int32.toInt (Mz167_.1 124 3) ∧ Int32.toInt (Mz167_.1 124 3) ≤ 108 := zr_le_r 100 c169_ b168_ (show 100 ≤ Int32.toInt 100 ∧ Int32.toInt 100 ≤ 100 from (by decide)) (by decide)
            refine pw_blkw hT 3 (pc := 88) (lo := [some (pvR 124), some (pvI n1), some (pvI (M.1 124 3)), some (pvI i3z167_), some (pvI i4z167_), v5z167_]) (st := []) (M := pvu Mz167_ 124 3 (M.1 124 3)) rfl ⟨trivial, trivial, rfl, trivial⟩ (fun M171_ e172_ => ?_)
            have o173_ : pvOk M171_ := pvok_u2 e172_ oz167_ rfl b15_
            have f174_ : pvFr fp_X10_begin_124_x M M171_ := pvfr_u e172_ fz167_ rfl
            refine pw_blk hT 1 (S' := (89, [some (pvR 124), some (pvI n1), some (pvI (M.1 124 3)), some (pvI i3z167_), some (pvI i4z167_), v5z167_], [pvI n1], M171_)) rfl ⟨trivial, trivial⟩ ?_
            refine pw_ifn hT (c := n1 = 0) rfl rfl (fun c175_ => ?_) (fun c175_ => ?_)
            · have b176_ : 1 ≤ Int32.toInt n1 ∧ Int32.toInt n1 ≤ 1 := (by have u0 := b13_; have u1 := (not_congr (zi_eq _ _)).mp c175_; have u2 := (show 0 ≤ Int32.toInt 0 ∧ Int32.toInt 0 ≤ 0 from (by decide)); omega)
              refine pw_blk hT 1 (S' := (98, [some (pvR 124), some (pvI n1), some (pvI (M.1 124 3)), some (pvI i3z167_), some (pvI i4z167_), v5z167_], [pvI i4z167_], M171_)) rfl ⟨trivial, trivial⟩ ?_
              exact pw_ret hT rfl (r := some (pvI i4z167_)) (M' := M171_) ⟨rfl, rfl⟩ ⟨⟨_, rfl, h4z167_⟩, o173_, f174_, (pvu_s e172_)⟩
            · have b177_ : 0 ≤ Int32.toInt n1 ∧ Int32.toInt n1 ≤ 0 := (by have u0 := b13_; have u1 := (zi_eq _ _).mp c175_; have u2 := (show 0 ≤ Int32.toInt 0 ∧ Int32.toInt 0 ≤ 0 from (by decide)); omega)
              refine pw_blk hT 2 (S' := (98, [some (pvR 124), some (pvI n1), some (pvI (M.1 124 3)), some (pvI i3z167_), some (pvI i4z167_), v5z167_], [pvI i3z167_], M171_)) rfl ⟨trivial, trivial, trivial⟩ ?_
              exact pw_ret hT rfl (r := some (pvI i3z167_)) (M' := M171_) ⟨rfl, rfl⟩ ⟨⟨_, rfl, (zr_wide h3z167_ (by decide) (by decide))⟩, o173_, f174_, (pvu_s e172_)⟩
          · have b178_ : 0 ≤ Int32.toInt (Mz167_.1 124 3) ∧ Int32.toInt (Mz167_.1 124 3) ≤ 99 := zr_nle_r 99 c169_ b168_ (show 100 ≤ Int32.toInt 100 ∧ Int32.toInt 100 ≤ 100 from (by decide)) (by decide)
            refine pw_blk hT 2 (S' := (46, [some (pvR 124), some (pvI n1), some (pvI (M.1 124 3)), some (pvI i3z167_), some (pvI i4z167_), v5z167_], [pvI 0, pvR 124], Mz167_)) rfl ⟨trivial, trivial, trivial⟩ ?_
            refine pw_callG hT (as := [pvR 124, pvI 0]) (lo1 := [some (pvR 124), some (pvI 0), none]) (d1 := d) (rest := []) rfl rfl rfl rfl rfl (fun _ => rfl) (Nat.zero_le _) rfl rfl rfl (sf_X10_costOfPath_124_x Mz167_ oz167_ 0 (zr_wide (show 0 ≤ Int32.toInt 0 ∧ Int32.toInt 0 ≤ 0 from (by decide)) (by decide) (by decide)) d) (fun x179_ M180_ b181_ o182_ g183_ => ?_)
            have f184_ : pvFr fp_X10_begin_124_x M M180_ := pvfr_t g183_ fz167_ fp_X10_begin_124_x_fp_X10_costOfPath_124_x
            refine pw_blk hT 3 (S' := (55, [some (pvR 124), some (pvI n1), some (pvI (M.1 124 3)), some (pvI i3z167_), some (pvI i4z167_), some (pvI x179_)], [pvI i4z167_, pvI x179_], M180_)) rfl ⟨trivial, trivial, trivial, trivial⟩ ?_
            refine pw_ic hT (c := i4z167_ < x179_) rfl rfl (fun c185_ => ?_) (fun c185_ => ?_)
            · have b186_ : (-1) ≤ Int32.toInt i4z167_ ∧ Int32.toInt i4z167_ ≤ 8999999 := zr_lt_l 8999999 c185_ h4z167_ b181_ (by decide)
              have d187_ : Int32.toInt i4z167_ < Int32.toInt x179_ := (zi_lt _ _).mp c185_
              have e188_ : (M180_.1 124 3) = (Mz167_.1 124 3) := (g183_ 124 3 rfl)
              have b189_ : 0 ≤ Int32.toInt (M180_.1 124 3) ∧ Int32.toInt (M180_.1 124 3) ≤ 99 := (by rw [e188_]; exact b178_)
              obtain ⟨q191_, b190_⟩ : (Int32.toInt ((M180_.1 124 3) + 1) = Int32.toInt (M180_.1 124 3) + Int32.toInt 1) ∧ (1 ≤ Int32.toInt ((M180_.1 124 3) + 1) ∧ Int32.toInt ((M180_.1 124 3) + 1) ≤ 100) := zadd_r (M180_.1 124 3) 1 1 100 b189_ (show 1 ≤ Int32.toInt 1 ∧ Int32.toInt 1 ≤ 1 from (by decide)) (by decide) (by decide) (by decide) (by decide)
              have u192_ : Int32.toInt 1 = 1 := by decide
              refine pw_blkw hT 11 (pc := 80) (lo := [some (pvR 124), some (pvI n1), some (pvI (M.1 124 3)), some (pvI (M180_.1 124 3)), some (pvI x179_), some (pvI x179_)]) (st := []) (M := pvu M180_ 124 3 ((M180_.1 124 3) + 1)) rfl ⟨trivial, rfl, trivial, trivial, trivial, trivial, trivial, rfl, trivial, trivial, rfl, trivial⟩ (fun M193_ e194_ => ?_)
              have o195_ : pvOk M193_ := pvok_u2 e194_ o182_ rfl (zr_wide b190_ (by decide) (by decide))
              have f196_ : pvFr fp_X10_begin_124_x M M193_ := pvfr_u e194_ f184_ rfl
              refine pw_blk hT 1 (S' := (35, [some (pvR 124), some (pvI n1), some (pvI (M.1 124 3)), some (pvI (M180_.1 124 3)), some (pvI x179_), some (pvI x179_)], [], M193_)) rfl ⟨trivial, trivial⟩ ?_
              exact ihz167_ (M180_.1 124 3) x179_ (some (pvI x179_)) M193_ o195_ f196_ (zr_wide b189_ (by decide) (by decide)) (zr_wide b181_ (by decide) (by decide)) (by have z1 : Int32.toInt (M193_.1 124 3) = Int32.toInt ((M180_.1 124 3) + 1) := congrArg Int32.toInt (pvu_s e194_); have z2 : Int32.toInt (M180_.1 124 3) = Int32.toInt (Mz167_.1 124 3) := congrArg Int32.toInt (g183_ 124 3 rfl); omega)
            · have b197_ : 0 ≤ Int32.toInt i4z167_ ∧ Int32.toInt i4z167_ ≤ 2147483647 := zr_nlt_l 0 c185_ h4z167_ b181_ (by decide)
              have d198_ : Int32.toInt i4z167_ ≥ Int32.toInt x179_ := Int.not_lt.mp ((not_congr (zi_lt _ _)).mp c185_)
              have e199_ : (M180_.1 124 3) = (Mz167_.1 124 3) := (g183_ 124 3 rfl)
              have b200_ : 0 ≤ Int32.toInt (M180_.1 124 3) ∧ Int32.toInt (M180_.1 124 3) ≤ 99 := (by rw [e199_]; exact b178_)
              obtain ⟨q202_, b201_⟩ : (Int32.toInt ((M180_.1 124 3) + 1) = Int32.toInt (M180_.1 124 3) + Int32.toInt 1) ∧ (1 ≤ Int32.toInt ((M180_.1 124 3) + 1) ∧ Int32.toInt ((M180_.1 124 3) + 1) ≤ 100) := zadd_r (M180_.1 124 3) 1 1 100 b200_ (show 1 ≤ Int32.toInt 1 ∧ Int32.toInt 1 ≤ 1 from (by decide)) (by decide) (by decide) (by decide) (by decide)
              have u203_ : Int32.toInt 1 = 1 := by decide
              refine pw_blkw hT 7 (pc := 80) (lo := [some (pvR 124), some (pvI n1), some (pvI (M.1 124 3)), some (pvI i3z167_), some (pvI i4z167_), some (pvI x179_)]) (st := []) (M := pvu M180_ 124 3 ((M180_.1 124 3) + 1)) rfl ⟨trivial, trivial, trivial, rfl, trivial, trivial, rfl, trivial⟩ (fun M204_ e205_ => ?_)
              have o206_ : pvOk M204_ := pvok_u2 e205_ o182_ rfl (zr_wide b201_ (by decide) (by decide))
              have f207_ : pvFr fp_X10_begin_124_x M M204_ := pvfr_u e205_ f184_ rfl
              refine pw_blk hT 1 (S' := (35, [some (pvR 124), some (pvI n1), some (pvI (M.1 124 3)), some (pvI i3z167_), some (pvI i4z167_), some (pvI x179_)], [], M204_)) rfl ⟨trivial, trivial⟩ ?_
              exact ihz167_ i3z167_ i4z167_ (some (pvI x179_)) M204_ o206_ f207_ h3z167_ (zr_wide b197_ (by decide) (by decide)) (by have z1 : Int32.toInt (M204_.1 124 3) = Int32.toInt ((M180_.1 124 3) + 1) := congrArg Int32.toInt (pvu_s e205_); have z2 : Int32.toInt (M180_.1 124 3) = Int32.toInt (Mz167_.1 124 3) := congrArg Int32.toInt (g183_ 124 3 rfl); omega)
      exact hlz167_ _ 0 (-1) none M28_ o30_ f31_ (zr_wide (show 0 ≤ Int32.toInt 0 ∧ Int32.toInt 0 ≤ 0 from (by decide)) (by decide) (by decide)) (zr_wide (show (-1) ≤ Int32.toInt (-1) ∧ Int32.toInt (-1) ≤ (-1) from (by decide)) (by decide) (by decide)) (Nat.lt_succ_self _)
set_option maxHeartbeats 4000000 in
set_option maxRecDepth 10000 in
theorem sf_X10_openSet_124 (M : pvM) (hok : pvOk M) (d : Nat) : PW 61 d (0, [some (pvR 124), none, none], [], M) (fun r X => (∃ x : Int32, r = some (pvI x) ∧ True) ∧ X = M) := by
  have hT : pvdom 61 = pvD_61 := rfl
  refine pw_blk hT 4 (S' := (4, [some (pvR 124), some (pvI 0), some (pvI 0)], [], M)) rfl ⟨trivial, trivial, trivial, trivial, trivial⟩ ?_
  have hlz52_ : ∀ (nz52_ : Nat) (i1z52_ : Int32) (i2z52_ : Int32), (0 ≤ Int32.toInt i2z52_ ∧ Int32.toInt i2z52_ ≤ 7) → ((8 - Int32.toInt i2z52_).toNat < nz52_) → PW 61 d (4, [some (pvR 124), some (pvI i1z52_), some (pvI i2z52_)], [], M) (fun r X => (∃ x : Int32, r = some (pvI x) ∧ True) ∧ X = M) := by
    intro nz52_
    induction nz52_ with
    | zero => intro i1z52_ i2z52_ h2z52_ hmz52_; exact absurd hmz52_ (Nat.not_lt_zero _)
    | succ nz52_ ihz52_ =>
      intro i1z52_ i2z52_ h2z52_ hmz52_
      have b53_ : 0 ≤ Int32.toInt (M.1 124 0) ∧ Int32.toInt (M.1 124 0) ≤ 7 := pvok_r hok 124 0 rfl
      refine pw_blk hT 3 (S' := (9, [some (pvR 124), some (pvI i1z52_), some (pvI i2z52_)], [pvI (M.1 124 0), pvI i2z52_], M)) rfl ⟨trivial, trivial, rfl, trivial⟩ ?_
      refine pw_ic hT (c := (M.1 124 0) ≤ i2z52_) rfl rfl (fun c54_ => ?_) (fun c54_ => ?_)
      · have d55_ : Int32.toInt (M.1 124 0) ≤ Int32.toInt i2z52_ := (zi_le _ _).mp c54_
        refine pw_blk hT 1 (S' := (38, [some (pvR 124), some (pvI i1z52_), some (pvI i2z52_)], [pvI i1z52_], M)) rfl ⟨trivial, trivial⟩ ?_
        exact pw_ret hT rfl (r := some (pvI i1z52_)) (M' := M) ⟨rfl, rfl⟩ ⟨⟨_, rfl, trivial⟩, rfl⟩
      · have b56_ : 1 ≤ Int32.toInt (M.1 124 0) ∧ Int32.toInt (M.1 124 0) ≤ 7 := zr_nle_l 1 c54_ b53_ h2z52_ (by decide)
        have b57_ : 0 ≤ Int32.toInt i2z52_ ∧ Int32.toInt i2z52_ ≤ 6 := zr_nle_r 6 c54_ h2z52_ b56_ (by decide)
        have d58_ : Int32.toInt (M.1 124 0) > Int32.toInt i2z52_ := Int.not_le.mp ((not_congr (zi_le _ _)).mp c54_)
        have b59_ : 0 ≤ Int32.toInt (M.1 131 (Int32.toNatClampNeg i2z52_)) ∧ Int32.toInt (M.1 131 (Int32.toNatClampNeg i2z52_)) ≤ 1 := pvok_r hok 131 (Int32.toNatClampNeg i2z52_) rfl
        refine pw_blk hT 5 (S' := (19, [some (pvR 124), some (pvI i1z52_), some (pvI i2z52_)], [pvI (M.1 131 (Int32.toNatClampNeg i2z52_)), pvI i1z52_], M)) rfl ⟨trivial, trivial, rfl, trivial, ⟨rfl, (zr_in (n := 7) b57_ (by decide) (by decide))⟩, trivial⟩ ?_
        refine pw_if hT (c := (M.1 131 (Int32.toNatClampNeg i2z52_)) = 0) rfl rfl (fun c60_ => ?_) (fun c60_ => ?_)
        · have b61_ : 0 ≤ Int32.toInt (M.1 131 (Int32.toNatClampNeg i2z52_)) ∧ Int32.toInt (M.1 131 (Int32.toNatClampNeg i2z52_)) ≤ 0 := (by have u0 := b59_; have u1 := (zi_eq _ _).mp c60_; have u2 := (show 0 ≤ Int32.toInt 0 ∧ Int32.toInt 0 ≤ 0 from (by decide)); omega)
          obtain ⟨q63_, b62_⟩ : (Int32.toInt (i2z52_ + 1) = Int32.toInt i2z52_ + Int32.toInt 1) ∧ (1 ≤ Int32.toInt (i2z52_ + 1) ∧ Int32.toInt (i2z52_ + 1) ≤ 7) := zadd_r i2z52_ 1 1 7 b57_ (show 1 ≤ Int32.toInt 1 ∧ Int32.toInt 1 ≤ 1 from (by decide)) (by decide) (by decide) (by decide) (by decide)
          have u64_ : Int32.toInt 1 = 1 := by decide
          refine pw_blk hT 7 (S' := (4, [some (pvR 124), some (pvI (i1z52_ ||| (1 <<< (i2z52_ &&& 31)))), some (pvI (i2z52_ + 1))], [], M)) rfl ⟨trivial, trivial, trivial, trivial, trivial, trivial, trivial, trivial⟩ ?_
          exact ihz52_ (i1z52_ ||| (1 <<< (i2z52_ &&& 31))) (i2z52_ + 1) (zr_wide b62_ (by decide) (by decide)) (by omega)
        · have b65_ : 1 ≤ Int32.toInt (M.1 131 (Int32.toNatClampNeg i2z52_)) ∧ Int32.toInt (M.1 131 (Int32.toNatClampNeg i2z52_)) ≤ 1 := (by have u0 := b59_; have u1 := (not_congr (zi_eq _ _)).mp c60_; have u2 := (show 0 ≤ Int32.toInt 0 ∧ Int32.toInt 0 ≤ 0 from (by decide)); omega)
          obtain ⟨q67_, b66_⟩ : (Int32.toInt (i2z52_ + 1) = Int32.toInt i2z52_ + Int32.toInt 1) ∧ (1 ≤ Int32.toInt (i2z52_ + 1) ∧ Int32.toInt (i2z52_ + 1) ≤ 7) := zadd_r i2z52_ 1 1 7 b57_ (show 1 ≤ Int32.toInt 1 ∧ Int32.toInt 1 ≤ 1 from (by decide)) (by decide) (by decide) (by decide) (by decide)
          have u68_ : Int32.toInt 1 = 1 := by decide
          refine pw_blk hT 6 (S' := (4, [some (pvR 124), some (pvI (i1z52_ ||| 0)), some (pvI (i2z52_ + 1))], [], M)) rfl ⟨trivial, trivial, trivial, trivial, trivial, trivial, trivial⟩ ?_
          exact ihz52_ (i1z52_ ||| 0) (i2z52_ + 1) (zr_wide b66_ (by decide) (by decide)) (by omega)
  exact hlz52_ _ 0 0 (zr_wide (show 0 ≤ Int32.toInt 0 ∧ Int32.toInt 0 ≤ 0 from (by decide)) (by decide) (by decide)) (Nat.lt_succ_self _)
def fpL_X10_layOrder_124_x_x : List (Nat × Nat × Nat) := [(0, 144, 0)]
def fp_X10_layOrder_124_x_x (q k : Nat) : Bool := pvfp fpL_X10_layOrder_124_x_x q k
theorem sf_X10_layOrder_124_x_x (M : pvM) (hok : pvOk M) (n1 : Int32) (n2 : Int32) (h2 : 0 ≤ Int32.toInt n2 ∧ Int32.toInt n2 ≤ 5040) (d : Nat) : PW 49 d (0, [some (pvR 124), some (pvI n1), some (pvI n2), none, none, none, none, none, none], [], M) (fun r X => (∃ x : Int32, r = some (pvI x) ∧ (0 ≤ Int32.toInt x ∧ Int32.toInt x ≤ 1) ∧ (Int32.toInt x ≤ 0 ∨ Int32.toInt n2 < 5040)) ∧ pvOk X ∧ pvFr fp_X10_layOrder_124_x_x M X) := sorry
set_option maxHeartbeats 4000000 in
set_option maxRecDepth 10000 in
theorem sf_X10_has_124_x_x (M : pvM) (hok : pvOk M) (n1 : Int32) (n2 : Int32) (d : Nat) : PW 31 d (0, [some (pvR 124), some (pvI n1), some (pvI n2)], [], M) (fun r X => r = some (pvI ((if ((n1 >>> (n2 &&& 31)) &&& 1) = 1 then 1 else 0))) ∧ X = M) := by
  have hT : pvdom 31 = pvD_31 := rfl
  have b1_ : 0 ≤ Int32.toInt ((n1 >>> (n2 &&& 31)) &&& 1) ∧ Int32.toInt ((n1 >>> (n2 &&& 31)) &&& 1) ≤ 1 := (pvand1 (n1 >>> (n2 &&& 31)))
  refine pw_blk hT 6 (S' := (6, [some (pvR 124), some (pvI n1), some (pvI n2)], [pvI 1, pvI ((n1 >>> (n2 &&& 31)) &&& 1)], M)) rfl ⟨trivial, trivial, trivial, trivial, trivial, trivial, trivial⟩ ?_
  refine pw_icn hT (c := ((n1 >>> (n2 &&& 31)) &&& 1) = 1) rfl rfl (fun c2_ => ?_) (fun c2_ => ?_)
  · have b3_ : 0 ≤ Int32.toInt ((n1 >>> (n2 &&& 31)) &&& 1) ∧ Int32.toInt ((n1 >>> (n2 &&& 31)) &&& 1) ≤ 0 := (by have u0 := b1_; have u1 := (not_congr (zi_eq _ _)).mp c2_; have u2 := (show 1 ≤ Int32.toInt 1 ∧ Int32.toInt 1 ≤ 1 from (by decide)); omega)
    refine pw_blk hT 1 (S' := (14, [some (pvR 124), some (pvI n1), some (pvI n2)], [pvI 0], M)) rfl ⟨trivial, trivial⟩ ?_
    exact pw_ret hT rfl (r := some (pvI 0)) (M' := M) ⟨Or.inl rfl, rfl, rfl⟩ ⟨(by rw [if_neg c2_]), rfl⟩
  · have b4_ : 1 ≤ Int32.toInt ((n1 >>> (n2 &&& 31)) &&& 1) ∧ Int32.toInt ((n1 >>> (n2 &&& 31)) &&& 1) ≤ 1 := (by have u0 := b1_; have u1 := (zi_eq _ _).mp c2_; have u2 := (show 1 ≤ Int32.toInt 1 ∧ Int32.toInt 1 ≤ 1 from (by decide)); omega)
    refine pw_blk hT 2 (S' := (14, [some (pvR 124), some (pvI n1), some (pvI n2)], [pvI 1], M)) rfl ⟨trivial, trivial, trivial⟩ ?_
    exact pw_ret hT rfl (r := some (pvI 1)) (M' := M) ⟨Or.inr rfl, rfl, rfl⟩ ⟨(by rw [if_pos c2_]), rfl⟩
def fpL_X10_best_124_x : List (Nat × Nat × Nat) := [(0, 124, 33), (0, 124, 36), (0, 141, 0), (0, 142, 0), (0, 143, 0), (0, 144, 0), (0, 146, 0)]
def fp_X10_best_124_x (q k : Nat) : Bool := pvfp fpL_X10_best_124_x q k
theorem fp_X10_best_124_x_fp_X10_costOfPath_124_x (a b : Nat) (h : fp_X10_costOfPath_124_x a b = true) : fp_X10_best_124_x a b = true := pvfp_sub (l1 := fpL_X10_costOfPath_124_x) (l2 := fpL_X10_best_124_x) (by decide) a b h
theorem fp_X10_best_124_x_fp_X10_layOrder_124_x_x (a b : Nat) (h : fp_X10_layOrder_124_x_x a b = true) : fp_X10_best_124_x a b = true := pvfp_sub (l1 := fpL_X10_layOrder_124_x_x) (l2 := fpL_X10_best_124_x) (by decide) a b h
theorem fp_X10_best_124_x_fp_X10_layRain_124 (a b : Nat) (h : fp_X10_layRain_124 a b = true) : fp_X10_best_124_x a b = true := pvfp_sub (l1 := fpL_X10_layRain_124) (l2 := fpL_X10_best_124_x) (by decide) a b h
set_option maxHeartbeats 4000000 in
set_option maxRecDepth 10000 in
theorem sf_X10_best_124_x (M : pvM) (hok : pvOk M) (n1 : Int32) (d : Nat) : PW 10 d (0, [some (pvR 124), some (pvI n1), none, none, none, none, none], [], M) (fun r X => (∃ x : Int32, r = some (pvI x) ∧ (-9) ≤ Int32.toInt x ∧ Int32.toInt x ≤ 9000000) ∧ pvOk X ∧ pvFr fp_X10_best_124_x M X) := by
  have hT : pvdom 10 = pvD_10 := rfl
  refine pw_blk hT 4 (S' := (4, [some (pvR 124), some (pvI n1), none, none, none, none, none], [pvI 4, pvI (-1), pvI n1, pvR 124], M)) rfl ⟨trivial, trivial, trivial, trivial, trivial⟩ ?_
  refine pw_callT hT (as := [pvR 124, pvI n1, pvI (-1), pvI 4]) (lo1 := [some (pvR 124), some (pvI n1), some (pvI (-1)), some (pvI 4)]) (d1 := d) (rest := []) rfl rfl rfl rfl rfl (fun _ => rfl) (Nat.zero_le _) rfl rfl rfl (sf_X10_in_124_x_x_x M hok n1 (-1) 4 d) ?_
  by_cases c6_ : n1 < (-1)
  · refine pw_eqI (if_pos c6_) ?_
    have b7_ : (-2147483648) ≤ Int32.toInt n1 ∧ Int32.toInt n1 ≤ (-2) := zr_lt_l (-2) c6_ (zbnd n1) (show (-1) ≤ Int32.toInt (-1) ∧ Int32.toInt (-1) ≤ (-1) from (by decide)) (by decide)
    show PW 10 d (7, [some (pvR 124), some (pvI n1), none, none, none, none, none], [pvI 0], M) _
    refine pw_ifn hT (c := 0 = 0) rfl rfl (fun c8_ => absurd (by decide) c8_) (fun c8_ => ?_)
    refine pw_blk hT 1 (S' := (11, [some (pvR 124), some (pvI n1), none, none, none, none, none], [pvI (-1)], M)) rfl ⟨trivial, trivial⟩ ?_
    exact pw_ret hT rfl (r := some (pvI (-1))) (M' := M) ⟨rfl, rfl⟩ ⟨⟨_, rfl, (zr_wide (show (-1) ≤ Int32.toInt (-1) ∧ Int32.toInt (-1) ≤ (-1) from (by decide)) (by decide) (by decide))⟩, hok, pvfr_0⟩
  · refine pw_eqI (if_neg c6_) ?_
    have b9_ : (-1) ≤ Int32.toInt n1 ∧ Int32.toInt n1 ≤ 2147483647 := zr_nlt_l (-1) c6_ (zbnd n1) (show (-1) ≤ Int32.toInt (-1) ∧ Int32.toInt (-1) ≤ (-1) from (by decide)) (by decide)
    by_cases c10_ : 4 < n1
    · refine pw_eqI (if_pos c10_) ?_
      have b11_ : 5 ≤ Int32.toInt n1 ∧ Int32.toInt n1 ≤ 2147483647 := zr_lt_r 5 c10_ b9_ (show 4 ≤ Int32.toInt 4 ∧ Int32.toInt 4 ≤ 4 from (by decide)) (by decide)
      show PW 10 d (7, [some (pvR 124), some (pvI n1), none, none, none, none, none], [pvI 0], M) _
      refine pw_ifn hT (c := 0 = 0) rfl rfl (fun c12_ => absurd (by decide) c12_) (fun c12_ => ?_)
      refine pw_blk hT 1 (S' := (11, [some (pvR 124), some (pvI n1), none, none, none, none, none], [pvI (-1)], M)) rfl ⟨trivial, trivial⟩ ?_
      exact pw_ret hT rfl (r := some (pvI (-1))) (M' := M) ⟨rfl, rfl⟩ ⟨⟨_, rfl, (zr_wide (show (-1) ≤ Int32.toInt (-1) ∧ Int32.toInt (-1) ≤ (-1) from (by decide)) (by decide) (by decide))⟩, hok, pvfr_0⟩
    · refine pw_eqI (if_neg c10_) ?_
      have b13_ : (-1) ≤ Int32.toInt n1 ∧ Int32.toInt n1 ≤ 4 := zr_nlt_r 4 c10_ b9_ (show 4 ≤ Int32.toInt 4 ∧ Int32.toInt 4 ≤ 4 from (by decide)) (by decide)
      show PW 10 d (7, [some (pvR 124), some (pvI n1), none, none, none, none, none], [pvI 1], M) _
      refine pw_ifn hT (c := 1 = 0) rfl rfl (fun c14_ => ?_) (fun c14_ => absurd c14_ (by decide))
      refine pw_blk hT 1 (S' := (13, [some (pvR 124), some (pvI n1), none, none, none, none, none], [pvR 124], M)) rfl ⟨trivial, trivial⟩ ?_
      refine pw_callGp hT (as := [pvR 124]) (lo1 := [some (pvR 124), none, none]) (d1 := d) (rest := []) rfl rfl rfl rfl rfl (fun _ => rfl) (Nat.zero_le _) rfl rfl rfl (sf_X10_openSet_124 M hok d) (fun x15_ b17_ => ?_)
      refine pw_blkw hT 4 (pc := 22) (lo := [some (pvR 124), some (pvI n1), some (pvI x15_), none, none, none, none]) (st := []) (M := pvu M 124 35 0) rfl ⟨trivial, trivial, trivial, rfl, trivial⟩ (fun M20_ e21_ => ?_)
      have o22_ : pvOk M20_ := pvok_u2 e21_ hok rfl (zr_wide (show 0 ≤ Int32.toInt 0 ∧ Int32.toInt 0 ≤ 0 from (by decide)) (by decide) (by decide))
      have f23_ : pvFr fp_X10_best_124_x M M20_ := pvfr_u e21_ pvfr_0 rfl
      refine pw_blk hT 2 (S' := (24, [some (pvR 124), some (pvI n1), some (pvI x15_), some (pvI 0), none, none, none], [], M20_)) rfl ⟨trivial, trivial, trivial⟩ ?_
      have hlz3143_ : ∀ (nz3143_ : Nat) (i3z3143_ : Int32) (Mz3143_ : pvM), (pvOk Mz3143_) → (pvFr fp_X10_best_124_x M Mz3143_) → (0 ≤ Int32.toInt i3z3143_ ∧ Int32.toInt i3z3143_ ≤ 7) → (Int32.toInt (Mz3143_.1 124 35) ≤ Int32.toInt i3z3143_) → ((8 - Int32.toInt i3z3143_).toNat < nz3143_) → PW 10 d (24, [some (pvR 124), some (pvI n1), some (pvI x15_), some (pvI i3z3143_), none, none, none], [], Mz3143_) (fun r X => (∃ x : Int32, r = some (pvI x) ∧ (-9) ≤ Int32.toInt x ∧ Int32.toInt x ≤ 9000000) ∧ pvOk X ∧ pvFr fp_X10_best_124_x M X) := by
        intro nz3143_
        induction nz3143_ with
        | zero => intro i3z3143_ Mz3143_ oz3143_ fz3143_ h3z3143_ j0z3143_ hmz3143_; exact absurd hmz3143_ (Nat.not_lt_zero _)
        | succ nz3143_ ihz3143_ =>
          intro i3z3143_ Mz3143_ oz3143_ fz3143_ h3z3143_ j0z3143_ hmz3143_
          have b3144_ : 0 ≤ Int32.toInt (Mz3143_.1 124 35) ∧ Int32.toInt (Mz3143_.1 124 35) ≤ 7 := pvok_r oz3143_ 124 35 rfl
          have b3145_ : 0 ≤ Int32.toInt (Mz3143_.1 124 0) ∧ Int32.toInt (Mz3143_.1 124 0) ≤ 7 := pvok_r oz3143_ 124 0 rfl
          refine pw_blk hT 3 (S' := (29, [some (pvR 124), some (pvI n1), some (pvI x15_), some (pvI i3z3143_), none, none, none], [pvI (Mz3143_.1 124 0), pvI i3z3143_], Mz3143_)) rfl ⟨trivial, trivial, rfl, trivial⟩ ?_
          refine pw_ic hT (c := (Mz3143_.1 124 0) ≤ i3z3143_) rfl rfl (fun c3146_ => ?_) (fun c3146_ => ?_)
          · have d3147_ : Int32.toInt (Mz3143_.1 124 0) ≤ Int32.toInt i3z3143_ := (zi_le _ _).mp c3146_
            refine pw_blk hT 3 (S' := (66, [some (pvR 124), some (pvI n1), some (pvI x15_), some (pvI i3z3143_), none, none, none], [pvI 5, pvI (Mz3143_.1 124 35)], Mz3143_)) rfl ⟨trivial, rfl, trivial, trivial⟩ ?_
            refine pw_ic hT (c := (Mz3143_.1 124 35) ≤ 5) rfl rfl (fun c3148_ => ?_) (fun c3148_ => ?_)
            · have b3149_ : 0 ≤ Int32.toInt (Mz3143_.1 124 35) ∧ Int32.toInt (Mz3143_.1 124 35) ≤ 5 := zr_le_l 5 c3148_ b3144_ (show 5 ≤ Int32.toInt 5 ∧ Int32.toInt 5 ≤ 5 from (by decide)) (by decide)
              refine pw_blk hT 1 (S' := (73, [some (pvR 124), some (pvI n1), some (pvI x15_), some (pvI i3z3143_), none, none, none], [pvR 124], Mz3143_)) rfl ⟨trivial, trivial⟩ ?_
              refine pw_callV hT (as := [pvR 124]) (lo1 := [some (pvR 124), none, none]) (d1 := d) (rest := []) rfl rfl rfl rfl rfl (fun _ => rfl) (Nat.zero_le _) rfl rfl rfl (sf_X10_layRain_124 Mz3143_ oz3143_ d) (fun M3151_ o3153_ g3154_ => ?_)
              have f3155_ : pvFr fp_X10_best_124_x M M3151_ := pvfr_t g3154_ fz3143_ fp_X10_best_124_x_fp_X10_layRain_124
              refine pw_blk hT 4 (S' := (81, [some (pvR 124), some (pvI n1), some (pvI x15_), some (pvI (-1)), some (pvI 0), none, none], [], M3151_)) rfl ⟨trivial, trivial, trivial, trivial, trivial⟩ ?_
              have e3156_ : (M3151_.1 124 35) = (Mz3143_.1 124 35) := (g3154_ 124 35 rfl)
              have b3157_ : 0 ≤ Int32.toInt (M3151_.1 124 35) ∧ Int32.toInt (M3151_.1 124 35) ≤ 5 := (by rw [e3156_]; exact b3149_)
              have d3158_ : Int32.toInt (M3151_.1 124 35) = Int32.toInt (Mz3143_.1 124 35) := congrArg Int32.toInt e3156_
              have hlz3714_ : ∀ (nz3714_ : Nat) (i3z3714_ : Int32) (i4z3714_ : Int32) (v5z3714_ : Option pvV) (v6z3714_ : Option pvV) (Mz3714_ : pvM), (pvOk Mz3714_) → (pvFr fp_X10_best_124_x M Mz3714_) → (Mz3714_.1 124 35 = M3151_.1 124 35) → ((-1) ≤ Int32.toInt i3z3714_ ∧ Int32.toInt i3z3714_ ≤ 9000000) → (0 ≤ Int32.toInt i4z3714_ ∧ Int32.toInt i4z3714_ ≤ 5040) → ((5041 - Int32.toInt i4z3714_).toNat < nz3714_) → PW 10 d (81, [some (pvR 124), some (pvI n1), some (pvI x15_), some (pvI i3z3714_), some (pvI i4z3714_), v5z3714_, v6z3714_], [], Mz3714_) (fun r X => (∃ x : Int32, r = some (pvI x) ∧ (-9) ≤ Int32.toInt x ∧ Int32.toInt x ≤ 9000000) ∧ pvOk X ∧ pvFr fp_X10_best_124_x M X) := by
                intro nz3714_
                induction nz3714_ with
                | zero => intro i3z3714_ i4z3714_ v5z3714_ v6z3714_ Mz3714_ oz3714_ fz3714_ k124_35z3714_ h3z3714_ h4z3714_ hmz3714_; exact absurd hmz3714_ (Nat.not_lt_zero _)
                | succ nz3714_ ihz3714_ =>
                  intro i3z3714_ i4z3714_ v5z3714_ v6z3714_ Mz3714_ oz3714_ fz3714_ k124_35z3714_ h3z3714_ h4z3714_ hmz3714_
                  refine pw_blk hT 3 (S' := (85, [some (pvR 124), some (pvI n1), some (pvI x15_), some (pvI i3z3714_), some (pvI i4z3714_), v5z3714_, v6z3714_], [pvI i4z3714_, pvI x15_, pvR 124], Mz3714_)) rfl ⟨trivial, trivial, trivial, trivial⟩ ?_
                  refine pw_callG hT (as := [pvR 124, pvI x15_, pvI i4z3714_]) (lo1 := [some (pvR 124), some (pvI x15_), some (pvI i4z3714_), none, none, none, none, none, none]) (d1 := d) (rest := []) rfl rfl rfl rfl rfl (fun _ => rfl) (Nat.zero_le _) rfl rfl rfl (sf_X10_layOrder_124_x_x Mz3714_ oz3714_ x15_ i4z3714_ (show 0 ≤ Int32.toInt i4z3714_ ∧ Int32.toInt i4z3714_ ≤ 5040 from (by omega)) d) (fun x3715_ M3716_ b3717_ o3718_ g3719_ => ?_)
                  have f3720_ : pvFr fp_X10_best_124_x M M3716_ := pvfr_t g3719_ fz3714_ fp_X10_best_124_x_fp_X10_layOrder_124_x_x
                  obtain ⟨b3721_, d3722_⟩ := b3717_
                  refine pw_if hT (c := x3715_ = 0) rfl rfl (fun c3723_ => ?_) (fun c3723_ => ?_)
                  · have b3724_ : 0 ≤ Int32.toInt x3715_ ∧ Int32.toInt x3715_ ≤ 0 := (by have u0 := b3721_; have u1 := (zi_eq _ _).mp c3723_; have u2 := (show 0 ≤ Int32.toInt 0 ∧ Int32.toInt 0 ≤ 0 from (by decide)); omega)
                    refine pw_blk hT 1 (S' := (151, [some (pvR 124), some (pvI n1), some (pvI x15_), some (pvI i3z3714_), some (pvI i4z3714_), v5z3714_, v6z3714_], [pvI n1], M3716_)) rfl ⟨trivial, trivial⟩ ?_
                    refine pw_if hT (c := 0 ≤ n1) rfl rfl (fun c3725_ => ?_) (fun c3725_ => ?_)
                    · have b3726_ : 0 ≤ Int32.toInt n1 ∧ Int32.toInt n1 ≤ 4 := zr_le_r 0 c3725_ b13_ (show 0 ≤ Int32.toInt 0 ∧ Int32.toInt 0 ≤ 0 from (by decide)) (by decide)
                      have e3727_ : (M3716_.1 124 35) = (M3151_.1 124 35) := ((g3719_ 124 35 rfl).trans (k124_35z3714_))
                      have b3728_ : 0 ≤ Int32.toInt (M3716_.1 124 35) ∧ Int32.toInt (M3716_.1 124 35) ≤ 5 := (by rw [e3727_]; exact b3157_)
                      have d3729_ : Int32.toInt (M3716_.1 124 35) = Int32.toInt (M3151_.1 124 35) := congrArg Int32.toInt e3727_
                      refine pw_blk hT 3 (S' := (163, [some (pvR 124), some (pvI n1), some (pvI x15_), some (pvI i3z3714_), some (pvI i4z3714_), v5z3714_, v6z3714_], [pvI (M3716_.1 124 35), pvI n1], M3716_)) rfl ⟨trivial, trivial, rfl, trivial⟩ ?_
                      refine pw_ic hT (c := (M3716_.1 124 35) ≤ n1) rfl rfl (fun c3730_ => ?_) (fun c3730_ => ?_)
                      · have b3731_ : 0 ≤ Int32.toInt (M3716_.1 124 35) ∧ Int32.toInt (M3716_.1 124 35) ≤ 4 := zr_le_l 4 c3730_ b3728_ b3726_ (by decide)
                        have d3732_ : Int32.toInt (M3716_.1 124 35) ≤ Int32.toInt n1 := (zi_le _ _).mp c3730_
                        refine pw_blk hT 1 (S' := (177, [some (pvR 124), some (pvI n1), some (pvI x15_), some (pvI i3z3714_), some (pvI i4z3714_), v5z3714_, v6z3714_], [pvI (-5)], M3716_)) rfl ⟨trivial, trivial⟩ ?_
                        exact pw_ret hT rfl (r := some (pvI (-5))) (M' := M3716_) ⟨rfl, rfl⟩ ⟨⟨_, rfl, (zr_wide (show (-5) ≤ Int32.toInt (-5) ∧ Int32.toInt (-5) ≤ (-5) from (by decide)) (by decide) (by decide))⟩, o3718_, f3720_⟩
                      · have b3733_ : 1 ≤ Int32.toInt (M3716_.1 124 35) ∧ Int32.toInt (M3716_.1 124 35) ≤ 5 := zr_nle_l 1 c3730_ b3728_ b3726_ (by decide)
                        have d3734_ : Int32.toInt (M3716_.1 124 35) > Int32.toInt n1 := Int.not_le.mp ((not_congr (zi_le _ _)).mp c3730_)
                        have b3735_ : 0 ≤ Int32.toInt (M3716_.1 146 (Int32.toNatClampNeg n1)) ∧ Int32.toInt (M3716_.1 146 (Int32.toNatClampNeg n1)) ≤ 6 := pvok_r o3718_ 146 (Int32.toNatClampNeg n1) rfl
                        refine pw_blk hT 5 (S' := (177, [some (pvR 124), some (pvI n1), some (pvI x15_), some (pvI i3z3714_), some (pvI i4z3714_), v5z3714_, v6z3714_], [pvI (M3716_.1 146 (Int32.toNatClampNeg n1))], M3716_)) rfl ⟨trivial, rfl, trivial, ⟨rfl, (zr_in (n := 7) b3726_ (by decide) (by decide))⟩, trivial, trivial⟩ ?_
                        exact pw_ret hT rfl (r := some (pvI (M3716_.1 146 (Int32.toNatClampNeg n1)))) (M' := M3716_) ⟨rfl, rfl⟩ ⟨⟨_, rfl, (zr_wide b3735_ (by decide) (by decide))⟩, o3718_, f3720_⟩
                    · have b3736_ : (-1) ≤ Int32.toInt n1 ∧ Int32.toInt n1 ≤ (-1) := zr_nle_r (-1) c3725_ b13_ (show 0 ≤ Int32.toInt 0 ∧ Int32.toInt 0 ≤ 0 from (by decide)) (by decide)
                      refine pw_blk hT 2 (S' := (177, [some (pvR 124), some (pvI n1), some (pvI x15_), some (pvI i3z3714_), some (pvI i4z3714_), v5z3714_, v6z3714_], [pvI i3z3714_], M3716_)) rfl ⟨trivial, trivial, trivial⟩ ?_
                      exact pw_ret hT rfl (r := some (pvI i3z3714_)) (M' := M3716_) ⟨rfl, rfl⟩ ⟨⟨_, rfl, (zr_wide h3z3714_ (by decide) (by decide))⟩, o3718_, f3720_⟩
                  · have b3737_ : 1 ≤ Int32.toInt x3715_ ∧ Int32.toInt x3715_ ≤ 1 := (by have u0 := b3721_; have u1 := (not_congr (zi_eq _ _)).mp c3723_; have u2 := (show 0 ≤ Int32.toInt 0 ∧ Int32.toInt 0 ≤ 0 from (by decide)); omega)
                    refine pw_blk hT 2 (S' := (93, [some (pvR 124), some (pvI n1), some (pvI x15_), some (pvI i3z3714_), some (pvI i4z3714_), v5z3714_, v6z3714_], [pvI 0, pvR 124], M3716_)) rfl ⟨trivial, trivial, trivial⟩ ?_
                    refine pw_callG hT (as := [pvR 124, pvI 0]) (lo1 := [some (pvR 124), some (pvI 0), none]) (d1 := d) (rest := []) rfl rfl rfl rfl rfl (fun _ => rfl) (Nat.zero_le _) rfl rfl rfl (sf_X10_costOfPath_124_x M3716_ o3718_ 0 (zr_wide (show 0 ≤ Int32.toInt 0 ∧ Int32.toInt 0 ≤ 0 from (by decide)) (by decide) (by decide)) d) (fun x3738_ M3739_ b3740_ o3741_ g3742_ => ?_)
                    have f3743_ : pvFr fp_X10_best_124_x M M3739_ := pvfr_t g3742_ f3720_ fp_X10_best_124_x_fp_X10_costOfPath_124_x
                    refine pw_blk hT 2 (S' := (99, [some (pvR 124), some (pvI n1), some (pvI x15_), some (pvI i3z3714_), some (pvI i4z3714_), some (pvI x3738_), v6z3714_], [pvI i3z3714_], M3739_)) rfl ⟨trivial, trivial, trivial⟩ ?_
                    refine pw_if hT (c := i3z3714_ < 0) rfl rfl (fun c3744_ => ?_) (fun c3744_ => ?_)
                    · have b3745_ : (-1) ≤ Int32.toInt i3z3714_ ∧ Int32.toInt i3z3714_ ≤ (-1) := zr_lt_l (-1) c3744_ h3z3714_ (show 0 ≤ Int32.toInt 0 ∧ Int32.toInt 0 ≤ 0 from (by decide)) (by decide)
                      refine pw_blk hT 4 (S' := (117, [some (pvR 124), some (pvI n1), some (pvI x15_), some (pvI x3738_), some (pvI i4z3714_), some (pvI x3738_), some (pvI 0)], [], M3739_)) rfl ⟨trivial, trivial, trivial, trivial, trivial⟩ ?_
                      have e3746_ : (M3739_.1 124 35) = (M3151_.1 124 35) := (((g3742_ 124 35 rfl).trans (g3719_ 124 35 rfl)).trans (k124_35z3714_))
                      have b3747_ : 0 ≤ Int32.toInt (M3739_.1 124 35) ∧ Int32.toInt (M3739_.1 124 35) ≤ 5 := (by rw [e3746_]; exact b3157_)
                      have d3748_ : Int32.toInt (M3739_.1 124 35) = Int32.toInt (M3151_.1 124 35) := congrArg Int32.toInt e3746_
                      have hlz3804_ : ∀ (nz3804_ : Nat) (i6z3804_ : Int32) (Mz3804_ : pvM), (pvOk Mz3804_) → (pvFr fp_X10_best_124_x M Mz3804_) → (Mz3804_.1 124 35 = M3739_.1 124 35) → (0 ≤ Int32.toInt i6z3804_ ∧ Int32.toInt i6z3804_ ≤ 7) → ((8 - Int32.toInt i6z3804_).toNat < nz3804_) → PW 10 d (117, [some (pvR 124), some (pvI n1), some (pvI x15_), some (pvI x3738_), some (pvI i4z3714_), some (pvI x3738_), some (pvI i6z3804_)], [], Mz3804_) (fun r X => (∃ x : Int32, r = some (pvI x) ∧ (-9) ≤ Int32.toInt x ∧ Int32.toInt x ≤ 9000000) ∧ pvOk X ∧ pvFr fp_X10_best_124_x M X) := by
                        intro nz3804_
                        induction nz3804_ with
                        | zero => intro i6z3804_ Mz3804_ oz3804_ fz3804_ k124_35z3804_ h6z3804_ hmz3804_; exact absurd hmz3804_ (Nat.not_lt_zero _)
                        | succ nz3804_ ihz3804_ =>
                          intro i6z3804_ Mz3804_ oz3804_ fz3804_ k124_35z3804_ h6z3804_ hmz3804_
                          refine pw_blk hT 2 (S' := (121, [some (pvR 124), some (pvI n1), some (pvI x15_), some (pvI x3738_), some (pvI i4z3714_), some (pvI x3738_), some (pvI i6z3804_)], [pvI 7, pvI i6z3804_], Mz3804_)) rfl ⟨trivial, trivial, trivial⟩ ?_
                          refine pw_ic hT (c := 7 ≤ i6z3804_) rfl rfl (fun c3805_ => ?_) (fun c3805_ => ?_)
                          · have b3806_ : 7 ≤ Int32.toInt i6z3804_ ∧ Int32.toInt i6z3804_ ≤ 7 := zr_le_r 7 c3805_ h6z3804_ (show 7 ≤ Int32.toInt 7 ∧ Int32.toInt 7 ≤ 7 from (by decide)) (by decide)
                            obtain ⟨q3808_, b3807_⟩ : (Int32.toInt (i4z3714_ + 1) = Int32.toInt i4z3714_ + Int32.toInt 1) ∧ (1 ≤ Int32.toInt (i4z3714_ + 1) ∧ Int32.toInt (i4z3714_ + 1) ≤ 5041) := zadd_r i4z3714_ 1 1 5041 h4z3714_ (show 1 ≤ Int32.toInt 1 ∧ Int32.toInt 1 ≤ 1 from (by decide)) (by decide) (by decide) (by decide) (by decide)
                            have u3809_ : Int32.toInt 1 = 1 := by decide
                            refine pw_blk hT 2 (S' := (81, [some (pvR 124), some (pvI n1), some (pvI x15_), some (pvI x3738_), some (pvI (i4z3714_ + 1)), some (pvI x3738_), some (pvI i6z3804_)], [], Mz3804_)) rfl ⟨trivial, trivial, trivial⟩ ?_
                            exact ihz3714_ x3738_ (i4z3714_ + 1) (some (pvI x3738_)) (some (pvI i6z3804_)) Mz3804_ oz3804_ fz3804_ ((((k124_35z3804_).trans (g3742_ 124 35 rfl)).trans (g3719_ 124 35 rfl)).trans (k124_35z3714_)) (zr_wide b3740_ (by decide) (by decide)) (by have u0 := b3807_; omega) (by omega)
                          · have b3810_ : 0 ≤ Int32.toInt i6z3804_ ∧ Int32.toInt i6z3804_ ≤ 6 := zr_nle_r 6 c3805_ h6z3804_ (show 7 ≤ Int32.toInt 7 ∧ Int32.toInt 7 ≤ 7 from (by decide)) (by decide)
                            have b3811_ : 0 ≤ Int32.toInt (Mz3804_.1 144 (Int32.toNatClampNeg i6z3804_)) ∧ Int32.toInt (Mz3804_.1 144 (Int32.toNatClampNeg i6z3804_)) ≤ 6 := pvok_r oz3804_ 144 (Int32.toNatClampNeg i6z3804_) rfl
                            refine pw_blkw hT 8 (pc := 138) (lo := [some (pvR 124), some (pvI n1), some (pvI x15_), some (pvI x3738_), some (pvI i4z3714_), some (pvI x3738_), some (pvI i6z3804_)]) (st := []) (M := pvu Mz3804_ 146 (Int32.toNatClampNeg i6z3804_) (Mz3804_.1 144 (Int32.toNatClampNeg i6z3804_))) rfl ⟨trivial, rfl, trivial, trivial, rfl, trivial, ⟨rfl, (zr_in (n := 7) b3810_ (by decide) (by decide))⟩, ⟨rfl, (zr_in (n := 7) b3810_ (by decide) (by decide))⟩, trivial⟩ (fun M3812_ e3813_ => ?_)
                            have o3814_ : pvOk M3812_ := pvok_u2 e3813_ oz3804_ rfl b3811_
                            have f3815_ : pvFr fp_X10_best_124_x M M3812_ := pvfr_u e3813_ fz3804_ rfl
                            obtain ⟨q3817_, b3816_⟩ : (Int32.toInt (i6z3804_ + 1) = Int32.toInt i6z3804_ + Int32.toInt 1) ∧ (1 ≤ Int32.toInt (i6z3804_ + 1) ∧ Int32.toInt (i6z3804_ + 1) ≤ 7) := zadd_r i6z3804_ 1 1 7 b3810_ (show 1 ≤ Int32.toInt 1 ∧ Int32.toInt 1 ≤ 1 from (by decide)) (by decide) (by decide) (by decide) (by decide)
                            have u3818_ : Int32.toInt 1 = 1 := by decide
                            refine pw_blk hT 2 (S' := (117, [some (pvR 124), some (pvI n1), some (pvI x15_), some (pvI x3738_), some (pvI i4z3714_), some (pvI x3738_), some (pvI (i6z3804_ + 1))], [], M3812_)) rfl ⟨trivial, trivial, trivial⟩ ?_
                            exact ihz3804_ (i6z3804_ + 1) M3812_ o3814_ f3815_ ((pvu_n e3813_ 124 35 (Or.inl (by decide))).trans (k124_35z3804_)) (zr_wide b3816_ (by decide) (by decide)) (by omega)
                      exact hlz3804_ _ 0 M3739_ o3741_ f3743_ rfl (zr_wide (show 0 ≤ Int32.toInt 0 ∧ Int32.toInt 0 ≤ 0 from (by decide)) (by decide) (by decide)) (Nat.lt_succ_self _)
                    · have b3819_ : 0 ≤ Int32.toInt i3z3714_ ∧ Int32.toInt i3z3714_ ≤ 9000000 := zr_nlt_l 0 c3744_ h3z3714_ (show 0 ≤ Int32.toInt 0 ∧ Int32.toInt 0 ≤ 0 from (by decide)) (by decide)
                      refine pw_blk hT 2 (S' := (105, [some (pvR 124), some (pvI n1), some (pvI x15_), some (pvI i3z3714_), some (pvI i4z3714_), some (pvI x3738_), v6z3714_], [pvI i3z3714_, pvI x3738_], M3739_)) rfl ⟨trivial, trivial, trivial⟩ ?_
                      refine pw_ic hT (c := x3738_ < i3z3714_) rfl rfl (fun c3820_ => ?_) (fun c3820_ => ?_)
                      · have b3821_ : 0 ≤ Int32.toInt x3738_ ∧ Int32.toInt x3738_ ≤ 8999999 := zr_lt_l 8999999 c3820_ b3740_ b3819_ (by decide)
                        have b3822_ : 1 ≤ Int32.toInt i3z3714_ ∧ Int32.toInt i3z3714_ ≤ 9000000 := zr_lt_r 1 c3820_ b3819_ b3821_ (by decide)
                        have d3823_ : Int32.toInt x3738_ < Int32.toInt i3z3714_ := (zi_lt _ _).mp c3820_
                        refine pw_blk hT 4 (S' := (117, [some (pvR 124), some (pvI n1), some (pvI x15_), some (pvI x3738_), some (pvI i4z3714_), some (pvI x3738_), some (pvI 0)], [], M3739_)) rfl ⟨trivial, trivial, trivial, trivial, trivial⟩ ?_
                        have e3824_ : (M3739_.1 124 35) = (M3151_.1 124 35) := (((g3742_ 124 35 rfl).trans (g3719_ 124 35 rfl)).trans (k124_35z3714_))
                        have b3825_ : 0 ≤ Int32.toInt (M3739_.1 124 35) ∧ Int32.toInt (M3739_.1 124 35) ≤ 5 := (by rw [e3824_]; exact b3157_)
                        have d3826_ : Int32.toInt (M3739_.1 124 35) = Int32.toInt (M3151_.1 124 35) := congrArg Int32.toInt e3824_
                        have hlz3882_ : ∀ (nz3882_ : Nat) (i6z3882_ : Int32) (Mz3882_ : pvM), (pvOk Mz3882_) → (pvFr fp_X10_best_124_x M Mz3882_) → (Mz3882_.1 124 35 = M3739_.1 124 35) → (0 ≤ Int32.toInt i6z3882_ ∧ Int32.toInt i6z3882_ ≤ 7) → ((8 - Int32.toInt i6z3882_).toNat < nz3882_) → PW 10 d (117, [some (pvR 124), some (pvI n1), some (pvI x15_), some (pvI x3738_), some (pvI i4z3714_), some (pvI x3738_), some (pvI i6z3882_)], [], Mz3882_) (fun r X => (∃ x : Int32, r = some (pvI x) ∧ (-9) ≤ Int32.toInt x ∧ Int32.toInt x ≤ 9000000) ∧ pvOk X ∧ pvFr fp_X10_best_124_x M X) := by
                          intro nz3882_
                          induction nz3882_ with
                          | zero => intro i6z3882_ Mz3882_ oz3882_ fz3882_ k124_35z3882_ h6z3882_ hmz3882_; exact absurd hmz3882_ (Nat.not_lt_zero _)
                          | succ nz3882_ ihz3882_ =>
                            intro i6z3882_ Mz3882_ oz3882_ fz3882_ k124_35z3882_ h6z3882_ hmz3882_
                            refine pw_blk hT 2 (S' := (121, [some (pvR 124), some (pvI n1), some (pvI x15_), some (pvI x3738_), some (pvI i4z3714_), some (pvI x3738_), some (pvI i6z3882_)], [pvI 7, pvI i6z3882_], Mz3882_)) rfl ⟨trivial, trivial, trivial⟩ ?_
                            refine pw_ic hT (c := 7 ≤ i6z3882_) rfl rfl (fun c3883_ => ?_) (fun c3883_ => ?_)
                            · have b3884_ : 7 ≤ Int32.toInt i6z3882_ ∧ Int32.toInt i6z3882_ ≤ 7 := zr_le_r 7 c3883_ h6z3882_ (show 7 ≤ Int32.toInt 7 ∧ Int32.toInt 7 ≤ 7 from (by decide)) (by decide)
                              obtain ⟨q3886_, b3885_⟩ : (Int32.toInt (i4z3714_ + 1) = Int32.toInt i4z3714_ + Int32.toInt 1) ∧ (1 ≤ Int32.toInt (i4z3714_ + 1) ∧ Int32.toInt (i4z3714_ + 1) ≤ 5041) := zadd_r i4z3714_ 1 1 5041 h4z3714_ (show 1 ≤ Int32.toInt 1 ∧ Int32.toInt 1 ≤ 1 from (by decide)) (by decide) (by decide) (by decide) (by decide)
                              have u3887_ : Int32.toInt 1 = 1 := by decide
                              refine pw_blk hT 2 (S' := (81, [some (pvR 124), some (pvI n1), some (pvI x15_), some (pvI x3738_), some (pvI (i4z3714_ + 1)), some (pvI x3738_), some (pvI i6z3882_)], [], Mz3882_)) rfl ⟨trivial, trivial, trivial⟩ ?_
                              exact ihz3714_ x3738_ (i4z3714_ + 1) (some (pvI x3738_)) (some (pvI i6z3882_)) Mz3882_ oz3882_ fz3882_ ((((k124_35z3882_).trans (g3742_ 124 35 rfl)).trans (g3719_ 124 35 rfl)).trans (k124_35z3714_)) (zr_wide b3821_ (by decide) (by decide)) (by have u0 := b3885_; omega) (by omega)
                            · have b3888_ : 0 ≤ Int32.toInt i6z3882_ ∧ Int32.toInt i6z3882_ ≤ 6 := zr_nle_r 6 c3883_ h6z3882_ (show 7 ≤ Int32.toInt 7 ∧ Int32.toInt 7 ≤ 7 from (by decide)) (by decide)
                              have b3889_ : 0 ≤ Int32.toInt (Mz3882_.1 144 (Int32.toNatClampNeg i6z3882_)) ∧ Int32.toInt (Mz3882_.1 144 (Int32.toNatClampNeg i6z3882_)) ≤ 6 := pvok_r oz3882_ 144 (Int32.toNatClampNeg i6z3882_) rfl
                              refine pw_blkw hT 8 (pc := 138) (lo := [some (pvR 124), some (pvI n1), some (pvI x15_), some (pvI x3738_), some (pvI i4z3714_), some (pvI x3738_), some (pvI i6z3882_)]) (st := []) (M := pvu Mz3882_ 146 (Int32.toNatClampNeg i6z3882_) (Mz3882_.1 144 (Int32.toNatClampNeg i6z3882_))) rfl ⟨trivial, rfl, trivial, trivial, rfl, trivial, ⟨rfl, (zr_in (n := 7) b3888_ (by decide) (by decide))⟩, ⟨rfl, (zr_in (n := 7) b3888_ (by decide) (by decide))⟩, trivial⟩ (fun M3890_ e3891_ => ?_)
                              have o3892_ : pvOk M3890_ := pvok_u2 e3891_ oz3882_ rfl b3889_
                              have f3893_ : pvFr fp_X10_best_124_x M M3890_ := pvfr_u e3891_ fz3882_ rfl
                              obtain ⟨q3895_, b3894_⟩ : (Int32.toInt (i6z3882_ + 1) = Int32.toInt i6z3882_ + Int32.toInt 1) ∧ (1 ≤ Int32.toInt (i6z3882_ + 1) ∧ Int32.toInt (i6z3882_ + 1) ≤ 7) := zadd_r i6z3882_ 1 1 7 b3888_ (show 1 ≤ Int32.toInt 1 ∧ Int32.toInt 1 ≤ 1 from (by decide)) (by decide) (by decide) (by decide) (by decide)
                              have u3896_ : Int32.toInt 1 = 1 := by decide
                              refine pw_blk hT 2 (S' := (117, [some (pvR 124), some (pvI n1), some (pvI x15_), some (pvI x3738_), some (pvI i4z3714_), some (pvI x3738_), some (pvI (i6z3882_ + 1))], [], M3890_)) rfl ⟨trivial, trivial, trivial⟩ ?_
                              exact ihz3882_ (i6z3882_ + 1) M3890_ o3892_ f3893_ ((pvu_n e3891_ 124 35 (Or.inl (by decide))).trans (k124_35z3882_)) (zr_wide b3894_ (by decide) (by decide)) (by omega)
                        exact hlz3882_ _ 0 M3739_ o3741_ f3743_ rfl (zr_wide (show 0 ≤ Int32.toInt 0 ∧ Int32.toInt 0 ≤ 0 from (by decide)) (by decide) (by decide)) (Nat.lt_succ_self _)
                      · have d3897_ : Int32.toInt x3738_ ≥ Int32.toInt i3z3714_ := Int.not_lt.mp ((not_congr (zi_lt _ _)).mp c3820_)
                        obtain ⟨q3899_, b3898_⟩ : (Int32.toInt (i4z3714_ + 1) = Int32.toInt i4z3714_ + Int32.toInt 1) ∧ (1 ≤ Int32.toInt (i4z3714_ + 1) ∧ Int32.toInt (i4z3714_ + 1) ≤ 5041) := zadd_r i4z3714_ 1 1 5041 h4z3714_ (show 1 ≤ Int32.toInt 1 ∧ Int32.toInt 1 ≤ 1 from (by decide)) (by decide) (by decide) (by decide) (by decide)
                        have u3900_ : Int32.toInt 1 = 1 := by decide
                        refine pw_blk hT 3 (S' := (81, [some (pvR 124), some (pvI n1), some (pvI x15_), some (pvI i3z3714_), some (pvI (i4z3714_ + 1)), some (pvI x3738_), v6z3714_], [], M3739_)) rfl ⟨trivial, trivial, trivial, trivial⟩ ?_
                        exact ihz3714_ i3z3714_ (i4z3714_ + 1) (some (pvI x3738_)) v6z3714_ M3739_ o3741_ f3743_ (((g3742_ 124 35 rfl).trans (g3719_ 124 35 rfl)).trans (k124_35z3714_)) (zr_wide b3819_ (by decide) (by decide)) (by have u0 := b3898_; omega) (by omega)
              exact hlz3714_ _ (-1) 0 none none M3151_ o3153_ f3155_ rfl (zr_wide (show (-1) ≤ Int32.toInt (-1) ∧ Int32.toInt (-1) ≤ (-1) from (by decide)) (by decide) (by decide)) (zr_wide (show 0 ≤ Int32.toInt 0 ∧ Int32.toInt 0 ≤ 0 from (by decide)) (by decide) (by decide)) (Nat.lt_succ_self _)
            · have b3901_ : 6 ≤ Int32.toInt (Mz3143_.1 124 35) ∧ Int32.toInt (Mz3143_.1 124 35) ≤ 7 := zr_nle_l 6 c3148_ b3144_ (show 5 ≤ Int32.toInt 5 ∧ Int32.toInt 5 ≤ 5 from (by decide)) (by decide)
              refine pw_blk hT 1 (S' := (71, [some (pvR 124), some (pvI n1), some (pvI x15_), some (pvI i3z3143_), none, none, none], [pvI (-9)], Mz3143_)) rfl ⟨trivial, trivial⟩ ?_
              exact pw_ret hT rfl (r := some (pvI (-9))) (M' := Mz3143_) ⟨rfl, rfl⟩ ⟨⟨_, rfl, (zr_wide (show (-9) ≤ Int32.toInt (-9) ∧ Int32.toInt (-9) ≤ (-9) from (by decide)) (by decide) (by decide))⟩, oz3143_, fz3143_⟩
          · have b3902_ : 1 ≤ Int32.toInt (Mz3143_.1 124 0) ∧ Int32.toInt (Mz3143_.1 124 0) ≤ 7 := zr_nle_l 1 c3146_ b3145_ h3z3143_ (by decide)
            have b3903_ : 0 ≤ Int32.toInt i3z3143_ ∧ Int32.toInt i3z3143_ ≤ 6 := zr_nle_r 6 c3146_ h3z3143_ b3902_ (by decide)
            have d3904_ : Int32.toInt (Mz3143_.1 124 0) > Int32.toInt i3z3143_ := Int.not_le.mp ((not_congr (zi_le _ _)).mp c3146_)
            refine pw_blk hT 6 (S' := (40, [some (pvR 124), some (pvI n1), some (pvI x15_), some (pvI i3z3143_), none, none, none], [pvI i3z3143_, pvI x15_, pvR 124, pvI (Mz3143_.1 124 35), pvR 124], Mz3143_)) rfl ⟨trivial, trivial, rfl, trivial, trivial, trivial, trivial⟩ ?_
            refine pw_callT hT (as := [pvR 124, pvI x15_, pvI i3z3143_]) (lo1 := [some (pvR 124), some (pvI x15_), some (pvI i3z3143_)]) (d1 := d) (rest := [pvI (Mz3143_.1 124 35), pvR 124]) rfl rfl rfl rfl rfl (fun _ => rfl) (Nat.zero_le _) rfl rfl rfl (sf_X10_has_124_x_x Mz3143_ oz3143_ x15_ i3z3143_ d) ?_
            by_cases c3910_ : ((x15_ >>> (i3z3143_ &&& 31)) &&& 1) = 1
            · refine pw_eqI (if_pos c3910_) ?_
              have b3911_ : 1 ≤ Int32.toInt ((x15_ >>> (i3z3143_ &&& 31)) &&& 1) ∧ Int32.toInt ((x15_ >>> (i3z3143_ &&& 31)) &&& 1) ≤ 1 := (by have u0 := (zbnd ((x15_ >>> (i3z3143_ &&& 31)) &&& 1)); have u1 := (zi_eq _ _).mp c3910_; have u2 := (show 1 ≤ Int32.toInt 1 ∧ Int32.toInt 1 ≤ 1 from (by decide)); omega)
              show PW 10 d (43, [some (pvR 124), some (pvI n1), some (pvI x15_), some (pvI i3z3143_), none, none, none], [pvI 1, pvI (Mz3143_.1 124 35), pvR 124], Mz3143_) _
              refine pw_if hT (c := 1 = 0) rfl rfl (fun c3912_ => absurd c3912_ (by decide)) (fun c3912_ => ?_)
              obtain ⟨q3914_, b3913_⟩ : (Int32.toInt ((Mz3143_.1 124 35) + 1) = Int32.toInt (Mz3143_.1 124 35) + Int32.toInt 1) ∧ (1 ≤ Int32.toInt ((Mz3143_.1 124 35) + 1) ∧ Int32.toInt ((Mz3143_.1 124 35) + 1) ≤ 8) := zadd_r (Mz3143_.1 124 35) 1 1 8 b3144_ (show 1 ≤ Int32.toInt 1 ∧ Int32.toInt 1 ≤ 1 from (by decide)) (by decide) (by decide) (by decide) (by decide)
              have u3915_ : Int32.toInt 1 = 1 := by decide
              refine pw_blkw hT 4 (pc := 55) (lo := [some (pvR 124), some (pvI n1), some (pvI x15_), some (pvI i3z3143_), none, none, none]) (st := []) (M := pvu Mz3143_ 124 35 ((Mz3143_.1 124 35) + 1)) rfl ⟨trivial, trivial, trivial, rfl, trivial⟩ (fun M3916_ e3917_ => ?_)
              have o3918_ : pvOk M3916_ := pvok_u2 e3917_ oz3143_ rfl (by have u0 := b3913_; omega)
              have f3919_ : pvFr fp_X10_best_124_x M M3916_ := pvfr_u e3917_ fz3143_ rfl
              obtain ⟨q3921_, b3920_⟩ : (Int32.toInt (i3z3143_ + 1) = Int32.toInt i3z3143_ + Int32.toInt 1) ∧ (1 ≤ Int32.toInt (i3z3143_ + 1) ∧ Int32.toInt (i3z3143_ + 1) ≤ 7) := zadd_r i3z3143_ 1 1 7 b3903_ (show 1 ≤ Int32.toInt 1 ∧ Int32.toInt 1 ≤ 1 from (by decide)) (by decide) (by decide) (by decide) (by decide)
              refine pw_blk hT 2 (S' := (24, [some (pvR 124), some (pvI n1), some (pvI x15_), some (pvI (i3z3143_ + 1)), none, none, none], [], M3916_)) rfl ⟨trivial, trivial, trivial⟩ ?_
              have j3922_ : Int32.toInt (M3916_.1 124 35) ≤ Int32.toInt (i3z3143_ + 1) := by have y01 : Int32.toInt (M3916_.1 124 35) = Int32.toInt ((Mz3143_.1 124 35) + 1) := congrArg Int32.toInt (pvu_s e3917_); omega
              exact ihz3143_ (i3z3143_ + 1) M3916_ o3918_ f3919_ (zr_wide b3920_ (by decide) (by decide)) j3922_ (by have y01 : Int32.toInt (M3916_.1 124 35) = Int32.toInt ((Mz3143_.1 124 35) + 1) := congrArg Int32.toInt (pvu_s e3917_); omega)
            · refine pw_eqI (if_neg c3910_) ?_
              show PW 10 d (43, [some (pvR 124), some (pvI n1), some (pvI x15_), some (pvI i3z3143_), none, none, none], [pvI 0, pvI (Mz3143_.1 124 35), pvR 124], Mz3143_) _
              refine pw_if hT (c := 0 = 0) rfl rfl (fun c3923_ => ?_) (fun c3923_ => absurd (by decide) c3923_)
              obtain ⟨q3925_, b3924_⟩ : (Int32.toInt ((Mz3143_.1 124 35) + 0) = Int32.toInt (Mz3143_.1 124 35) + Int32.toInt 0) ∧ (0 ≤ Int32.toInt ((Mz3143_.1 124 35) + 0) ∧ Int32.toInt ((Mz3143_.1 124 35) + 0) ≤ 7) := zadd_r (Mz3143_.1 124 35) 0 0 7 b3144_ (show 0 ≤ Int32.toInt 0 ∧ Int32.toInt 0 ≤ 0 from (by decide)) (by decide) (by decide) (by decide) (by decide)
              have u3926_ : Int32.toInt 0 = 0 := by decide
              refine pw_blkw hT 3 (pc := 55) (lo := [some (pvR 124), some (pvI n1), some (pvI x15_), some (pvI i3z3143_), none, none, none]) (st := []) (M := pvu Mz3143_ 124 35 ((Mz3143_.1 124 35) + 0)) rfl ⟨trivial, trivial, rfl, trivial⟩ (fun M3927_ e3928_ => ?_)
              have o3929_ : pvOk M3927_ := pvok_u2 e3928_ oz3143_ rfl b3924_
              have f3930_ : pvFr fp_X10_best_124_x M M3927_ := pvfr_u e3928_ fz3143_ rfl
              obtain ⟨q3932_, b3931_⟩ : (Int32.toInt (i3z3143_ + 1) = Int32.toInt i3z3143_ + Int32.toInt 1) ∧ (1 ≤ Int32.toInt (i3z3143_ + 1) ∧ Int32.toInt (i3z3143_ + 1) ≤ 7) := zadd_r i3z3143_ 1 1 7 b3903_ (show 1 ≤ Int32.toInt 1 ∧ Int32.toInt 1 ≤ 1 from (by decide)) (by decide) (by decide) (by decide) (by decide)
              have u3933_ : Int32.toInt 1 = 1 := by decide
              refine pw_blk hT 2 (S' := (24, [some (pvR 124), some (pvI n1), some (pvI x15_), some (pvI (i3z3143_ + 1)), none, none, none], [], M3927_)) rfl ⟨trivial, trivial, trivial⟩ ?_
              have j3934_ : Int32.toInt (M3927_.1 124 35) ≤ Int32.toInt (i3z3143_ + 1) := by have y01 : Int32.toInt (M3927_.1 124 35) = Int32.toInt ((Mz3143_.1 124 35) + 0) := congrArg Int32.toInt (pvu_s e3928_); omega
              exact ihz3143_ (i3z3143_ + 1) M3927_ o3929_ f3930_ (zr_wide b3931_ (by decide) (by decide)) j3934_ (by have y01 : Int32.toInt (M3927_.1 124 35) = Int32.toInt ((Mz3143_.1 124 35) + 0) := congrArg Int32.toInt (pvu_s e3928_); omega)
      have u3935_ : Int32.toInt 0 = 0 := by decide
      have j3936_ : Int32.toInt (M20_.1 124 35) ≤ Int32.toInt 0 := by have y01 : Int32.toInt (M20_.1 124 35) = Int32.toInt 0 := congrArg Int32.toInt (pvu_s e21_); have y03 : Int32.toInt 0 = 0 := (by decide); omega
      exact hlz3143_ _ 0 M20_ o22_ f23_ (zr_wide (show 0 ≤ Int32.toInt 0 ∧ Int32.toInt 0 ≤ 0 from (by decide)) (by decide) (by decide)) j3936_ (Nat.lt_succ_self _)
