set_option maxHeartbeats 4000000 in
set_option maxRecDepth 10000 in
theorem sf_X10_isOpenAt_124_x_x (M : pvM) (hok : pvOk M) (n1 : Int32) (n2 : Int32) (hn1 : 0 ≤ Int32.toInt n1 ∧ Int32.toInt n1 ≤ 6) (d : Nat) : PW 39 d (0, [some (pvR 124), some (pvI n1), some (pvI n2)], [], M) (fun r X => r = some (pvI ((if (M.1 143 (Int32.toNatClampNeg n1)) ≤ n2 then 0 else 1))) ∧ X = M) := by
  have hT : pvdom 39 = pvD_39 := rfl
  have b1_ : (-1) ≤ Int32.toInt (M.1 143 (Int32.toNatClampNeg n1)) ∧ Int32.toInt (M.1 143 (Int32.toNatClampNeg n1)) ≤ 99999 := pvok_r hok 143 (Int32.toNatClampNeg n1) rfl
  refine pw_blk hT 5 (S' := (7, [some (pvR 124), some (pvI n1), some (pvI n2)], [pvI (M.1 143 (Int32.toNatClampNeg n1)), pvI n2], M)) rfl ⟨trivial, trivial, rfl, trivial, ⟨rfl, (zr_in (n := 7) hn1 (by decide) (by decide))⟩, trivial⟩ ?_
  refine pw_ic hT (c := (M.1 143 (Int32.toNatClampNeg n1)) ≤ n2) rfl rfl (fun c2_ => ?_) (fun c2_ => ?_)
  · have b3_ : (-1) ≤ Int32.toInt n2 ∧ Int32.toInt n2 ≤ 2147483647 := zr_le_r (-1) c2_ (zbnd n2) b1_ (by decide)
    have d4_ : Int32.toInt (M.1 143 (Int32.toNatClampNeg n1)) ≤ Int32.toInt n2 := (zi_le _ _).mp c2_
    refine pw_blk hT 1 (S' := (15, [some (pvR 124), some (pvI n1), some (pvI n2)], [pvI 0], M)) rfl ⟨trivial, trivial⟩ ?_
    exact pw_ret hT rfl (r := some (pvI 0)) (M' := M) ⟨Or.inl rfl, rfl, rfl⟩ ⟨(by rw [if_pos c2_]), rfl⟩
  · have b5_ : (-2147483648) ≤ Int32.toInt n2 ∧ Int32.toInt n2 ≤ 99998 := zr_nle_r 99998 c2_ (zbnd n2) b1_ (by decide)
    have d6_ : Int32.toInt (M.1 143 (Int32.toNatClampNeg n1)) > Int32.toInt n2 := Int.not_le.mp ((not_congr (zi_le _ _)).mp c2_)
    refine pw_blk hT 2 (S' := (15, [some (pvR 124), some (pvI n1), some (pvI n2)], [pvI 1], M)) rfl ⟨trivial, trivial, trivial⟩ ?_
    exact pw_ret hT rfl (r := some (pvI 1)) (M' := M) ⟨Or.inr rfl, rfl, rfl⟩ ⟨(by rw [if_neg c2_]), rfl⟩
set_option maxHeartbeats 4000000 in
set_option maxRecDepth 10000 in
theorem sf_X10_hasOther_124_x_x (M : pvM) (hok : pvOk M) (n1 : Int32) (n2 : Int32) (hn1 : 0 ≤ Int32.toInt n1 ∧ Int32.toInt n1 ≤ 6) (d : Nat) : PW 32 d (0, [some (pvR 124), some (pvI n1), some (pvI n2), none], [], M) (fun r X => (∃ x : Int32, r = some (pvI x) ∧ 0 ≤ Int32.toInt x ∧ Int32.toInt x ≤ 1) ∧ X = M) := by
  have hT : pvdom 32 = pvD_32 := rfl
  refine pw_blk hT 2 (S' := (2, [some (pvR 124), some (pvI n1), some (pvI n2), some (pvI 0)], [], M)) rfl ⟨trivial, trivial, trivial⟩ ?_
  have hlz96_ : ∀ (nz96_ : Nat) (i3z96_ : Int32), (0 ≤ Int32.toInt i3z96_ ∧ Int32.toInt i3z96_ ≤ 7) → (zhide ((8 - Int32.toInt i3z96_).toNat < nz96_)) → PW 32 d (2, [some (pvR 124), some (pvI n1), some (pvI n2), some (pvI i3z96_)], [], M) (fun r X => (∃ x : Int32, r = some (pvI x) ∧ 0 ≤ Int32.toInt x ∧ Int32.toInt x ≤ 1) ∧ X = M) := by
    intro nz96_
    induction nz96_ with
    | zero => intro i3z96_ h3z96_ hmz96_; exact absurd (zshow hmz96_) (Nat.not_lt_zero _)
    | succ nz96_ ihz96_ =>
      intro i3z96_ h3z96_ hmz96_
      have b97_ : 0 ≤ Int32.toInt (M.1 124 0) ∧ Int32.toInt (M.1 124 0) ≤ 7 := pvok_r hok 124 0 rfl
      refine pw_blk hT 3 (S' := (7, [some (pvR 124), some (pvI n1), some (pvI n2), some (pvI i3z96_)], [pvI (M.1 124 0), pvI i3z96_], M)) rfl ⟨trivial, trivial, rfl, trivial⟩ ?_
      refine pw_ic hT (c := (M.1 124 0) ≤ i3z96_) rfl rfl (fun c98_ => ?_) (fun c98_ => ?_)
      · have d99_ : Int32.toInt (M.1 124 0) ≤ Int32.toInt i3z96_ := (zi_le _ _).mp c98_
        refine pw_blk hT 1 (S' := (43, [some (pvR 124), some (pvI n1), some (pvI n2), some (pvI i3z96_)], [pvI 0], M)) rfl ⟨trivial, trivial⟩ ?_
        exact pw_ret hT rfl (r := some (pvI 0)) (M' := M) ⟨Or.inl rfl, rfl, rfl⟩ ⟨⟨_, rfl, (zr_wide (show 0 ≤ Int32.toInt 0 ∧ Int32.toInt 0 ≤ 0 from (by decide)) (by decide) (by decide))⟩, rfl⟩
      · have b100_ : 1 ≤ Int32.toInt (M.1 124 0) ∧ Int32.toInt (M.1 124 0) ≤ 7 := zr_nle_l 1 c98_ b97_ h3z96_ (by decide)
        have b101_ : 0 ≤ Int32.toInt i3z96_ ∧ Int32.toInt i3z96_ ≤ 6 := zr_nle_r 6 c98_ h3z96_ b100_ (by decide)
        have d102_ : Int32.toInt (M.1 124 0) > Int32.toInt i3z96_ := Int.not_le.mp ((not_congr (zi_le _ _)).mp c98_)
        refine pw_blk hT 2 (S' := (12, [some (pvR 124), some (pvI n1), some (pvI n2), some (pvI i3z96_)], [pvI n1, pvI i3z96_], M)) rfl ⟨trivial, trivial, trivial⟩ ?_
        refine pw_ic hT (c := i3z96_ = n1) rfl rfl (fun c103_ => ?_) (fun c103_ => ?_)
        · have d104_ : Int32.toInt i3z96_ = Int32.toInt n1 := (zi_eq _ _).mp c103_
          obtain ⟨q106_, b105_⟩ : (Int32.toInt (i3z96_ + 1) = Int32.toInt i3z96_ + 1) ∧ (1 ≤ Int32.toInt (i3z96_ + 1) ∧ Int32.toInt (i3z96_ + 1) ≤ 7) := zadd_k i3z96_ 1 1 1 7 b101_ (by decide) (by decide) (by decide) (by decide) (by decide)
          refine pw_blk hT 2 (S' := (2, [some (pvR 124), some (pvI n1), some (pvI n2), some (pvI (i3z96_ + 1))], [], M)) rfl ⟨trivial, trivial, trivial⟩ ?_
          exact ihz96_ (i3z96_ + 1) (zr_wide b105_ (by decide) (by decide)) (zhid (pvms_up (zshow hmz96_) h3z96_ q106_ (by decide) (by decide)))
        · have b107_ : 0 ≤ Int32.toInt (M.1 125 (Int32.toNatClampNeg i3z96_)) ∧ Int32.toInt (M.1 125 (Int32.toNatClampNeg i3z96_)) ≤ 6 := pvok_r hok 125 (Int32.toNatClampNeg i3z96_) rfl
          refine pw_blk hT 5 (S' := (22, [some (pvR 124), some (pvI n1), some (pvI n2), some (pvI i3z96_)], [pvI 4, pvI (M.1 125 (Int32.toNatClampNeg i3z96_))], M)) rfl ⟨trivial, rfl, trivial, ⟨rfl, (zr_in (n := 7) b101_ (by decide) (by decide))⟩, trivial, trivial⟩ ?_
          refine pw_icn hT (c := (M.1 125 (Int32.toNatClampNeg i3z96_)) = 4) rfl rfl (fun c108_ => ?_) (fun c108_ => ?_)
          · obtain ⟨q110_, b109_⟩ : (Int32.toInt (i3z96_ + 1) = Int32.toInt i3z96_ + 1) ∧ (1 ≤ Int32.toInt (i3z96_ + 1) ∧ Int32.toInt (i3z96_ + 1) ≤ 7) := zadd_k i3z96_ 1 1 1 7 b101_ (by decide) (by decide) (by decide) (by decide) (by decide)
            refine pw_blk hT 2 (S' := (2, [some (pvR 124), some (pvI n1), some (pvI n2), some (pvI (i3z96_ + 1))], [], M)) rfl ⟨trivial, trivial, trivial⟩ ?_
            exact ihz96_ (i3z96_ + 1) (zr_wide b109_ (by decide) (by decide)) (zhid (pvms_up (zshow hmz96_) h3z96_ q110_ (by decide) (by decide)))
          · have b111_ : 4 ≤ Int32.toInt (M.1 125 (Int32.toNatClampNeg i3z96_)) ∧ Int32.toInt (M.1 125 (Int32.toNatClampNeg i3z96_)) ≤ 4 := (by have u0 := b107_; have u1 := (zi_eq _ _).mp c108_; have u2 := (show 4 ≤ Int32.toInt 4 ∧ Int32.toInt 4 ≤ 4 from (by decide)); omega)
            refine pw_blk hT 3 (S' := (28, [some (pvR 124), some (pvI n1), some (pvI n2), some (pvI i3z96_)], [pvI n2, pvI i3z96_, pvR 124], M)) rfl ⟨trivial, trivial, trivial, trivial⟩ ?_
            refine pw_callT hT (as := [pvR 124, pvI i3z96_, pvI n2]) (lo1 := [some (pvR 124), some (pvI i3z96_), some (pvI n2)]) (d1 := d) (rest := []) rfl rfl rfl rfl rfl (fun _ => rfl) (Nat.zero_le _) rfl rfl rfl (sf_X10_isOpenAt_124_x_x M hok i3z96_ n2 b101_ d) ?_
            have b117_ : (-1) ≤ Int32.toInt (M.1 143 (Int32.toNatClampNeg i3z96_)) ∧ Int32.toInt (M.1 143 (Int32.toNatClampNeg i3z96_)) ≤ 99999 := pvok_r hok 143 (Int32.toNatClampNeg i3z96_) rfl
            by_cases c118_ : (M.1 143 (Int32.toNatClampNeg i3z96_)) ≤ n2
            · refine pw_eqI (if_pos c118_) ?_
              have b119_ : (-1) ≤ Int32.toInt n2 ∧ Int32.toInt n2 ≤ 2147483647 := zr_le_r (-1) c118_ (zbnd n2) b117_ (by decide)
              have d120_ : Int32.toInt (M.1 143 (Int32.toNatClampNeg i3z96_)) ≤ Int32.toInt n2 := (zi_le _ _).mp c118_
              show PW 32 d (31, [some (pvR 124), some (pvI n1), some (pvI n2), some (pvI i3z96_)], [pvI 0], M) _
              refine pw_if hT (c := 0 = 0) rfl rfl (fun c121_ => ?_) (fun c121_ => absurd (by decide) c121_)
              obtain ⟨q123_, b122_⟩ : (Int32.toInt (i3z96_ + 1) = Int32.toInt i3z96_ + 1) ∧ (1 ≤ Int32.toInt (i3z96_ + 1) ∧ Int32.toInt (i3z96_ + 1) ≤ 7) := zadd_k i3z96_ 1 1 1 7 b101_ (by decide) (by decide) (by decide) (by decide) (by decide)
              refine pw_blk hT 2 (S' := (2, [some (pvR 124), some (pvI n1), some (pvI n2), some (pvI (i3z96_ + 1))], [], M)) rfl ⟨trivial, trivial, trivial⟩ ?_
              exact ihz96_ (i3z96_ + 1) (zr_wide b122_ (by decide) (by decide)) (zhid (pvms_up (zshow hmz96_) h3z96_ q123_ (by decide) (by decide)))
            · refine pw_eqI (if_neg c118_) ?_
              have b124_ : (-2147483648) ≤ Int32.toInt n2 ∧ Int32.toInt n2 ≤ 99998 := zr_nle_r 99998 c118_ (zbnd n2) b117_ (by decide)
              have d125_ : Int32.toInt (M.1 143 (Int32.toNatClampNeg i3z96_)) > Int32.toInt n2 := Int.not_le.mp ((not_congr (zi_le _ _)).mp c118_)
              show PW 32 d (31, [some (pvR 124), some (pvI n1), some (pvI n2), some (pvI i3z96_)], [pvI 1], M) _
              refine pw_if hT (c := 1 = 0) rfl rfl (fun c126_ => absurd c126_ (by decide)) (fun c126_ => ?_)
              refine pw_blk hT 1 (S' := (35, [some (pvR 124), some (pvI n1), some (pvI n2), some (pvI i3z96_)], [pvI 1], M)) rfl ⟨trivial, trivial⟩ ?_
              exact pw_ret hT rfl (r := some (pvI 1)) (M' := M) ⟨Or.inr rfl, rfl, rfl⟩ ⟨⟨_, rfl, (zr_wide (show 1 ≤ Int32.toInt 1 ∧ Int32.toInt 1 ≤ 1 from (by decide)) (by decide) (by decide))⟩, rfl⟩
  exact hlz96_ _ 0 (zr_wide (show 0 ≤ Int32.toInt 0 ∧ Int32.toInt 0 ≤ 0 from (by decide)) (by decide) (by decide)) (zhid (Nat.lt_succ_self _))
set_option maxHeartbeats 4000000 in
set_option maxRecDepth 10000 in
theorem sf_X10_harm_124_x_x (M : pvM) (hok : pvOk M) (n1 : Int32) (n2 : Int32) (hn1 : 0 ≤ Int32.toInt n1 ∧ Int32.toInt n1 ≤ 6) (hn2 : 0 ≤ Int32.toInt n2 ∧ Int32.toInt n2 ≤ 200000) (d : Nat) : PW 26 d (0, [some (pvR 124), some (pvI n1), some (pvI n2), none, none], [], M) (fun r X => (∃ x : Int32, r = some (pvI x) ∧ 0 ≤ Int32.toInt x ∧ Int32.toInt x ≤ 12009) ∧ X = M) := by
  have hT : pvdom 26 = pvD_26 := rfl
  have b1_ : 0 ≤ Int32.toInt (M.1 124 3) ∧ Int32.toInt (M.1 124 3) ≤ 108 := pvok_r hok 124 3 rfl
  obtain ⟨q3_, b2_⟩ : (Int32.toInt (n2 - (M.1 124 3)) = Int32.toInt n2 - Int32.toInt (M.1 124 3)) ∧ ((-108) ≤ Int32.toInt (n2 - (M.1 124 3)) ∧ Int32.toInt (n2 - (M.1 124 3)) ≤ 200000) := zsub_r n2 (M.1 124 3) (-108) 200000 hn2 b1_ (by decide) (by decide) (by decide) (by decide)
  refine pw_blk hT 6 (S' := (8, [some (pvR 124), some (pvI n1), some (pvI n2), some (pvI (n2 - (M.1 124 3))), none], [pvI (n2 - (M.1 124 3))], M)) rfl ⟨trivial, trivial, rfl, trivial, trivial, trivial, trivial⟩ ?_
  refine pw_if hT (c := (n2 - (M.1 124 3)) < 0) rfl rfl (fun c4_ => ?_) (fun c4_ => ?_)
  · have b5_ : (-108) ≤ Int32.toInt (n2 - (M.1 124 3)) ∧ Int32.toInt (n2 - (M.1 124 3)) ≤ (-1) := zr_lt_l (-1) c4_ b2_ (show 0 ≤ Int32.toInt 0 ∧ Int32.toInt 0 ≤ 0 from (by decide)) (by decide)
    refine pw_blk hT 1 (S' := (29, [some (pvR 124), some (pvI n1), some (pvI n2), some (pvI (n2 - (M.1 124 3))), none], [pvI 0], M)) rfl ⟨trivial, trivial⟩ ?_
    exact pw_ret hT rfl (r := some (pvI 0)) (M' := M) ⟨rfl, rfl⟩ ⟨⟨_, rfl, (zr_wide (show 0 ≤ Int32.toInt 0 ∧ Int32.toInt 0 ≤ 0 from (by decide)) (by decide) (by decide))⟩, rfl⟩
  · have b6_ : 0 ≤ Int32.toInt (n2 - (M.1 124 3)) ∧ Int32.toInt (n2 - (M.1 124 3)) ≤ 200000 := zr_nlt_l 0 c4_ b2_ (show 0 ≤ Int32.toInt 0 ∧ Int32.toInt 0 ≤ 0 from (by decide)) (by decide)
    refine pw_blk hT 2 (S' := (13, [some (pvR 124), some (pvI n1), some (pvI n2), some (pvI (n2 - (M.1 124 3))), none], [pvR 124, pvI (n2 - (M.1 124 3))], M)) rfl ⟨trivial, trivial, trivial⟩ ?_
    refine pw_callGp hT (as := [pvR 124]) (lo1 := [some (pvR 124)]) (d1 := d) (rest := [pvI (n2 - (M.1 124 3))]) rfl rfl rfl rfl rfl (fun _ => rfl) (Nat.zero_le _) rfl rfl rfl (sf_X10_lastNow_124 M hok d) (fun x7_ b9_ => ?_)
    refine pw_ic hT (c := x7_ ≤ (n2 - (M.1 124 3))) rfl rfl (fun c12_ => ?_) (fun c12_ => ?_)
    · have d13_ : Int32.toInt x7_ ≤ Int32.toInt (n2 - (M.1 124 3)) := (zi_le _ _).mp c12_
      refine pw_blk hT 1 (S' := (29, [some (pvR 124), some (pvI n1), some (pvI n2), some (pvI (n2 - (M.1 124 3))), none], [pvI 0], M)) rfl ⟨trivial, trivial⟩ ?_
      exact pw_ret hT rfl (r := some (pvI 0)) (M' := M) ⟨rfl, rfl⟩ ⟨⟨_, rfl, (zr_wide (show 0 ≤ Int32.toInt 0 ∧ Int32.toInt 0 ≤ 0 from (by decide)) (by decide) (by decide))⟩, rfl⟩
    · have b14_ : 1 ≤ Int32.toInt x7_ ∧ Int32.toInt x7_ ≤ 99 := zr_nle_l 1 c12_ b9_ b6_ (by decide)
      have b15_ : 0 ≤ Int32.toInt (n2 - (M.1 124 3)) ∧ Int32.toInt (n2 - (M.1 124 3)) ≤ 98 := zr_nle_r 98 c12_ b6_ b14_ (by decide)
      have d16_ : Int32.toInt x7_ > Int32.toInt (n2 - (M.1 124 3)) := Int.not_le.mp ((not_congr (zi_le _ _)).mp c12_)
      refine pw_blk hT 3 (S' := (22, [some (pvR 124), some (pvI n1), some (pvI n2), some (pvI (n2 - (M.1 124 3))), none], [pvI n2, pvI n1, pvR 124], M)) rfl ⟨trivial, trivial, trivial, trivial⟩ ?_
      refine pw_callT hT (as := [pvR 124, pvI n1, pvI n2]) (lo1 := [some (pvR 124), some (pvI n1), some (pvI n2)]) (d1 := d) (rest := []) rfl rfl rfl rfl rfl (fun _ => rfl) (Nat.zero_le _) rfl rfl rfl (sf_X10_isOpenAt_124_x_x M hok n1 n2 hn1 d) ?_
      have b22_ : (-1) ≤ Int32.toInt (M.1 143 (Int32.toNatClampNeg n1)) ∧ Int32.toInt (M.1 143 (Int32.toNatClampNeg n1)) ≤ 99999 := pvok_r hok 143 (Int32.toNatClampNeg n1) rfl
      by_cases c23_ : (M.1 143 (Int32.toNatClampNeg n1)) ≤ n2
      · refine pw_eqI (if_pos c23_) ?_
        have d24_ : Int32.toInt (M.1 143 (Int32.toNatClampNeg n1)) ≤ Int32.toInt n2 := (zi_le _ _).mp c23_
        show PW 26 d (25, [some (pvR 124), some (pvI n1), some (pvI n2), some (pvI (n2 - (M.1 124 3))), none], [pvI 0], M) _
        refine pw_ifn hT (c := 0 = 0) rfl rfl (fun c25_ => absurd (by decide) c25_) (fun c25_ => ?_)
        refine pw_blk hT 1 (S' := (29, [some (pvR 124), some (pvI n1), some (pvI n2), some (pvI (n2 - (M.1 124 3))), none], [pvI 0], M)) rfl ⟨trivial, trivial⟩ ?_
        exact pw_ret hT rfl (r := some (pvI 0)) (M' := M) ⟨rfl, rfl⟩ ⟨⟨_, rfl, (zr_wide (show 0 ≤ Int32.toInt 0 ∧ Int32.toInt 0 ≤ 0 from (by decide)) (by decide) (by decide))⟩, rfl⟩
      · refine pw_eqI (if_neg c23_) ?_
        have b26_ : 1 ≤ Int32.toInt (M.1 143 (Int32.toNatClampNeg n1)) ∧ Int32.toInt (M.1 143 (Int32.toNatClampNeg n1)) ≤ 99999 := zr_nle_l 1 c23_ b22_ hn2 (by decide)
        have b27_ : 0 ≤ Int32.toInt n2 ∧ Int32.toInt n2 ≤ 99998 := zr_nle_r 99998 c23_ hn2 b26_ (by decide)
        have d28_ : Int32.toInt (M.1 143 (Int32.toNatClampNeg n1)) > Int32.toInt n2 := Int.not_le.mp ((not_congr (zi_le _ _)).mp c23_)
        show PW 26 d (25, [some (pvR 124), some (pvI n1), some (pvI n2), some (pvI (n2 - (M.1 124 3))), none], [pvI 1], M) _
        refine pw_ifn hT (c := 1 = 0) rfl rfl (fun c29_ => ?_) (fun c29_ => absurd c29_ (by decide))
        have q30_ : Int32.toInt (99 * n1) = 99 * Int32.toInt n1 := by have u0 : Int32.toInt 99 = 99 := (by decide); have u1 := hn1; have u2 := zmul 99 n1 (by rw [u0]; omega) (by rw [u0]; omega); rw [u0] at u2; omega
        have b31_ : 0 ≤ Int32.toInt (99 * n1) ∧ Int32.toInt (99 * n1) ≤ 594 := (by have u1 := hn1; omega)
        obtain ⟨q33_, b32_⟩ : (Int32.toInt ((99 * n1) + (n2 - (M.1 124 3))) = Int32.toInt (99 * n1) + Int32.toInt (n2 - (M.1 124 3))) ∧ (0 ≤ Int32.toInt ((99 * n1) + (n2 - (M.1 124 3))) ∧ Int32.toInt ((99 * n1) + (n2 - (M.1 124 3))) ≤ 692) := zadd_r (99 * n1) (n2 - (M.1 124 3)) 0 692 b31_ b15_ (by decide) (by decide) (by decide) (by decide)
        have b34_ : 0 ≤ Int32.toInt (M.1 142 (Int32.toNatClampNeg ((99 * n1) + (n2 - (M.1 124 3))))) ∧ Int32.toInt (M.1 142 (Int32.toNatClampNeg ((99 * n1) + (n2 - (M.1 124 3))))) ≤ 6000 := pvok_r hok 142 (Int32.toNatClampNeg ((99 * n1) + (n2 - (M.1 124 3)))) rfl
        have b35_ : 0 ≤ Int32.toInt (M.1 125 (Int32.toNatClampNeg n1)) ∧ Int32.toInt (M.1 125 (Int32.toNatClampNeg n1)) ≤ 6 := pvok_r hok 125 (Int32.toNatClampNeg n1) rfl
        refine pw_blk hT 13 (S' := (49, [some (pvR 124), some (pvI n1), some (pvI n2), some (pvI (n2 - (M.1 124 3))), some (pvI (M.1 142 (Int32.toNatClampNeg ((99 * n1) + (n2 - (M.1 124 3))))))], [pvI (M.1 125 (Int32.toNatClampNeg n1))], M)) rfl ⟨trivial, rfl, trivial, trivial, trivial, trivial, trivial, ⟨rfl, (zr_in (n := 693) b32_ (by decide) (by decide))⟩, trivial, trivial, rfl, trivial, ⟨rfl, (zr_in (n := 7) hn1 (by decide) (by decide))⟩, trivial⟩ ?_
        refine pw_sw hT rfl rfl ?_
        refine And.intro (fun c36_ => ?_) (fun c36_ => ?_)
        · show PW 26 d (84, [some (pvR 124), some (pvI n1), some (pvI n2), some (pvI (n2 - (M.1 124 3))), some (pvI (M.1 142 (Int32.toNatClampNeg ((99 * n1) + (n2 - (M.1 124 3))))))], [], M) _
          have b37_ : 2 ≤ Int32.toInt (M.1 125 (Int32.toNatClampNeg n1)) ∧ Int32.toInt (M.1 125 (Int32.toNatClampNeg n1)) ≤ 2 := (by have u0 := b35_; have u1 := (zi_eq _ _).mp c36_; have u2 := (show 2 ≤ Int32.toInt 2 ∧ Int32.toInt 2 ≤ 2 from (by decide)); omega)
          have q38_ : Int32.toInt ((M.1 142 (Int32.toNatClampNeg ((99 * n1) + (n2 - (M.1 124 3))))) / 2) = Int32.toInt (M.1 142 (Int32.toNatClampNeg ((99 * n1) + (n2 - (M.1 124 3))))) / 2 := by have u0 := b34_; have u := zdiv_p (M.1 142 (Int32.toNatClampNeg ((99 * n1) + (n2 - (M.1 124 3))))) 2 (by omega) (by decide) (by decide); have e0 : nI 2 = (2 : Int32) := rfl; rw [e0] at u; omega
          have b39_ : 0 ≤ Int32.toInt ((M.1 142 (Int32.toNatClampNeg ((99 * n1) + (n2 - (M.1 124 3))))) / 2) ∧ Int32.toInt ((M.1 142 (Int32.toNatClampNeg ((99 * n1) + (n2 - (M.1 124 3))))) / 2) ≤ 3000 := (by have u0 := b34_; omega)
          refine pw_blk hT 3 (S' := (88, [some (pvR 124), some (pvI n1), some (pvI n2), some (pvI (n2 - (M.1 124 3))), some (pvI (M.1 142 (Int32.toNatClampNeg ((99 * n1) + (n2 - (M.1 124 3))))))], [pvI ((M.1 142 (Int32.toNatClampNeg ((99 * n1) + (n2 - (M.1 124 3))))) / 2)], M)) rfl ⟨trivial, trivial, (by decide), trivial⟩ ?_
          exact pw_ret hT rfl (r := some (pvI ((M.1 142 (Int32.toNatClampNeg ((99 * n1) + (n2 - (M.1 124 3))))) / 2))) (M' := M) ⟨rfl, rfl⟩ ⟨⟨_, rfl, (zr_wide b39_ (by decide) (by decide))⟩, rfl⟩
        · refine And.intro (fun c40_ => ?_) (fun c40_ => ?_)
          · show PW 26 d (89, [some (pvR 124), some (pvI n1), some (pvI n2), some (pvI (n2 - (M.1 124 3))), some (pvI (M.1 142 (Int32.toNatClampNeg ((99 * n1) + (n2 - (M.1 124 3))))))], [], M) _
            have b41_ : 3 ≤ Int32.toInt (M.1 125 (Int32.toNatClampNeg n1)) ∧ Int32.toInt (M.1 125 (Int32.toNatClampNeg n1)) ≤ 3 := (by have u0 := b35_; have u1 := (zi_eq _ _).mp c40_; have u2 := (show 3 ≤ Int32.toInt 3 ∧ Int32.toInt 3 ≤ 3 from (by decide)); omega)
            have q42_ : Int32.toInt (2 * (M.1 142 (Int32.toNatClampNeg ((99 * n1) + (n2 - (M.1 124 3)))))) = 2 * Int32.toInt (M.1 142 (Int32.toNatClampNeg ((99 * n1) + (n2 - (M.1 124 3))))) := by have u0 : Int32.toInt 2 = 2 := (by decide); have u1 := b34_; have u2 := zmul 2 (M.1 142 (Int32.toNatClampNeg ((99 * n1) + (n2 - (M.1 124 3))))) (by rw [u0]; omega) (by rw [u0]; omega); rw [u0] at u2; omega
            have b43_ : 0 ≤ Int32.toInt (2 * (M.1 142 (Int32.toNatClampNeg ((99 * n1) + (n2 - (M.1 124 3)))))) ∧ Int32.toInt (2 * (M.1 142 (Int32.toNatClampNeg ((99 * n1) + (n2 - (M.1 124 3)))))) ≤ 12000 := (by have u1 := b34_; omega)
            refine pw_blk hT 3 (S' := (93, [some (pvR 124), some (pvI n1), some (pvI n2), some (pvI (n2 - (M.1 124 3))), some (pvI (M.1 142 (Int32.toNatClampNeg ((99 * n1) + (n2 - (M.1 124 3))))))], [pvI (2 * (M.1 142 (Int32.toNatClampNeg ((99 * n1) + (n2 - (M.1 124 3))))))], M)) rfl ⟨trivial, trivial, trivial, trivial⟩ ?_
            exact pw_ret hT rfl (r := some (pvI (2 * (M.1 142 (Int32.toNatClampNeg ((99 * n1) + (n2 - (M.1 124 3)))))))) (M' := M) ⟨rfl, rfl⟩ ⟨⟨_, rfl, (zr_wide b43_ (by decide) (by decide))⟩, rfl⟩
          · refine And.intro (fun c44_ => ?_) (fun c44_ => ?_)
            · show PW 26 d (94, [some (pvR 124), some (pvI n1), some (pvI n2), some (pvI (n2 - (M.1 124 3))), some (pvI (M.1 142 (Int32.toNatClampNeg ((99 * n1) + (n2 - (M.1 124 3))))))], [], M) _
              have b45_ : 4 ≤ Int32.toInt (M.1 125 (Int32.toNatClampNeg n1)) ∧ Int32.toInt (M.1 125 (Int32.toNatClampNeg n1)) ≤ 4 := (by have u0 := b35_; have u1 := (zi_eq _ _).mp c44_; have u2 := (show 4 ≤ Int32.toInt 4 ∧ Int32.toInt 4 ≤ 4 from (by decide)); omega)
              refine pw_blk hT 3 (S' := (97, [some (pvR 124), some (pvI n1), some (pvI n2), some (pvI (n2 - (M.1 124 3))), some (pvI (M.1 142 (Int32.toNatClampNeg ((99 * n1) + (n2 - (M.1 124 3))))))], [pvI n2, pvI n1, pvR 124], M)) rfl ⟨trivial, trivial, trivial, trivial⟩ ?_
              refine pw_callGp hT (as := [pvR 124, pvI n1, pvI n2]) (lo1 := [some (pvR 124), some (pvI n1), some (pvI n2), none]) (d1 := d) (rest := []) rfl rfl rfl rfl rfl (fun _ => rfl) (Nat.zero_le _) rfl rfl rfl (sf_X10_hasOther_124_x_x M hok n1 n2 hn1 d) (fun x46_ b48_ => ?_)
              refine pw_if hT (c := x46_ = 0) rfl rfl (fun c51_ => ?_) (fun c51_ => ?_)
              · have b52_ : 0 ≤ Int32.toInt x46_ ∧ Int32.toInt x46_ ≤ 0 := (by have u0 := b48_; have u1 := (zi_eq _ _).mp c51_; have u2 := (show 0 ≤ Int32.toInt 0 ∧ Int32.toInt 0 ≤ 0 from (by decide)); omega)
                refine pw_blk hT 1 (S' := (117, [some (pvR 124), some (pvI n1), some (pvI n2), some (pvI (n2 - (M.1 124 3))), some (pvI (M.1 142 (Int32.toNatClampNeg ((99 * n1) + (n2 - (M.1 124 3))))))], [pvI (M.1 142 (Int32.toNatClampNeg ((99 * n1) + (n2 - (M.1 124 3)))))], M)) rfl ⟨trivial, trivial⟩ ?_
                exact pw_ret hT rfl (r := some (pvI (M.1 142 (Int32.toNatClampNeg ((99 * n1) + (n2 - (M.1 124 3))))))) (M' := M) ⟨rfl, rfl⟩ ⟨⟨_, rfl, (zr_wide b34_ (by decide) (by decide))⟩, rfl⟩
              · have b53_ : 1 ≤ Int32.toInt x46_ ∧ Int32.toInt x46_ ≤ 1 := (by have u0 := b48_; have u1 := (not_congr (zi_eq _ _)).mp c51_; have u2 := (show 0 ≤ Int32.toInt 0 ∧ Int32.toInt 0 ≤ 0 from (by decide)); omega)
                have b54_ : 0 ≤ Int32.toInt (M.1 126 (Int32.toNatClampNeg n1)) ∧ Int32.toInt (M.1 126 (Int32.toNatClampNeg n1)) ≤ 9 := pvok_r hok 126 (Int32.toNatClampNeg n1) rfl
                obtain ⟨q56_, b55_⟩ : (Int32.toInt ((M.1 142 (Int32.toNatClampNeg ((99 * n1) + (n2 - (M.1 124 3))))) + (M.1 126 (Int32.toNatClampNeg n1))) = Int32.toInt (M.1 142 (Int32.toNatClampNeg ((99 * n1) + (n2 - (M.1 124 3))))) + Int32.toInt (M.1 126 (Int32.toNatClampNeg n1))) ∧ (0 ≤ Int32.toInt ((M.1 142 (Int32.toNatClampNeg ((99 * n1) + (n2 - (M.1 124 3))))) + (M.1 126 (Int32.toNatClampNeg n1))) ∧ Int32.toInt ((M.1 142 (Int32.toNatClampNeg ((99 * n1) + (n2 - (M.1 124 3))))) + (M.1 126 (Int32.toNatClampNeg n1))) ≤ 6009) := zadd_r (M.1 142 (Int32.toNatClampNeg ((99 * n1) + (n2 - (M.1 124 3))))) (M.1 126 (Int32.toNatClampNeg n1)) 0 6009 b34_ b54_ (by decide) (by decide) (by decide) (by decide)
                refine pw_blk hT 7 (S' := (117, [some (pvR 124), some (pvI n1), some (pvI n2), some (pvI (n2 - (M.1 124 3))), some (pvI (M.1 142 (Int32.toNatClampNeg ((99 * n1) + (n2 - (M.1 124 3))))))], [pvI ((M.1 142 (Int32.toNatClampNeg ((99 * n1) + (n2 - (M.1 124 3))))) + (M.1 126 (Int32.toNatClampNeg n1)))], M)) rfl ⟨trivial, trivial, rfl, trivial, ⟨rfl, (zr_in (n := 7) hn1 (by decide) (by decide))⟩, trivial, trivial, trivial⟩ ?_
                exact pw_ret hT rfl (r := some (pvI ((M.1 142 (Int32.toNatClampNeg ((99 * n1) + (n2 - (M.1 124 3))))) + (M.1 126 (Int32.toNatClampNeg n1))))) (M' := M) ⟨rfl, rfl⟩ ⟨⟨_, rfl, (zr_wide b55_ (by decide) (by decide))⟩, rfl⟩
            · refine And.intro (fun c57_ => ?_) (fun c57_ => ?_)
              · show PW 26 d (118, [some (pvR 124), some (pvI n1), some (pvI n2), some (pvI (n2 - (M.1 124 3))), some (pvI (M.1 142 (Int32.toNatClampNeg ((99 * n1) + (n2 - (M.1 124 3))))))], [], M) _
                have b58_ : 5 ≤ Int32.toInt (M.1 125 (Int32.toNatClampNeg n1)) ∧ Int32.toInt (M.1 125 (Int32.toNatClampNeg n1)) ≤ 5 := (by have u0 := b35_; have u1 := (zi_eq _ _).mp c57_; have u2 := (show 5 ≤ Int32.toInt 5 ∧ Int32.toInt 5 ≤ 5 from (by decide)); omega)
                have b59_ : 0 ≤ Int32.toInt (M.1 124 4) ∧ Int32.toInt (M.1 124 4) ≤ 4 := pvok_r hok 124 4 rfl
                have b60_ : 0 ≤ Int32.toInt (M.1 126 (Int32.toNatClampNeg n1)) ∧ Int32.toInt (M.1 126 (Int32.toNatClampNeg n1)) ≤ 9 := pvok_r hok 126 (Int32.toNatClampNeg n1) rfl
                have b61_ : 0 ≤ Int32.toInt ((M.1 126 (Int32.toNatClampNeg n1)) - (M.1 126 (Int32.toNatClampNeg n1)) / 4 * 4) ∧ Int32.toInt ((M.1 126 (Int32.toNatClampNeg n1)) - (M.1 126 (Int32.toNatClampNeg n1)) / 4 * 4) ≤ 3 := (by have u0 := b60_; have u := zrem_p (M.1 126 (Int32.toNatClampNeg n1)) 4 (by omega) (by decide) (by decide); have e0 : nI 4 = (4 : Int32) := rfl; rw [e0] at u; omega)
                refine pw_blk hT 8 (S' := (130, [some (pvR 124), some (pvI n1), some (pvI n2), some (pvI (n2 - (M.1 124 3))), some (pvI (M.1 142 (Int32.toNatClampNeg ((99 * n1) + (n2 - (M.1 124 3))))))], [pvI ((M.1 126 (Int32.toNatClampNeg n1)) - (M.1 126 (Int32.toNatClampNeg n1)) / 4 * 4), pvI (M.1 124 4)], M)) rfl ⟨trivial, rfl, trivial, rfl, trivial, ⟨rfl, (zr_in (n := 7) hn1 (by decide) (by decide))⟩, trivial, (by decide), trivial⟩ ?_
                refine pw_icn hT (c := (M.1 124 4) = ((M.1 126 (Int32.toNatClampNeg n1)) - (M.1 126 (Int32.toNatClampNeg n1)) / 4 * 4)) rfl rfl (fun c62_ => ?_) (fun c62_ => ?_)
                · refine pw_blk hT 1 (S' := (141, [some (pvR 124), some (pvI n1), some (pvI n2), some (pvI (n2 - (M.1 124 3))), some (pvI (M.1 142 (Int32.toNatClampNeg ((99 * n1) + (n2 - (M.1 124 3))))))], [pvI 0], M)) rfl ⟨trivial, trivial⟩ ?_
                  exact pw_ret hT rfl (r := some (pvI 0)) (M' := M) ⟨rfl, rfl⟩ ⟨⟨_, rfl, (zr_wide (show 0 ≤ Int32.toInt 0 ∧ Int32.toInt 0 ≤ 0 from (by decide)) (by decide) (by decide))⟩, rfl⟩
                · have b63_ : 0 ≤ Int32.toInt (M.1 124 4) ∧ Int32.toInt (M.1 124 4) ≤ 3 := (by have u0 := b59_; have u1 := (zi_eq _ _).mp c62_; have u2 := b61_; omega)
                  have d64_ : Int32.toInt (M.1 124 4) = Int32.toInt ((M.1 126 (Int32.toNatClampNeg n1)) - (M.1 126 (Int32.toNatClampNeg n1)) / 4 * 4) := (zi_eq _ _).mp c62_
                  have q65_ : Int32.toInt ((M.1 142 (Int32.toNatClampNeg ((99 * n1) + (n2 - (M.1 124 3))))) / 2) = Int32.toInt (M.1 142 (Int32.toNatClampNeg ((99 * n1) + (n2 - (M.1 124 3))))) / 2 := by have u0 := b34_; have u := zdiv_p (M.1 142 (Int32.toNatClampNeg ((99 * n1) + (n2 - (M.1 124 3))))) 2 (by omega) (by decide) (by decide); have e0 : nI 2 = (2 : Int32) := rfl; rw [e0] at u; omega
                  have b66_ : 0 ≤ Int32.toInt ((M.1 142 (Int32.toNatClampNeg ((99 * n1) + (n2 - (M.1 124 3))))) / 2) ∧ Int32.toInt ((M.1 142 (Int32.toNatClampNeg ((99 * n1) + (n2 - (M.1 124 3))))) / 2) ≤ 3000 := (by have u0 := b34_; omega)
                  refine pw_blk hT 4 (S' := (141, [some (pvR 124), some (pvI n1), some (pvI n2), some (pvI (n2 - (M.1 124 3))), some (pvI (M.1 142 (Int32.toNatClampNeg ((99 * n1) + (n2 - (M.1 124 3))))))], [pvI ((M.1 142 (Int32.toNatClampNeg ((99 * n1) + (n2 - (M.1 124 3))))) / 2)], M)) rfl ⟨trivial, trivial, (by decide), trivial, trivial⟩ ?_
                  exact pw_ret hT rfl (r := some (pvI ((M.1 142 (Int32.toNatClampNeg ((99 * n1) + (n2 - (M.1 124 3))))) / 2))) (M' := M) ⟨rfl, rfl⟩ ⟨⟨_, rfl, (zr_wide b66_ (by decide) (by decide))⟩, rfl⟩
              · refine And.intro (fun c67_ => ?_) (fun c67_ => ?_)
                · show PW 26 d (142, [some (pvR 124), some (pvI n1), some (pvI n2), some (pvI (n2 - (M.1 124 3))), some (pvI (M.1 142 (Int32.toNatClampNeg ((99 * n1) + (n2 - (M.1 124 3))))))], [], M) _
                  have b68_ : 6 ≤ Int32.toInt (M.1 125 (Int32.toNatClampNeg n1)) ∧ Int32.toInt (M.1 125 (Int32.toNatClampNeg n1)) ≤ 6 := (by have u0 := b35_; have u1 := (zi_eq _ _).mp c67_; have u2 := (show 6 ≤ Int32.toInt 6 ∧ Int32.toInt 6 ≤ 6 from (by decide)); omega)
                  have q69_ : Int32.toInt (2 * (M.1 142 (Int32.toNatClampNeg ((99 * n1) + (n2 - (M.1 124 3)))))) = 2 * Int32.toInt (M.1 142 (Int32.toNatClampNeg ((99 * n1) + (n2 - (M.1 124 3))))) := by have u0 : Int32.toInt 2 = 2 := (by decide); have u1 := b34_; have u2 := zmul 2 (M.1 142 (Int32.toNatClampNeg ((99 * n1) + (n2 - (M.1 124 3))))) (by rw [u0]; omega) (by rw [u0]; omega); rw [u0] at u2; omega
                  have b70_ : 0 ≤ Int32.toInt (2 * (M.1 142 (Int32.toNatClampNeg ((99 * n1) + (n2 - (M.1 124 3)))))) ∧ Int32.toInt (2 * (M.1 142 (Int32.toNatClampNeg ((99 * n1) + (n2 - (M.1 124 3)))))) ≤ 12000 := (by have u1 := b34_; omega)
                  have q71_ : Int32.toInt (4 * n1) = 4 * Int32.toInt n1 := by have u0 : Int32.toInt 4 = 4 := (by decide); have u1 := hn1; have u2 := zmul 4 n1 (by rw [u0]; omega) (by rw [u0]; omega); rw [u0] at u2; omega
                  have b72_ : 0 ≤ Int32.toInt (4 * n1) ∧ Int32.toInt (4 * n1) ≤ 24 := (by have u1 := hn1; omega)
                  have b73_ : 0 ≤ Int32.toInt (n2 - n2 / 4 * 4) ∧ Int32.toInt (n2 - n2 / 4 * 4) ≤ 3 := (by have u0 := b27_; have u := zrem_p n2 4 (by omega) (by decide) (by decide); have e0 : nI 4 = (4 : Int32) := rfl; rw [e0] at u; omega)
                  obtain ⟨q75_, b74_⟩ : (Int32.toInt ((4 * n1) + (n2 - n2 / 4 * 4)) = Int32.toInt (4 * n1) + Int32.toInt (n2 - n2 / 4 * 4)) ∧ (0 ≤ Int32.toInt ((4 * n1) + (n2 - n2 / 4 * 4)) ∧ Int32.toInt ((4 * n1) + (n2 - n2 / 4 * 4)) ≤ 27) := zadd_r (4 * n1) (n2 - n2 / 4 * 4) 0 27 b72_ b73_ (by decide) (by decide) (by decide) (by decide)
                  have b76_ : 0 ≤ Int32.toInt (M.1 130 (Int32.toNatClampNeg ((4 * n1) + (n2 - n2 / 4 * 4)))) ∧ Int32.toInt (M.1 130 (Int32.toNatClampNeg ((4 * n1) + (n2 - n2 / 4 * 4)))) ≤ 9 := pvok_r hok 130 (Int32.toNatClampNeg ((4 * n1) + (n2 - n2 / 4 * 4))) rfl
                  obtain ⟨q78_, b77_⟩ : (Int32.toInt ((2 * (M.1 142 (Int32.toNatClampNeg ((99 * n1) + (n2 - (M.1 124 3)))))) + (M.1 130 (Int32.toNatClampNeg ((4 * n1) + (n2 - n2 / 4 * 4))))) = Int32.toInt (2 * (M.1 142 (Int32.toNatClampNeg ((99 * n1) + (n2 - (M.1 124 3)))))) + Int32.toInt (M.1 130 (Int32.toNatClampNeg ((4 * n1) + (n2 - n2 / 4 * 4))))) ∧ (0 ≤ Int32.toInt ((2 * (M.1 142 (Int32.toNatClampNeg ((99 * n1) + (n2 - (M.1 124 3)))))) + (M.1 130 (Int32.toNatClampNeg ((4 * n1) + (n2 - n2 / 4 * 4))))) ∧ Int32.toInt ((2 * (M.1 142 (Int32.toNatClampNeg ((99 * n1) + (n2 - (M.1 124 3)))))) + (M.1 130 (Int32.toNatClampNeg ((4 * n1) + (n2 - n2 / 4 * 4))))) ≤ 12009) := zadd_r (2 * (M.1 142 (Int32.toNatClampNeg ((99 * n1) + (n2 - (M.1 124 3)))))) (M.1 130 (Int32.toNatClampNeg ((4 * n1) + (n2 - n2 / 4 * 4)))) 0 12009 b70_ b76_ (by decide) (by decide) (by decide) (by decide)
                  refine pw_blk hT 14 (S' := (159, [some (pvR 124), some (pvI n1), some (pvI n2), some (pvI (n2 - (M.1 124 3))), some (pvI (M.1 142 (Int32.toNatClampNeg ((99 * n1) + (n2 - (M.1 124 3))))))], [pvI ((2 * (M.1 142 (Int32.toNatClampNeg ((99 * n1) + (n2 - (M.1 124 3)))))) + (M.1 130 (Int32.toNatClampNeg ((4 * n1) + (n2 - n2 / 4 * 4)))))], M)) rfl ⟨trivial, trivial, trivial, trivial, rfl, trivial, trivial, trivial, trivial, trivial, (by decide), trivial, ⟨rfl, (zr_in (n := 28) b74_ (by decide) (by decide))⟩, trivial, trivial⟩ ?_
                  exact pw_ret hT rfl (r := some (pvI ((2 * (M.1 142 (Int32.toNatClampNeg ((99 * n1) + (n2 - (M.1 124 3)))))) + (M.1 130 (Int32.toNatClampNeg ((4 * n1) + (n2 - n2 / 4 * 4))))))) (M' := M) ⟨rfl, rfl⟩ ⟨⟨_, rfl, b77_⟩, rfl⟩
                · have b79_ : 0 ≤ Int32.toInt (M.1 125 (Int32.toNatClampNeg n1)) ∧ Int32.toInt (M.1 125 (Int32.toNatClampNeg n1)) ≤ 1 := (by have u0 := b35_; have u9 := (show _ ∧ _ from ⟨(not_congr (zi_eq _ _)).mp c67_, (show 6 ≤ Int32.toInt 6 ∧ Int32.toInt 6 ≤ 6 from (by decide))⟩); have v1 := (not_congr (zi_eq _ _)).mp c57_; have w1 : (5 : Int32).toInt = 5 := (by decide); have v2 := (not_congr (zi_eq _ _)).mp c44_; have w2 : (4 : Int32).toInt = 4 := (by decide); have v3 := (not_congr (zi_eq _ _)).mp c40_; have w3 : (3 : Int32).toInt = 3 := (by decide); have v4 := (not_congr (zi_eq _ _)).mp c36_; have w4 : (2 : Int32).toInt = 2 := (by decide); omega)
                  show PW 26 d (160, [some (pvR 124), some (pvI n1), some (pvI n2), some (pvI (n2 - (M.1 124 3))), some (pvI (M.1 142 (Int32.toNatClampNeg ((99 * n1) + (n2 - (M.1 124 3))))))], [], M) _
                  refine pw_blk hT 1 (S' := (162, [some (pvR 124), some (pvI n1), some (pvI n2), some (pvI (n2 - (M.1 124 3))), some (pvI (M.1 142 (Int32.toNatClampNeg ((99 * n1) + (n2 - (M.1 124 3))))))], [pvI (M.1 142 (Int32.toNatClampNeg ((99 * n1) + (n2 - (M.1 124 3)))))], M)) rfl ⟨trivial, trivial⟩ ?_
                  exact pw_ret hT rfl (r := some (pvI (M.1 142 (Int32.toNatClampNeg ((99 * n1) + (n2 - (M.1 124 3))))))) (M' := M) ⟨rfl, rfl⟩ ⟨⟨_, rfl, (zr_wide b34_ (by decide) (by decide))⟩, rfl⟩
set_option maxHeartbeats 4000000 in
set_option maxRecDepth 10000 in
theorem sf_X10_harmAt_124_x (M : pvM) (hok : pvOk M) (n1 : Int32) (hn1 : 0 ≤ Int32.toInt n1 ∧ Int32.toInt n1 ≤ 200000) (d : Nat) : PW 27 d (0, [some (pvR 124), some (pvI n1), none, none], [], M) (fun r X => (∃ x : Int32, r = some (pvI x) ∧ 0 ≤ Int32.toInt x ∧ Int32.toInt x ≤ 84700) ∧ X = M) := by
  have hT : pvdom 27 = pvD_27 := rfl
  refine pw_blk hT 4 (S' := (4, [some (pvR 124), some (pvI n1), some (pvI 0), some (pvI 0)], [], M)) rfl ⟨trivial, trivial, trivial, trivial, trivial⟩ ?_
  have hlz47_ : ∀ (nz47_ : Nat) (i2z47_ : Int32) (i3z47_ : Int32), (0 ≤ Int32.toInt i2z47_ ∧ Int32.toInt i2z47_ ≤ 84700) → (0 ≤ Int32.toInt i3z47_ ∧ Int32.toInt i3z47_ ≤ 7) → (Int32.toInt i2z47_ ≤ 12100 * Int32.toInt i3z47_) → (0 ≤ Int32.toInt i2z47_) → (zhide ((8 - Int32.toInt i3z47_).toNat < nz47_)) → PW 27 d (4, [some (pvR 124), some (pvI n1), some (pvI i2z47_), some (pvI i3z47_)], [], M) (fun r X => (∃ x : Int32, r = some (pvI x) ∧ 0 ≤ Int32.toInt x ∧ Int32.toInt x ≤ 84700) ∧ X = M) := by
    intro nz47_
    induction nz47_ with
    | zero => intro i2z47_ i3z47_ h2z47_ h3z47_ j0z47_ j1z47_ hmz47_; exact absurd (zshow hmz47_) (Nat.not_lt_zero _)
    | succ nz47_ ihz47_ =>
      intro i2z47_ i3z47_ h2z47_ h3z47_ j0z47_ j1z47_ hmz47_
      have b48_ : 0 ≤ Int32.toInt (M.1 124 0) ∧ Int32.toInt (M.1 124 0) ≤ 7 := pvok_r hok 124 0 rfl
      refine pw_blk hT 3 (S' := (9, [some (pvR 124), some (pvI n1), some (pvI i2z47_), some (pvI i3z47_)], [pvI (M.1 124 0), pvI i3z47_], M)) rfl ⟨trivial, trivial, rfl, trivial⟩ ?_
      refine pw_ic hT (c := (M.1 124 0) ≤ i3z47_) rfl rfl (fun c49_ => ?_) (fun c49_ => ?_)
      · have d50_ : Int32.toInt (M.1 124 0) ≤ Int32.toInt i3z47_ := (zi_le _ _).mp c49_
        refine pw_blk hT 1 (S' := (28, [some (pvR 124), some (pvI n1), some (pvI i2z47_), some (pvI i3z47_)], [pvI i2z47_], M)) rfl ⟨trivial, trivial⟩ ?_
        exact pw_ret hT rfl (r := some (pvI i2z47_)) (M' := M) ⟨rfl, rfl⟩ ⟨⟨_, rfl, h2z47_⟩, rfl⟩
      · have b51_ : 1 ≤ Int32.toInt (M.1 124 0) ∧ Int32.toInt (M.1 124 0) ≤ 7 := zr_nle_l 1 c49_ b48_ h3z47_ (by decide)
        have b52_ : 0 ≤ Int32.toInt i3z47_ ∧ Int32.toInt i3z47_ ≤ 6 := zr_nle_r 6 c49_ h3z47_ b51_ (by decide)
        have d53_ : Int32.toInt (M.1 124 0) > Int32.toInt i3z47_ := Int.not_le.mp ((not_congr (zi_le _ _)).mp c49_)
        refine pw_blk hT 4 (S' := (16, [some (pvR 124), some (pvI n1), some (pvI i2z47_), some (pvI i3z47_)], [pvI n1, pvI i3z47_, pvR 124, pvI i2z47_], M)) rfl ⟨trivial, trivial, trivial, trivial, trivial⟩ ?_
        refine pw_callGp hT (as := [pvR 124, pvI i3z47_, pvI n1]) (lo1 := [some (pvR 124), some (pvI i3z47_), some (pvI n1), none, none]) (d1 := d) (rest := [pvI i2z47_]) rfl rfl rfl rfl rfl (fun _ => rfl) (Nat.zero_le _) rfl rfl rfl (sf_X10_harm_124_x_x M hok i3z47_ n1 b52_ hn1 d) (fun x54_ b56_ => ?_)
        obtain ⟨q60_, b59_⟩ : (Int32.toInt (i2z47_ + x54_) = Int32.toInt i2z47_ + Int32.toInt x54_) ∧ (0 ≤ Int32.toInt (i2z47_ + x54_) ∧ Int32.toInt (i2z47_ + x54_) ≤ 96709) := zadd_r i2z47_ x54_ 0 96709 h2z47_ b56_ (by decide) (by decide) (by decide) (by decide)
        obtain ⟨q62_, b61_⟩ : (Int32.toInt (i3z47_ + 1) = Int32.toInt i3z47_ + 1) ∧ (1 ≤ Int32.toInt (i3z47_ + 1) ∧ Int32.toInt (i3z47_ + 1) ≤ 7) := zadd_k i3z47_ 1 1 1 7 b52_ (by decide) (by decide) (by decide) (by decide) (by decide)
        refine pw_blk hT 4 (S' := (4, [some (pvR 124), some (pvI n1), some (pvI (i2z47_ + x54_)), some (pvI (i3z47_ + 1))], [], M)) rfl ⟨trivial, trivial, trivial, trivial, trivial⟩ ?_
        have j63_ : Int32.toInt (i2z47_ + x54_) ≤ 12100 * Int32.toInt (i3z47_ + 1) := by omega
        have j64_ : 0 ≤ Int32.toInt (i2z47_ + x54_) := by omega
        exact ihz47_ (i2z47_ + x54_) (i3z47_ + 1) (by have u0 := b59_; omega) (zr_wide b61_ (by decide) (by decide)) j63_ j64_ (zhid (pvms_up (zshow hmz47_) h3z47_ q62_ (by decide) (by decide)))
  have u65_ : Int32.toInt 0 = 0 := by decide
  have j66_ : Int32.toInt 0 ≤ 12100 * Int32.toInt 0 := by omega
  have j67_ : 0 ≤ Int32.toInt 0 := by omega
  exact hlz47_ _ 0 0 (zr_wide (show 0 ≤ Int32.toInt 0 ∧ Int32.toInt 0 ≤ 0 from (by decide)) (by decide) (by decide)) (zr_wide (show 0 ≤ Int32.toInt 0 ∧ Int32.toInt 0 ≤ 0 from (by decide)) (by decide) (by decide)) j66_ j67_ (zhid (Nat.lt_succ_self _))
set_option maxHeartbeats 4000000 in
set_option maxRecDepth 10000 in
theorem sf_X10_harmFrom_124_x_x (M : pvM) (hok : pvOk M) (n1 : Int32) (n2 : Int32) (hn1 : 0 ≤ Int32.toInt n1 ∧ Int32.toInt n1 ≤ 200000) (hn2 : 0 ≤ Int32.toInt n2 ∧ Int32.toInt n2 ≤ 200000) (d : Nat) : PW 28 d (0, [some (pvR 124), some (pvI n1), some (pvI n2), none, none], [], M) (fun r X => (∃ x : Int32, r = some (pvI x) ∧ 0 ≤ Int32.toInt x ∧ Int32.toInt x ≤ 9000000) ∧ X = M) := by
  have hT : pvdom 28 = pvD_28 := rfl
  have b1_ : 0 ≤ Int32.toInt (M.1 124 3) ∧ Int32.toInt (M.1 124 3) ≤ 108 := pvok_r hok 124 3 rfl
  refine pw_blk hT 5 (S' := (7, [some (pvR 124), some (pvI n1), some (pvI n2), some (pvI 0), none], [pvI (M.1 124 3), pvI n1], M)) rfl ⟨trivial, trivial, trivial, trivial, rfl, trivial⟩ ?_
  refine pw_ic hT (c := (M.1 124 3) ≤ n1) rfl rfl (fun c2_ => ?_) (fun c2_ => ?_)
  · have d3_ : Int32.toInt (M.1 124 3) ≤ Int32.toInt n1 := (zi_le _ _).mp c2_
    refine pw_blk hT 2 (S' := (20, [some (pvR 124), some (pvI n1), some (pvI n2), some (pvI 0), some (pvI n1)], [], M)) rfl ⟨trivial, trivial, trivial⟩ ?_
    have hlz83_ : ∀ (nz83_ : Nat) (i3z83_ : Int32) (i4z83_ : Int32), (0 ≤ Int32.toInt i3z83_ ∧ Int32.toInt i3z83_ ≤ 9000000) → (0 ≤ Int32.toInt i4z83_ ∧ Int32.toInt i4z83_ ≤ 200000) → (Int32.toInt i3z83_ ≤ 90000 * (Int32.toInt i4z83_ - Int32.toInt (M.1 124 3))) → (0 ≤ Int32.toInt i3z83_) → (Int32.toInt (M.1 124 3) ≤ Int32.toInt i4z83_) → (Int32.toInt i4z83_ ≤ Int32.toInt (M.1 124 3) + 99 ∨ Int32.toInt i3z83_ = 0) → (zhide ((200001 - Int32.toInt i4z83_).toNat < nz83_)) → PW 28 d (20, [some (pvR 124), some (pvI n1), some (pvI n2), some (pvI i3z83_), some (pvI i4z83_)], [], M) (fun r X => (∃ x : Int32, r = some (pvI x) ∧ 0 ≤ Int32.toInt x ∧ Int32.toInt x ≤ 9000000) ∧ X = M) := by
      intro nz83_
      induction nz83_ with
      | zero => intro i3z83_ i4z83_ h3z83_ h4z83_ j0z83_ j1z83_ j2z83_ j3z83_ hmz83_; exact absurd (zshow hmz83_) (Nat.not_lt_zero _)
      | succ nz83_ ihz83_ =>
        intro i3z83_ i4z83_ h3z83_ h4z83_ j0z83_ j1z83_ j2z83_ j3z83_ hmz83_
        refine pw_blk hT 2 (S' := (23, [some (pvR 124), some (pvI n1), some (pvI n2), some (pvI i3z83_), some (pvI i4z83_)], [pvI n2, pvI i4z83_], M)) rfl ⟨trivial, trivial, trivial⟩ ?_
        refine pw_ic hT (c := n2 ≤ i4z83_) rfl rfl (fun c84_ => ?_) (fun c84_ => ?_)
        · have d85_ : Int32.toInt n2 ≤ Int32.toInt i4z83_ := (zi_le _ _).mp c84_
          refine pw_blk hT 1 (S' := (56, [some (pvR 124), some (pvI n1), some (pvI n2), some (pvI i3z83_), some (pvI i4z83_)], [pvI i3z83_], M)) rfl ⟨trivial, trivial⟩ ?_
          exact pw_ret hT rfl (r := some (pvI i3z83_)) (M' := M) ⟨rfl, rfl⟩ ⟨⟨_, rfl, h3z83_⟩, rfl⟩
        · have b86_ : 1 ≤ Int32.toInt n2 ∧ Int32.toInt n2 ≤ 200000 := zr_nle_l 1 c84_ hn2 h4z83_ (by decide)
          have b87_ : 0 ≤ Int32.toInt i4z83_ ∧ Int32.toInt i4z83_ ≤ 199999 := zr_nle_r 199999 c84_ h4z83_ b86_ (by decide)
          have d88_ : Int32.toInt n2 > Int32.toInt i4z83_ := Int.not_le.mp ((not_congr (zi_le _ _)).mp c84_)
          refine pw_blk hT 4 (S' := (33, [some (pvR 124), some (pvI n1), some (pvI n2), some (pvI i3z83_), some (pvI i4z83_)], [pvR 124, pvI (M.1 124 3), pvI i4z83_], M)) rfl ⟨trivial, trivial, rfl, trivial, trivial⟩ ?_
          refine pw_callGp hT (as := [pvR 124]) (lo1 := [some (pvR 124)]) (d1 := d) (rest := [pvI (M.1 124 3), pvI i4z83_]) rfl rfl rfl rfl rfl (fun _ => rfl) (Nat.zero_le _) rfl rfl rfl (sf_X10_lastNow_124 M hok d) (fun x89_ b91_ => ?_)
          obtain ⟨q95_, b94_⟩ : (Int32.toInt ((M.1 124 3) + x89_) = Int32.toInt (M.1 124 3) + Int32.toInt x89_) ∧ (0 ≤ Int32.toInt ((M.1 124 3) + x89_) ∧ Int32.toInt ((M.1 124 3) + x89_) ≤ 207) := zadd_r (M.1 124 3) x89_ 0 207 b1_ b91_ (by decide) (by decide) (by decide) (by decide)
          refine pw_blk hT 1 (S' := (37, [some (pvR 124), some (pvI n1), some (pvI n2), some (pvI i3z83_), some (pvI i4z83_)], [pvI ((M.1 124 3) + x89_), pvI i4z83_], M)) rfl ⟨trivial, trivial⟩ ?_
          refine pw_ic hT (c := ((M.1 124 3) + x89_) ≤ i4z83_) rfl rfl (fun c96_ => ?_) (fun c96_ => ?_)
          · have d97_ : Int32.toInt ((M.1 124 3) + x89_) ≤ Int32.toInt i4z83_ := (zi_le _ _).mp c96_
            refine pw_blk hT 1 (S' := (56, [some (pvR 124), some (pvI n1), some (pvI n2), some (pvI i3z83_), some (pvI i4z83_)], [pvI i3z83_], M)) rfl ⟨trivial, trivial⟩ ?_
            exact pw_ret hT rfl (r := some (pvI i3z83_)) (M' := M) ⟨rfl, rfl⟩ ⟨⟨_, rfl, h3z83_⟩, rfl⟩
          · have b98_ : 1 ≤ Int32.toInt ((M.1 124 3) + x89_) ∧ Int32.toInt ((M.1 124 3) + x89_) ≤ 207 := zr_nle_l 1 c96_ b94_ b87_ (by decide)
            have b99_ : 0 ≤ Int32.toInt i4z83_ ∧ Int32.toInt i4z83_ ≤ 206 := zr_nle_r 206 c96_ b87_ b98_ (by decide)
            have d100_ : Int32.toInt ((M.1 124 3) + x89_) > Int32.toInt i4z83_ := Int.not_le.mp ((not_congr (zi_le _ _)).mp c96_)
            refine pw_blk hT 3 (S' := (44, [some (pvR 124), some (pvI n1), some (pvI n2), some (pvI i3z83_), some (pvI i4z83_)], [pvI i4z83_, pvR 124, pvI i3z83_], M)) rfl ⟨trivial, trivial, trivial, trivial⟩ ?_
            refine pw_callGp hT (as := [pvR 124, pvI i4z83_]) (lo1 := [some (pvR 124), some (pvI i4z83_), none, none]) (d1 := d) (rest := [pvI i3z83_]) rfl rfl rfl rfl rfl (fun _ => rfl) (Nat.zero_le _) rfl rfl rfl (sf_X10_harmAt_124_x M hok i4z83_ (zr_wide b99_ (by decide) (by decide)) d) (fun x101_ b103_ => ?_)
            obtain ⟨q107_, b106_⟩ : (Int32.toInt (i3z83_ + x101_) = Int32.toInt i3z83_ + Int32.toInt x101_) ∧ (0 ≤ Int32.toInt (i3z83_ + x101_) ∧ Int32.toInt (i3z83_ + x101_) ≤ 9084700) := zadd_r i3z83_ x101_ 0 9084700 h3z83_ b103_ (by decide) (by decide) (by decide) (by decide)
            obtain ⟨q109_, b108_⟩ : (Int32.toInt (i4z83_ + 1) = Int32.toInt i4z83_ + 1) ∧ (1 ≤ Int32.toInt (i4z83_ + 1) ∧ Int32.toInt (i4z83_ + 1) ≤ 207) := zadd_k i4z83_ 1 1 1 207 b99_ (by decide) (by decide) (by decide) (by decide) (by decide)
            refine pw_blk hT 4 (S' := (20, [some (pvR 124), some (pvI n1), some (pvI n2), some (pvI (i3z83_ + x101_)), some (pvI (i4z83_ + 1))], [], M)) rfl ⟨trivial, trivial, trivial, trivial, trivial⟩ ?_
            have j110_ : Int32.toInt (i3z83_ + x101_) ≤ 90000 * (Int32.toInt (i4z83_ + 1) - Int32.toInt (M.1 124 3)) := by omega
            have j111_ : 0 ≤ Int32.toInt (i3z83_ + x101_) := by omega
            have j112_ : Int32.toInt (M.1 124 3) ≤ Int32.toInt (i4z83_ + 1) := by omega
            have j113_ : Int32.toInt (i4z83_ + 1) ≤ Int32.toInt (M.1 124 3) + 99 ∨ Int32.toInt (i3z83_ + x101_) = 0 := by omega
            exact ihz83_ (i3z83_ + x101_) (i4z83_ + 1) (by have u0 := b106_; omega) (zr_wide b108_ (by decide) (by decide)) j110_ j111_ j112_ j113_ (zhid (pvms_up (zshow hmz83_) h4z83_ q109_ (by decide) (by decide)))
    have u114_ : Int32.toInt 0 = 0 := by decide
    have j115_ : Int32.toInt 0 ≤ 90000 * (Int32.toInt n1 - Int32.toInt (M.1 124 3)) := by omega
    have j116_ : 0 ≤ Int32.toInt 0 := by omega
    have j117_ : Int32.toInt (M.1 124 3) ≤ Int32.toInt n1 := by omega
    have j118_ : Int32.toInt n1 ≤ Int32.toInt (M.1 124 3) + 99 ∨ Int32.toInt 0 = 0 := by omega
    exact hlz83_ _ 0 n1 (zr_wide (show 0 ≤ Int32.toInt 0 ∧ Int32.toInt 0 ≤ 0 from (by decide)) (by decide) (by decide)) hn1 j115_ j116_ j117_ j118_ (zhid (Nat.lt_succ_self _))
  · have b119_ : 1 ≤ Int32.toInt (M.1 124 3) ∧ Int32.toInt (M.1 124 3) ≤ 108 := zr_nle_l 1 c2_ b1_ hn1 (by decide)
    have b120_ : 0 ≤ Int32.toInt n1 ∧ Int32.toInt n1 ≤ 107 := zr_nle_r 107 c2_ hn1 b119_ (by decide)
    have d121_ : Int32.toInt (M.1 124 3) > Int32.toInt n1 := Int.not_le.mp ((not_congr (zi_le _ _)).mp c2_)
    refine pw_blk hT 4 (S' := (20, [some (pvR 124), some (pvI n1), some (pvI n2), some (pvI 0), some (pvI (M.1 124 3))], [], M)) rfl ⟨trivial, rfl, trivial, trivial, trivial⟩ ?_
    have hlz201_ : ∀ (nz201_ : Nat) (i3z201_ : Int32) (i4z201_ : Int32), (0 ≤ Int32.toInt i3z201_ ∧ Int32.toInt i3z201_ ≤ 9000000) → (1 ≤ Int32.toInt i4z201_ ∧ Int32.toInt i4z201_ ≤ 207) → (Int32.toInt i3z201_ ≤ 90000 * (Int32.toInt i4z201_ - Int32.toInt (M.1 124 3))) → (0 ≤ Int32.toInt i3z201_) → (Int32.toInt (M.1 124 3) ≤ Int32.toInt i4z201_) → (Int32.toInt i4z201_ ≤ Int32.toInt (M.1 124 3) + 99 ∨ Int32.toInt i3z201_ = 0) → (zhide ((208 - Int32.toInt i4z201_).toNat < nz201_)) → PW 28 d (20, [some (pvR 124), some (pvI n1), some (pvI n2), some (pvI i3z201_), some (pvI i4z201_)], [], M) (fun r X => (∃ x : Int32, r = some (pvI x) ∧ 0 ≤ Int32.toInt x ∧ Int32.toInt x ≤ 9000000) ∧ X = M) := by
      intro nz201_
      induction nz201_ with
      | zero => intro i3z201_ i4z201_ h3z201_ h4z201_ j0z201_ j1z201_ j2z201_ j3z201_ hmz201_; exact absurd (zshow hmz201_) (Nat.not_lt_zero _)
      | succ nz201_ ihz201_ =>
        intro i3z201_ i4z201_ h3z201_ h4z201_ j0z201_ j1z201_ j2z201_ j3z201_ hmz201_
        refine pw_blk hT 2 (S' := (23, [some (pvR 124), some (pvI n1), some (pvI n2), some (pvI i3z201_), some (pvI i4z201_)], [pvI n2, pvI i4z201_], M)) rfl ⟨trivial, trivial, trivial⟩ ?_
        refine pw_ic hT (c := n2 ≤ i4z201_) rfl rfl (fun c202_ => ?_) (fun c202_ => ?_)
        · have b203_ : 0 ≤ Int32.toInt n2 ∧ Int32.toInt n2 ≤ 207 := zr_le_l 207 c202_ hn2 h4z201_ (by decide)
          have d204_ : Int32.toInt n2 ≤ Int32.toInt i4z201_ := (zi_le _ _).mp c202_
          refine pw_blk hT 1 (S' := (56, [some (pvR 124), some (pvI n1), some (pvI n2), some (pvI i3z201_), some (pvI i4z201_)], [pvI i3z201_], M)) rfl ⟨trivial, trivial⟩ ?_
          exact pw_ret hT rfl (r := some (pvI i3z201_)) (M' := M) ⟨rfl, rfl⟩ ⟨⟨_, rfl, h3z201_⟩, rfl⟩
        · have b205_ : 2 ≤ Int32.toInt n2 ∧ Int32.toInt n2 ≤ 200000 := zr_nle_l 2 c202_ hn2 h4z201_ (by decide)
          have d206_ : Int32.toInt n2 > Int32.toInt i4z201_ := Int.not_le.mp ((not_congr (zi_le _ _)).mp c202_)
          refine pw_blk hT 4 (S' := (33, [some (pvR 124), some (pvI n1), some (pvI n2), some (pvI i3z201_), some (pvI i4z201_)], [pvR 124, pvI (M.1 124 3), pvI i4z201_], M)) rfl ⟨trivial, trivial, rfl, trivial, trivial⟩ ?_
          refine pw_callGp hT (as := [pvR 124]) (lo1 := [some (pvR 124)]) (d1 := d) (rest := [pvI (M.1 124 3), pvI i4z201_]) rfl rfl rfl rfl rfl (fun _ => rfl) (Nat.zero_le _) rfl rfl rfl (sf_X10_lastNow_124 M hok d) (fun x207_ b209_ => ?_)
          obtain ⟨q213_, b212_⟩ : (Int32.toInt ((M.1 124 3) + x207_) = Int32.toInt (M.1 124 3) + Int32.toInt x207_) ∧ (1 ≤ Int32.toInt ((M.1 124 3) + x207_) ∧ Int32.toInt ((M.1 124 3) + x207_) ≤ 207) := zadd_r (M.1 124 3) x207_ 1 207 b119_ b209_ (by decide) (by decide) (by decide) (by decide)
          refine pw_blk hT 1 (S' := (37, [some (pvR 124), some (pvI n1), some (pvI n2), some (pvI i3z201_), some (pvI i4z201_)], [pvI ((M.1 124 3) + x207_), pvI i4z201_], M)) rfl ⟨trivial, trivial⟩ ?_
          refine pw_ic hT (c := ((M.1 124 3) + x207_) ≤ i4z201_) rfl rfl (fun c214_ => ?_) (fun c214_ => ?_)
          · have d215_ : Int32.toInt ((M.1 124 3) + x207_) ≤ Int32.toInt i4z201_ := (zi_le _ _).mp c214_
            refine pw_blk hT 1 (S' := (56, [some (pvR 124), some (pvI n1), some (pvI n2), some (pvI i3z201_), some (pvI i4z201_)], [pvI i3z201_], M)) rfl ⟨trivial, trivial⟩ ?_
            exact pw_ret hT rfl (r := some (pvI i3z201_)) (M' := M) ⟨rfl, rfl⟩ ⟨⟨_, rfl, h3z201_⟩, rfl⟩
          · have b216_ : 2 ≤ Int32.toInt ((M.1 124 3) + x207_) ∧ Int32.toInt ((M.1 124 3) + x207_) ≤ 207 := zr_nle_l 2 c214_ b212_ h4z201_ (by decide)
            have b217_ : 1 ≤ Int32.toInt i4z201_ ∧ Int32.toInt i4z201_ ≤ 206 := zr_nle_r 206 c214_ h4z201_ b216_ (by decide)
            have d218_ : Int32.toInt ((M.1 124 3) + x207_) > Int32.toInt i4z201_ := Int.not_le.mp ((not_congr (zi_le _ _)).mp c214_)
            refine pw_blk hT 3 (S' := (44, [some (pvR 124), some (pvI n1), some (pvI n2), some (pvI i3z201_), some (pvI i4z201_)], [pvI i4z201_, pvR 124, pvI i3z201_], M)) rfl ⟨trivial, trivial, trivial, trivial⟩ ?_
            refine pw_callGp hT (as := [pvR 124, pvI i4z201_]) (lo1 := [some (pvR 124), some (pvI i4z201_), none, none]) (d1 := d) (rest := [pvI i3z201_]) rfl rfl rfl rfl rfl (fun _ => rfl) (Nat.zero_le _) rfl rfl rfl (sf_X10_harmAt_124_x M hok i4z201_ (zr_wide b217_ (by decide) (by decide)) d) (fun x219_ b221_ => ?_)
            obtain ⟨q225_, b224_⟩ : (Int32.toInt (i3z201_ + x219_) = Int32.toInt i3z201_ + Int32.toInt x219_) ∧ (0 ≤ Int32.toInt (i3z201_ + x219_) ∧ Int32.toInt (i3z201_ + x219_) ≤ 9084700) := zadd_r i3z201_ x219_ 0 9084700 h3z201_ b221_ (by decide) (by decide) (by decide) (by decide)
            obtain ⟨q227_, b226_⟩ : (Int32.toInt (i4z201_ + 1) = Int32.toInt i4z201_ + 1) ∧ (2 ≤ Int32.toInt (i4z201_ + 1) ∧ Int32.toInt (i4z201_ + 1) ≤ 207) := zadd_k i4z201_ 1 1 2 207 b217_ (by decide) (by decide) (by decide) (by decide) (by decide)
            refine pw_blk hT 4 (S' := (20, [some (pvR 124), some (pvI n1), some (pvI n2), some (pvI (i3z201_ + x219_)), some (pvI (i4z201_ + 1))], [], M)) rfl ⟨trivial, trivial, trivial, trivial, trivial⟩ ?_
            have j228_ : Int32.toInt (i3z201_ + x219_) ≤ 90000 * (Int32.toInt (i4z201_ + 1) - Int32.toInt (M.1 124 3)) := by omega
            have j229_ : 0 ≤ Int32.toInt (i3z201_ + x219_) := by omega
            have j230_ : Int32.toInt (M.1 124 3) ≤ Int32.toInt (i4z201_ + 1) := by omega
            have j231_ : Int32.toInt (i4z201_ + 1) ≤ Int32.toInt (M.1 124 3) + 99 ∨ Int32.toInt (i3z201_ + x219_) = 0 := by omega
            exact ihz201_ (i3z201_ + x219_) (i4z201_ + 1) (by have u0 := b224_; omega) (zr_wide b226_ (by decide) (by decide)) j228_ j229_ j230_ j231_ (zhid (pvms_up (zshow hmz201_) h4z201_ q227_ (by decide) (by decide)))
    have u232_ : Int32.toInt 0 = 0 := by decide
    have j233_ : Int32.toInt 0 ≤ 90000 * (Int32.toInt (M.1 124 3) - Int32.toInt (M.1 124 3)) := by omega
    have j234_ : 0 ≤ Int32.toInt 0 := by omega
    have j235_ : Int32.toInt (M.1 124 3) ≤ Int32.toInt (M.1 124 3) := by omega
    have j236_ : Int32.toInt (M.1 124 3) ≤ Int32.toInt (M.1 124 3) + 99 ∨ Int32.toInt 0 = 0 := by omega
    exact hlz201_ _ 0 (M.1 124 3) (zr_wide (show 0 ≤ Int32.toInt 0 ∧ Int32.toInt 0 ≤ 0 from (by decide)) (by decide) (by decide)) (zr_wide b119_ (by decide) (by decide)) j233_ j234_ j235_ j236_ (zhid (Nat.lt_succ_self _))
set_option maxHeartbeats 4000000 in
set_option maxRecDepth 10000 in
theorem sf_X10_harmTillEnd_124 (M : pvM) (hok : pvOk M) (d : Nat) : PW 30 d (0, [some (pvR 124)], [], M) (fun r X => (∃ x : Int32, r = some (pvI x) ∧ 0 ≤ Int32.toInt x ∧ Int32.toInt x ≤ 9000000) ∧ X = M) := by
  have hT : pvdom 30 = pvD_30 := rfl
  have b1_ : 0 ≤ Int32.toInt (M.1 124 1) ∧ Int32.toInt (M.1 124 1) ≤ 9999 := pvok_r hok 124 1 rfl
  have b2_ : 0 ≤ Int32.toInt (M.1 124 3) ∧ Int32.toInt (M.1 124 3) ≤ 108 := pvok_r hok 124 3 rfl
  refine pw_blk hT 6 (S' := (10, [some (pvR 124)], [pvR 124, pvI (M.1 124 3), pvI (M.1 124 1), pvR 124], M)) rfl ⟨trivial, trivial, rfl, trivial, rfl, trivial, trivial⟩ ?_
  refine pw_callGp hT (as := [pvR 124]) (lo1 := [some (pvR 124)]) (d1 := d) (rest := [pvI (M.1 124 3), pvI (M.1 124 1), pvR 124]) rfl rfl rfl rfl rfl (fun _ => rfl) (Nat.zero_le _) rfl rfl rfl (sf_X10_lastNow_124 M hok d) (fun x3_ b5_ => ?_)
  obtain ⟨q9_, b8_⟩ : (Int32.toInt ((M.1 124 3) + x3_) = Int32.toInt (M.1 124 3) + Int32.toInt x3_) ∧ (0 ≤ Int32.toInt ((M.1 124 3) + x3_) ∧ Int32.toInt ((M.1 124 3) + x3_) ≤ 207) := zadd_r (M.1 124 3) x3_ 0 207 b2_ b5_ (by decide) (by decide) (by decide) (by decide)
  refine pw_blk hT 1 (S' := (14, [some (pvR 124)], [pvI ((M.1 124 3) + x3_), pvI (M.1 124 1), pvR 124], M)) rfl ⟨trivial, trivial⟩ ?_
  refine pw_callGp hT (as := [pvR 124, pvI (M.1 124 1), pvI ((M.1 124 3) + x3_)]) (lo1 := [some (pvR 124), some (pvI (M.1 124 1)), some (pvI ((M.1 124 3) + x3_)), none, none]) (d1 := d) (rest := []) rfl rfl rfl rfl rfl (fun _ => rfl) (Nat.zero_le _) rfl rfl rfl (sf_X10_harmFrom_124_x_x M hok (M.1 124 1) ((M.1 124 3) + x3_) (zr_wide b1_ (by decide) (by decide)) (zr_wide b8_ (by decide) (by decide)) d) (fun x10_ b12_ => ?_)
  exact pw_ret hT rfl (r := some (pvI x10_)) (M' := M) ⟨rfl, rfl⟩ ⟨⟨_, rfl, b12_⟩, rfl⟩
def fpL_X10_costOfPath_124_x : List (Nat × Nat × Nat) := [(0, 143, 0)]
def fp_X10_costOfPath_124_x (q k : Nat) : Bool := pvfp fpL_X10_costOfPath_124_x q k
theorem fp_X10_costOfPath_124_x_fp_X10_goes_124_x_x_x (a b : Nat) (h : fp_X10_goes_124_x_x_x a b = true) : fp_X10_costOfPath_124_x a b = true := pvfp_sub (l1 := fpL_X10_goes_124_x_x_x) (l2 := fpL_X10_costOfPath_124_x) (by decide) a b h
theorem fp_X10_costOfPath_124_x_fp_X10_layOpen_124 (a b : Nat) (h : fp_X10_layOpen_124 a b = true) : fp_X10_costOfPath_124_x a b = true := pvfp_sub (l1 := fpL_X10_layOpen_124) (l2 := fpL_X10_costOfPath_124_x) (by decide) a b h
set_option maxHeartbeats 4000000 in
set_option maxRecDepth 10000 in
theorem sf_X10_costOfPath_124_x (M : pvM) (hok : pvOk M) (n1 : Int32) (hn1 : 0 ≤ Int32.toInt n1 ∧ Int32.toInt n1 ≤ 60) (d : Nat) : PW 14 d (0, [some (pvR 124), some (pvI n1), none], [], M) (fun r X => (∃ x : Int32, r = some (pvI x) ∧ 0 ≤ Int32.toInt x ∧ Int32.toInt x ≤ 9000000) ∧ pvOk X ∧ pvFr fp_X10_costOfPath_124_x M X) := by
  have hT : pvdom 14 = pvD_14 := rfl
  refine pw_blk hT 1 (S' := (1, [some (pvR 124), some (pvI n1), none], [pvR 124], M)) rfl ⟨trivial, trivial⟩ ?_
  refine pw_callV hT (as := [pvR 124]) (lo1 := [some (pvR 124), none]) (d1 := d) (rest := []) rfl rfl rfl rfl rfl (fun _ => rfl) (Nat.zero_le _) rfl rfl rfl (sf_X10_layOpen_124 M hok d) (fun M2_ o4_ g5_ => ?_)
  have f6_ : pvFr fp_X10_costOfPath_124_x M M2_ := pvfr_t g5_ pvfr_0 fp_X10_costOfPath_124_x_fp_X10_layOpen_124
  have b7_ : 0 ≤ Int32.toInt (M2_.1 124 35) ∧ Int32.toInt (M2_.1 124 35) ≤ 7 := pvok_r o4_ 124 35 rfl
  have b8_ : 0 ≤ Int32.toInt (M2_.1 124 1) ∧ Int32.toInt (M2_.1 124 1) ≤ 9999 := pvok_r o4_ 124 1 rfl
  obtain ⟨q10_, b9_⟩ : (Int32.toInt ((M2_.1 124 1) + n1) = Int32.toInt (M2_.1 124 1) + Int32.toInt n1) ∧ (0 ≤ Int32.toInt ((M2_.1 124 1) + n1) ∧ Int32.toInt ((M2_.1 124 1) + n1) ≤ 10059) := zadd_r (M2_.1 124 1) n1 0 10059 b8_ hn1 (by decide) (by decide) (by decide) (by decide)
  refine pw_blk hT 8 (S' := (16, [some (pvR 124), some (pvI n1), none], [pvI ((M2_.1 124 1) + n1), pvI (M2_.1 124 35), pvI 0, pvR 124], M2_)) rfl ⟨trivial, trivial, trivial, rfl, trivial, rfl, trivial, trivial, trivial⟩ ?_
  refine pw_callG hT (as := [pvR 124, pvI 0, pvI (M2_.1 124 35), pvI ((M2_.1 124 1) + n1)]) (lo1 := [some (pvR 124), some (pvI 0), some (pvI (M2_.1 124 35)), some (pvI ((M2_.1 124 1) + n1)), none, none, none, none, none]) (d1 := d) (rest := []) rfl rfl rfl rfl rfl (fun _ => rfl) (Nat.zero_le _) rfl rfl rfl (sf_X10_goes_124_x_x_x M2_ o4_ 0 (M2_.1 124 35) ((M2_.1 124 1) + n1) (zr_wide (show 0 ≤ Int32.toInt 0 ∧ Int32.toInt 0 ≤ 0 from (by decide)) (by decide) (by decide)) b7_ (zr_wide b9_ (by decide) (by decide)) d) (fun x11_ M12_ b13_ o14_ g15_ => ?_)
  have f16_ : pvFr fp_X10_costOfPath_124_x M M12_ := pvfr_t g15_ f6_ fp_X10_costOfPath_124_x_fp_X10_goes_124_x_x_x
  refine pw_blk hT 2 (S' := (21, [some (pvR 124), some (pvI n1), some (pvI x11_)], [pvR 124], M12_)) rfl ⟨trivial, trivial, trivial⟩ ?_
  refine pw_callGp hT (as := [pvR 124]) (lo1 := [some (pvR 124)]) (d1 := d) (rest := []) rfl rfl rfl rfl rfl (fun _ => rfl) (Nat.zero_le _) rfl rfl rfl (sf_X10_harmTillEnd_124 M12_ o14_ d) (fun x17_ b19_ => ?_)
  exact pw_ret hT rfl (r := some (pvI x17_)) (M' := M12_) ⟨rfl, rfl⟩ ⟨⟨_, rfl, b19_⟩, o14_, f16_⟩
set_option maxHeartbeats 4000000 in
set_option maxRecDepth 10000 in
theorem sf_X10_openSet_124 (M : pvM) (hok : pvOk M) (d : Nat) : PW 61 d (0, [some (pvR 124), none, none], [], M) (fun r X => (∃ x : Int32, r = some (pvI x) ∧ 0 ≤ Int32.toInt x ∧ Int32.toInt x ≤ 127) ∧ X = M) := by
  have hT : pvdom 61 = pvD_61 := rfl
  refine pw_blk hT 4 (S' := (4, [some (pvR 124), some (pvI 0), some (pvI 0)], [], M)) rfl ⟨trivial, trivial, trivial, trivial, trivial⟩ ?_
  have hlz52_ : ∀ (nz52_ : Nat) (i1z52_ : Int32) (i2z52_ : Int32), (0 ≤ Int32.toInt i1z52_ ∧ Int32.toInt i1z52_ ≤ 127) → (0 ≤ Int32.toInt i2z52_ ∧ Int32.toInt i2z52_ ≤ 7) → (zhide ((8 - Int32.toInt i2z52_).toNat < nz52_)) → PW 61 d (4, [some (pvR 124), some (pvI i1z52_), some (pvI i2z52_)], [], M) (fun r X => (∃ x : Int32, r = some (pvI x) ∧ 0 ≤ Int32.toInt x ∧ Int32.toInt x ≤ 127) ∧ X = M) := by
    intro nz52_
    induction nz52_ with
    | zero => intro i1z52_ i2z52_ h1z52_ h2z52_ hmz52_; exact absurd (zshow hmz52_) (Nat.not_lt_zero _)
    | succ nz52_ ihz52_ =>
      intro i1z52_ i2z52_ h1z52_ h2z52_ hmz52_
      have b53_ : 0 ≤ Int32.toInt (M.1 124 0) ∧ Int32.toInt (M.1 124 0) ≤ 7 := pvok_r hok 124 0 rfl
      refine pw_blk hT 3 (S' := (9, [some (pvR 124), some (pvI i1z52_), some (pvI i2z52_)], [pvI (M.1 124 0), pvI i2z52_], M)) rfl ⟨trivial, trivial, rfl, trivial⟩ ?_
      refine pw_ic hT (c := (M.1 124 0) ≤ i2z52_) rfl rfl (fun c54_ => ?_) (fun c54_ => ?_)
      · have d55_ : Int32.toInt (M.1 124 0) ≤ Int32.toInt i2z52_ := (zi_le _ _).mp c54_
        refine pw_blk hT 1 (S' := (38, [some (pvR 124), some (pvI i1z52_), some (pvI i2z52_)], [pvI i1z52_], M)) rfl ⟨trivial, trivial⟩ ?_
        exact pw_ret hT rfl (r := some (pvI i1z52_)) (M' := M) ⟨rfl, rfl⟩ ⟨⟨_, rfl, h1z52_⟩, rfl⟩
      · have b56_ : 1 ≤ Int32.toInt (M.1 124 0) ∧ Int32.toInt (M.1 124 0) ≤ 7 := zr_nle_l 1 c54_ b53_ h2z52_ (by decide)
        have b57_ : 0 ≤ Int32.toInt i2z52_ ∧ Int32.toInt i2z52_ ≤ 6 := zr_nle_r 6 c54_ h2z52_ b56_ (by decide)
        have d58_ : Int32.toInt (M.1 124 0) > Int32.toInt i2z52_ := Int.not_le.mp ((not_congr (zi_le _ _)).mp c54_)
        have b59_ : 0 ≤ Int32.toInt (M.1 131 (Int32.toNatClampNeg i2z52_)) ∧ Int32.toInt (M.1 131 (Int32.toNatClampNeg i2z52_)) ≤ 1 := pvok_r hok 131 (Int32.toNatClampNeg i2z52_) rfl
        refine pw_blk hT 5 (S' := (19, [some (pvR 124), some (pvI i1z52_), some (pvI i2z52_)], [pvI (M.1 131 (Int32.toNatClampNeg i2z52_)), pvI i1z52_], M)) rfl ⟨trivial, trivial, rfl, trivial, ⟨rfl, (zr_in (n := 7) b57_ (by decide) (by decide))⟩, trivial⟩ ?_
        refine pw_if hT (c := (M.1 131 (Int32.toNatClampNeg i2z52_)) = 0) rfl rfl (fun c60_ => ?_) (fun c60_ => ?_)
        · have b61_ : 0 ≤ Int32.toInt (M.1 131 (Int32.toNatClampNeg i2z52_)) ∧ Int32.toInt (M.1 131 (Int32.toNatClampNeg i2z52_)) ≤ 0 := (by have u0 := b59_; have u1 := (zi_eq _ _).mp c60_; have u2 := (show 0 ≤ Int32.toInt 0 ∧ Int32.toInt 0 ≤ 0 from (by decide)); omega)
          refine pw_blk hT 4 (S' := (30, [some (pvR 124), some (pvI i1z52_), some (pvI i2z52_)], [pvI (i1z52_ ||| (1 <<< (i2z52_ &&& 31)))], M)) rfl ⟨trivial, trivial, trivial, trivial, trivial⟩ ?_
          have b62_ : 0 ≤ Int32.toInt (i1z52_ ||| (1 <<< (i2z52_ &&& 31))) ∧ Int32.toInt (i1z52_ ||| (1 <<< (i2z52_ &&& 31))) ≤ 127 := zs_or h1z52_ b57_
          obtain ⟨q64_, b63_⟩ : (Int32.toInt (i2z52_ + 1) = Int32.toInt i2z52_ + 1) ∧ (1 ≤ Int32.toInt (i2z52_ + 1) ∧ Int32.toInt (i2z52_ + 1) ≤ 7) := zadd_k i2z52_ 1 1 1 7 b57_ (by decide) (by decide) (by decide) (by decide) (by decide)
          refine pw_blk hT 3 (S' := (4, [some (pvR 124), some (pvI (i1z52_ ||| (1 <<< (i2z52_ &&& 31)))), some (pvI (i2z52_ + 1))], [], M)) rfl ⟨trivial, trivial, trivial, trivial⟩ ?_
          exact ihz52_ (i1z52_ ||| (1 <<< (i2z52_ &&& 31))) (i2z52_ + 1) b62_ (zr_wide b63_ (by decide) (by decide)) (zhid (pvms_up (zshow hmz52_) h2z52_ q64_ (by decide) (by decide)))
        · have b65_ : 1 ≤ Int32.toInt (M.1 131 (Int32.toNatClampNeg i2z52_)) ∧ Int32.toInt (M.1 131 (Int32.toNatClampNeg i2z52_)) ≤ 1 := (by have u0 := b59_; have u1 := (not_congr (zi_eq _ _)).mp c60_; have u2 := (show 0 ≤ Int32.toInt 0 ∧ Int32.toInt 0 ≤ 0 from (by decide)); omega)
          refine pw_blk hT 3 (S' := (30, [some (pvR 124), some (pvI i1z52_), some (pvI i2z52_)], [pvI (i1z52_ ||| 0)], M)) rfl ⟨trivial, trivial, trivial, trivial⟩ ?_
          have b66_ : 0 ≤ Int32.toInt (i1z52_ ||| 0) ∧ Int32.toInt (i1z52_ ||| 0) ≤ 127 := zs_orz h1z52_
          obtain ⟨q68_, b67_⟩ : (Int32.toInt (i2z52_ + 1) = Int32.toInt i2z52_ + 1) ∧ (1 ≤ Int32.toInt (i2z52_ + 1) ∧ Int32.toInt (i2z52_ + 1) ≤ 7) := zadd_k i2z52_ 1 1 1 7 b57_ (by decide) (by decide) (by decide) (by decide) (by decide)
          refine pw_blk hT 3 (S' := (4, [some (pvR 124), some (pvI (i1z52_ ||| 0)), some (pvI (i2z52_ + 1))], [], M)) rfl ⟨trivial, trivial, trivial, trivial⟩ ?_
          exact ihz52_ (i1z52_ ||| 0) (i2z52_ + 1) b66_ (zr_wide b67_ (by decide) (by decide)) (zhid (pvms_up (zshow hmz52_) h2z52_ q68_ (by decide) (by decide)))
  exact hlz52_ _ 0 0 (zr_wide (show 0 ≤ Int32.toInt 0 ∧ Int32.toInt 0 ≤ 0 from (by decide)) (by decide) (by decide)) (zr_wide (show 0 ≤ Int32.toInt 0 ∧ Int32.toInt 0 ≤ 0 from (by decide)) (by decide) (by decide)) (zhid (Nat.lt_succ_self _))
set_option maxHeartbeats 4000000 in
set_option maxRecDepth 10000 in
theorem sf_X10_has_124_x_x (M : pvM) (hok : pvOk M) (n1 : Int32) (n2 : Int32) (d : Nat) : PW 31 d (0, [some (pvR 124), some (pvI n1), some (pvI n2)], [], M) (fun r X => r = some (pvI ((if ((n1 >>> (n2 &&& 31)) &&& 1) = 1 then 1 else 0))) ∧ X = M) := by
  have hT : pvdom 31 = pvD_31 := rfl
  have b1_ : 0 ≤ Int32.toInt ((n1 >>> (n2 &&& 31)) &&& 1) ∧ Int32.toInt ((n1 >>> (n2 &&& 31)) &&& 1) ≤ 1 := (pvand1 (n1 >>> (n2 &&& 31)))
  refine pw_blk hT 6 (S' := (6, [some (pvR 124), some (pvI n1), some (pvI n2)], [pvI 1, pvI ((n1 >>> (n2 &&& 31)) &&& 1)], M)) rfl ⟨trivial, trivial, trivial, trivial, trivial, trivial, trivial⟩ ?_
  refine pw_icn hT (c := ((n1 >>> (n2 &&& 31)) &&& 1) = 1) rfl rfl (fun c2_ => ?_) (fun c2_ => ?_)
  · have b3_ : 0 ≤ Int32.toInt ((n1 >>> (n2 &&& 31)) &&& 1) ∧ Int32.toInt ((n1 >>> (n2 &&& 31)) &&& 1) ≤ 0 := (by have u0 := b1_; have u1 := (not_congr (zi_eq _ _)).mp c2_; have u2 := (show 1 ≤ Int32.toInt 1 ∧ Int32.toInt 1 ≤ 1 from (by decide)); omega)
    refine pw_blk hT 1 (S' := (14, [some (pvR 124), some (pvI n1), some (pvI n2)], [pvI 0], M)) rfl ⟨trivial, trivial⟩ ?_
    exact pw_ret hT rfl (r := some (pvI 0)) (M' := M) ⟨Or.inl rfl, rfl, rfl⟩ ⟨(by rw [if_neg c2_]), rfl⟩
  · have b4_ : 1 ≤ Int32.toInt ((n1 >>> (n2 &&& 31)) &&& 1) ∧ Int32.toInt ((n1 >>> (n2 &&& 31)) &&& 1) ≤ 1 := (by have u0 := b1_; have u1 := (zi_eq _ _).mp c2_; have u2 := (show 1 ≤ Int32.toInt 1 ∧ Int32.toInt 1 ≤ 1 from (by decide)); omega)
    refine pw_blk hT 2 (S' := (14, [some (pvR 124), some (pvI n1), some (pvI n2)], [pvI 1], M)) rfl ⟨trivial, trivial, trivial⟩ ?_
    exact pw_ret hT rfl (r := some (pvI 1)) (M' := M) ⟨Or.inr rfl, rfl, rfl⟩ ⟨(by rw [if_pos c2_]), rfl⟩
def fpL_X10_layOrder_124_x_x : List (Nat × Nat × Nat) := [(0, 144, 0)]
def fp_X10_layOrder_124_x_x (q k : Nat) : Bool := pvfp fpL_X10_layOrder_124_x_x q k
set_option maxHeartbeats 4000000 in
set_option maxRecDepth 10000 in
theorem sf_X10_layOrder_124_x_x (M : pvM) (hok : pvOk M) (n1 : Int32) (n2 : Int32) (hn1 : 0 ≤ Int32.toInt n1 ∧ Int32.toInt n1 ≤ 127) (hn2 : 0 ≤ Int32.toInt n2 ∧ Int32.toInt n2 ≤ 5040) (ho : Int32.toInt (M.1 124 35) ≤ zbc n1 7) (d : Nat) : PW 49 d (0, [some (pvR 124), some (pvI n1), some (pvI n2), none, none, none, none, none, none], [], M) (fun r X => (∃ x : Int32, r = some (pvI x) ∧ (0 ≤ Int32.toInt x ∧ Int32.toInt x ≤ 1) ∧ (Int32.toInt x ≤ 0 ∨ Int32.toInt n2 < 5040)) ∧ pvOk X ∧ pvFr fp_X10_layOrder_124_x_x M X) := by
  have hT : pvdom 49 = pvD_49 := rfl
  refine pw_blk hT 4 (S' := (5, [some (pvR 124), some (pvI n1), some (pvI n2), some (pvI 1), some (pvI 2), none, none, none, none], [], M)) rfl ⟨trivial, trivial, trivial, trivial, trivial⟩ ?_
  have hlz2848_ : ∀ (nz2848_ : Nat) (i3z2848_ : Int32) (i4z2848_ : Int32), (1 ≤ Int32.toInt i3z2848_ ∧ Int32.toInt i3z2848_ ≤ 5040) → (2 ≤ Int32.toInt i4z2848_ ∧ Int32.toInt i4z2848_ ≤ 8) → (Int32.toInt i3z2848_ = zfc (Int32.toInt i4z2848_ - 1)) → (Int32.toInt i4z2848_ ≤ Int32.toInt (M.1 124 35) + 1 ∨ Int32.toInt i4z2848_ = 2) → (zhide ((9 - Int32.toInt i4z2848_).toNat < nz2848_)) → PW 49 d (5, [some (pvR 124), some (pvI n1), some (pvI n2), some (pvI i3z2848_), some (pvI i4z2848_), none, none, none, none], [], M) (fun r X => (∃ x : Int32, r = some (pvI x) ∧ (0 ≤ Int32.toInt x ∧ Int32.toInt x ≤ 1) ∧ (Int32.toInt x ≤ 0 ∨ Int32.toInt n2 < 5040)) ∧ pvOk X ∧ pvFr fp_X10_layOrder_124_x_x M X) := by
    intro nz2848_
    induction nz2848_ with
    | zero => intro i3z2848_ i4z2848_ h3z2848_ h4z2848_ j0z2848_ j1z2848_ hmz2848_; exact absurd (zshow hmz2848_) (Nat.not_lt_zero _)
    | succ nz2848_ ihz2848_ =>
      intro i3z2848_ i4z2848_ h3z2848_ h4z2848_ j0z2848_ j1z2848_ hmz2848_
      have b2849_ : 0 ≤ Int32.toInt (M.1 124 35) ∧ Int32.toInt (M.1 124 35) ≤ 7 := pvok_r hok 124 35 rfl
      refine pw_blk hT 3 (S' := (11, [some (pvR 124), some (pvI n1), some (pvI n2), some (pvI i3z2848_), some (pvI i4z2848_), none, none, none, none], [pvI (M.1 124 35), pvI i4z2848_], M)) rfl ⟨trivial, trivial, rfl, trivial⟩ ?_
      refine pw_ic hT (c := (M.1 124 35) < i4z2848_) rfl rfl (fun c2850_ => ?_) (fun c2850_ => ?_)
      · have d2851_ : Int32.toInt (M.1 124 35) < Int32.toInt i4z2848_ := (zi_lt _ _).mp c2850_
        refine pw_blk hT 2 (S' := (27, [some (pvR 124), some (pvI n1), some (pvI n2), some (pvI i3z2848_), some (pvI i4z2848_), none, none, none, none], [pvI i3z2848_, pvI n2], M)) rfl ⟨trivial, trivial, trivial⟩ ?_
        refine pw_ic hT (c := n2 < i3z2848_) rfl rfl (fun c2852_ => ?_) (fun c2852_ => ?_)
        · have b2853_ : 0 ≤ Int32.toInt n2 ∧ Int32.toInt n2 ≤ 5039 := zr_lt_l 5039 c2852_ hn2 h3z2848_ (by decide)
          have d2854_ : Int32.toInt n2 < Int32.toInt i3z2848_ := (zi_lt _ _).mp c2852_
          have q2855_ := zlo_x (w := Int32.toInt (M.1 124 35)) j0z2848_ j1z2848_ (by omega)
          refine pw_blk hT 6 (S' := (41, [some (pvR 124), some (pvI n1), some (pvI n2), some (pvI i3z2848_), some (pvI n1), some (pvI n2), some (pvI 0), none, none], [], M)) rfl ⟨trivial, trivial, trivial, trivial, trivial, trivial, trivial⟩ ?_
          have hlz3597_ : ∀ (nz3597_ : Nat) (i3z3597_ : Int32) (i4z3597_ : Int32) (i5z3597_ : Int32) (i6z3597_ : Int32) (v7z3597_ : Option pvV) (v8z3597_ : Option pvV) (Mz3597_ : pvM), (pvOk Mz3597_) → (pvFr fp_X10_layOrder_124_x_x M Mz3597_) → (1 ≤ Int32.toInt i3z3597_ ∧ Int32.toInt i3z3597_ ≤ 5040) → (0 ≤ Int32.toInt i4z3597_ ∧ Int32.toInt i4z3597_ ≤ 127) → (0 ≤ Int32.toInt i5z3597_ ∧ Int32.toInt i5z3597_ ≤ 5040) → (0 ≤ Int32.toInt i6z3597_ ∧ Int32.toInt i6z3597_ ≤ 7) → (Int32.toInt i3z3597_ = zfc (Int32.toInt (Mz3597_.1 124 35) - Int32.toInt i6z3597_)) → (Int32.toInt i5z3597_ < Int32.toInt i3z3597_) → (Int32.toInt (Mz3597_.1 124 35) - Int32.toInt i6z3597_ ≤ zbc i4z3597_ 7) → (zhide ((8 - Int32.toInt i6z3597_).toNat < nz3597_)) → PW 49 d (41, [some (pvR 124), some (pvI n1), some (pvI n2), some (pvI i3z3597_), some (pvI i4z3597_), some (pvI i5z3597_), some (pvI i6z3597_), v7z3597_, v8z3597_], [], Mz3597_) (fun r X => (∃ x : Int32, r = some (pvI x) ∧ (0 ≤ Int32.toInt x ∧ Int32.toInt x ≤ 1) ∧ (Int32.toInt x ≤ 0 ∨ Int32.toInt n2 < 5040)) ∧ pvOk X ∧ pvFr fp_X10_layOrder_124_x_x M X) := by
            intro nz3597_
            induction nz3597_ with
            | zero => intro i3z3597_ i4z3597_ i5z3597_ i6z3597_ v7z3597_ v8z3597_ Mz3597_ oz3597_ fz3597_ h3z3597_ h4z3597_ h5z3597_ h6z3597_ j0z3597_ j1z3597_ j2z3597_ hmz3597_; exact absurd (zshow hmz3597_) (Nat.not_lt_zero _)
            | succ nz3597_ ihz3597_ =>
              intro i3z3597_ i4z3597_ i5z3597_ i6z3597_ v7z3597_ v8z3597_ Mz3597_ oz3597_ fz3597_ h3z3597_ h4z3597_ h5z3597_ h6z3597_ j0z3597_ j1z3597_ j2z3597_ hmz3597_
              have b3598_ : 0 ≤ Int32.toInt (Mz3597_.1 124 35) ∧ Int32.toInt (Mz3597_.1 124 35) ≤ 7 := pvok_r oz3597_ 124 35 rfl
              refine pw_blk hT 3 (S' := (47, [some (pvR 124), some (pvI n1), some (pvI n2), some (pvI i3z3597_), some (pvI i4z3597_), some (pvI i5z3597_), some (pvI i6z3597_), v7z3597_, v8z3597_], [pvI (Mz3597_.1 124 35), pvI i6z3597_], Mz3597_)) rfl ⟨trivial, trivial, rfl, trivial⟩ ?_
              refine pw_ic hT (c := (Mz3597_.1 124 35) ≤ i6z3597_) rfl rfl (fun c3599_ => ?_) (fun c3599_ => ?_)
              · have d3600_ : Int32.toInt (Mz3597_.1 124 35) ≤ Int32.toInt i6z3597_ := (zi_le _ _).mp c3599_
                refine pw_blk hT 1 (S' := (145, [some (pvR 124), some (pvI n1), some (pvI n2), some (pvI i3z3597_), some (pvI i4z3597_), some (pvI i5z3597_), some (pvI i6z3597_), v7z3597_, v8z3597_], [pvI 1], Mz3597_)) rfl ⟨trivial, trivial⟩ ?_
                exact pw_ret hT rfl (r := some (pvI 1)) (M' := Mz3597_) ⟨Or.inr rfl, rfl, rfl⟩ ⟨⟨_, rfl, (zr_wide (show 1 ≤ Int32.toInt 1 ∧ Int32.toInt 1 ≤ 1 from (by decide)) (by decide) (by decide)), (by have u9 : Int32.toInt 0 = 0 := (by decide); have u8 : Int32.toInt (-1) = -1 := (by decide); omega)⟩, oz3597_, fz3597_⟩
              · have b3601_ : 1 ≤ Int32.toInt (Mz3597_.1 124 35) ∧ Int32.toInt (Mz3597_.1 124 35) ≤ 7 := zr_nle_l 1 c3599_ b3598_ h6z3597_ (by decide)
                have b3602_ : 0 ≤ Int32.toInt i6z3597_ ∧ Int32.toInt i6z3597_ ≤ 6 := zr_nle_r 6 c3599_ h6z3597_ b3601_ (by decide)
                have d3603_ : Int32.toInt (Mz3597_.1 124 35) > Int32.toInt i6z3597_ := Int.not_le.mp ((not_congr (zi_le _ _)).mp c3599_)
                obtain ⟨q3605_, b3604_⟩ : (Int32.toInt ((Mz3597_.1 124 35) - i6z3597_) = Int32.toInt (Mz3597_.1 124 35) - Int32.toInt i6z3597_) ∧ ((-5) ≤ Int32.toInt ((Mz3597_.1 124 35) - i6z3597_) ∧ Int32.toInt ((Mz3597_.1 124 35) - i6z3597_) ≤ 7) := zsub_r (Mz3597_.1 124 35) i6z3597_ (-5) 7 b3601_ b3602_ (by decide) (by decide) (by decide) (by decide)
                have b3606_ : 1 ≤ Int32.toInt ((Mz3597_.1 124 35) - i6z3597_) ∧ Int32.toInt ((Mz3597_.1 124 35) - i6z3597_) ≤ 7 := (by have u0 := b3604_; omega)
                refine pw_blk hT 7 (S' := (60, [some (pvR 124), some (pvI n1), some (pvI n2), some (pvI (i3z3597_ / ((Mz3597_.1 124 35) - i6z3597_))), some (pvI i4z3597_), some (pvI i5z3597_), some (pvI i6z3597_), v7z3597_, v8z3597_], [], Mz3597_)) rfl ⟨trivial, trivial, rfl, trivial, trivial, (fun z0 => by have u0 := b3606_; have u1 := (zi_eq ((Mz3597_.1 124 35) - i6z3597_) 0).mp z0; have u2 : (0 : Int32).toInt = 0 := (by decide); omega), trivial, trivial⟩ ?_
                have q3607_ := zlo_d (t := Int32.toInt (Mz3597_.1 124 35) - Int32.toInt i6z3597_) j0z3597_ (by omega) (by omega) (by omega)
                have b3608_ : 1 ≤ Int32.toInt (i3z3597_ / ((Mz3597_.1 124 35) - i6z3597_)) ∧ Int32.toInt (i3z3597_ / ((Mz3597_.1 124 35) - i6z3597_)) ≤ 720 := q3607_.2
                refine pw_blk hT 4 (S' := (66, [some (pvR 124), some (pvI n1), some (pvI n2), some (pvI (i3z3597_ / ((Mz3597_.1 124 35) - i6z3597_))), some (pvI i4z3597_), some (pvI i5z3597_), some (pvI i6z3597_), some (pvI (i5z3597_ / (i3z3597_ / ((Mz3597_.1 124 35) - i6z3597_)))), v8z3597_], [], Mz3597_)) rfl ⟨trivial, trivial, (fun z0 => by have u0 := b3608_; have u1 := (zi_eq (i3z3597_ / ((Mz3597_.1 124 35) - i6z3597_)) 0).mp z0; have u2 : (0 : Int32).toInt = 0 := (by decide); omega), trivial, trivial⟩ ?_
                have q3609_ := zlo_n (r := i5z3597_) (t := Int32.toInt (Mz3597_.1 124 35) - Int32.toInt i6z3597_) q3607_.1 (by omega) (by rw [← j0z3597_]; omega) (by omega) (by omega)
                have b3610_ : 0 ≤ Int32.toInt (i5z3597_ / (i3z3597_ / ((Mz3597_.1 124 35) - i6z3597_))) ∧ Int32.toInt (i5z3597_ / (i3z3597_ / ((Mz3597_.1 124 35) - i6z3597_))) ≤ 6 := (by omega)
                have q3611_ : 0 ≤ Int32.toInt (i5z3597_ - i5z3597_ / (i3z3597_ / ((Mz3597_.1 124 35) - i6z3597_)) * (i3z3597_ / ((Mz3597_.1 124 35) - i6z3597_))) ∧ Int32.toInt (i5z3597_ - i5z3597_ / (i3z3597_ / ((Mz3597_.1 124 35) - i6z3597_)) * (i3z3597_ / ((Mz3597_.1 124 35) - i6z3597_))) < Int32.toInt (i3z3597_ / ((Mz3597_.1 124 35) - i6z3597_)) := pvrem i5z3597_ (i3z3597_ / ((Mz3597_.1 124 35) - i6z3597_)) (by have u0 := h5z3597_; omega) (by have u0 := b3608_; omega)
                have b3612_ : 0 ≤ Int32.toInt (i5z3597_ - i5z3597_ / (i3z3597_ / ((Mz3597_.1 124 35) - i6z3597_)) * (i3z3597_ / ((Mz3597_.1 124 35) - i6z3597_))) ∧ Int32.toInt (i5z3597_ - i5z3597_ / (i3z3597_ / ((Mz3597_.1 124 35) - i6z3597_)) * (i3z3597_ / ((Mz3597_.1 124 35) - i6z3597_))) ≤ 719 := (by have u0 := q3611_; have u1 := b3608_; omega)
                refine pw_blk hT 6 (S' := (75, [some (pvR 124), some (pvI n1), some (pvI n2), some (pvI (i3z3597_ / ((Mz3597_.1 124 35) - i6z3597_))), some (pvI i4z3597_), some (pvI (i5z3597_ - i5z3597_ / (i3z3597_ / ((Mz3597_.1 124 35) - i6z3597_)) * (i3z3597_ / ((Mz3597_.1 124 35) - i6z3597_)))), some (pvI i6z3597_), some (pvI (i5z3597_ / (i3z3597_ / ((Mz3597_.1 124 35) - i6z3597_)))), some (pvI 0)], [], Mz3597_)) rfl ⟨trivial, trivial, (fun z0 => by have u0 := b3608_; have u1 := (zi_eq (i3z3597_ / ((Mz3597_.1 124 35) - i6z3597_)) 0).mp z0; have u2 : (0 : Int32).toInt = 0 := (by decide); omega), trivial, trivial, trivial, trivial⟩ ?_
                have hlz3739_ : ∀ (nz3739_ : Nat) (i7z3739_ : Int32) (i8z3739_ : Int32), (0 ≤ Int32.toInt i7z3739_ ∧ Int32.toInt i7z3739_ ≤ 6) → (0 ≤ Int32.toInt i8z3739_ ∧ Int32.toInt i8z3739_ ≤ 7) → (Int32.toInt i7z3739_ < zbc i4z3597_ (7 - Int32.toInt i8z3739_).toNat) → (zhide ((8 - Int32.toInt i8z3739_).toNat < nz3739_)) → PW 49 d (75, [some (pvR 124), some (pvI n1), some (pvI n2), some (pvI (i3z3597_ / ((Mz3597_.1 124 35) - i6z3597_))), some (pvI i4z3597_), some (pvI (i5z3597_ - i5z3597_ / (i3z3597_ / ((Mz3597_.1 124 35) - i6z3597_)) * (i3z3597_ / ((Mz3597_.1 124 35) - i6z3597_)))), some (pvI i6z3597_), some (pvI i7z3739_), some (pvI i8z3739_)], [], Mz3597_) (fun r X => (∃ x : Int32, r = some (pvI x) ∧ (0 ≤ Int32.toInt x ∧ Int32.toInt x ≤ 1) ∧ (Int32.toInt x ≤ 0 ∨ Int32.toInt n2 < 5040)) ∧ pvOk X ∧ pvFr fp_X10_layOrder_124_x_x M X) := by
                  intro nz3739_
                  induction nz3739_ with
                  | zero => intro i7z3739_ i8z3739_ h7z3739_ h8z3739_ j0z3739_ hmz3739_; exact absurd (zshow hmz3739_) (Nat.not_lt_zero _)
                  | succ nz3739_ ihz3739_ =>
                    intro i7z3739_ i8z3739_ h7z3739_ h8z3739_ j0z3739_ hmz3739_
                    refine pw_blk hT 1 (S' := (76, [some (pvR 124), some (pvI n1), some (pvI n2), some (pvI (i3z3597_ / ((Mz3597_.1 124 35) - i6z3597_))), some (pvI i4z3597_), some (pvI (i5z3597_ - i5z3597_ / (i3z3597_ / ((Mz3597_.1 124 35) - i6z3597_)) * (i3z3597_ / ((Mz3597_.1 124 35) - i6z3597_)))), some (pvI i6z3597_), some (pvI i7z3739_), some (pvI i8z3739_)], [pvR 124], Mz3597_)) rfl ⟨trivial, trivial⟩ ?_
                    have b3740_ : 0 ≤ Int32.toInt i8z3739_ ∧ Int32.toInt i8z3739_ ≤ 6 := (by have z := zbc_in (by omega) j0z3739_; omega)
                    refine pw_blk hT 2 (S' := (80, [some (pvR 124), some (pvI n1), some (pvI n2), some (pvI (i3z3597_ / ((Mz3597_.1 124 35) - i6z3597_))), some (pvI i4z3597_), some (pvI (i5z3597_ - i5z3597_ / (i3z3597_ / ((Mz3597_.1 124 35) - i6z3597_)) * (i3z3597_ / ((Mz3597_.1 124 35) - i6z3597_)))), some (pvI i6z3597_), some (pvI i7z3739_), some (pvI i8z3739_)], [pvI i8z3739_, pvI i4z3597_, pvR 124], Mz3597_)) rfl ⟨trivial, trivial, trivial⟩ ?_
                    refine pw_callT hT (as := [pvR 124, pvI i4z3597_, pvI i8z3739_]) (lo1 := [some (pvR 124), some (pvI i4z3597_), some (pvI i8z3739_)]) (d1 := d) (rest := []) rfl rfl rfl rfl rfl (fun _ => rfl) (Nat.zero_le _) rfl rfl rfl (sf_X10_has_124_x_x Mz3597_ oz3597_ i4z3597_ i8z3739_ d) ?_
                    by_cases c3746_ : ((i4z3597_ >>> (i8z3739_ &&& 31)) &&& 1) = 1
                    · refine pw_eqI (if_pos c3746_) ?_
                      have b3747_ : 1 ≤ Int32.toInt ((i4z3597_ >>> (i8z3739_ &&& 31)) &&& 1) ∧ Int32.toInt ((i4z3597_ >>> (i8z3739_ &&& 31)) &&& 1) ≤ 1 := (by have u0 := (zbnd ((i4z3597_ >>> (i8z3739_ &&& 31)) &&& 1)); have u1 := (zi_eq _ _).mp c3746_; have u2 := (show 1 ≤ Int32.toInt 1 ∧ Int32.toInt 1 ≤ 1 from (by decide)); omega)
                      show PW 49 d (83, [some (pvR 124), some (pvI n1), some (pvI n2), some (pvI (i3z3597_ / ((Mz3597_.1 124 35) - i6z3597_))), some (pvI i4z3597_), some (pvI (i5z3597_ - i5z3597_ / (i3z3597_ / ((Mz3597_.1 124 35) - i6z3597_)) * (i3z3597_ / ((Mz3597_.1 124 35) - i6z3597_)))), some (pvI i6z3597_), some (pvI i7z3739_), some (pvI i8z3739_)], [pvI 1], Mz3597_) _
                      refine pw_if hT (c := 1 = 0) rfl rfl (fun c3748_ => absurd c3748_ (by decide)) (fun c3748_ => ?_)
                      refine pw_blk hT 1 (S' := (88, [some (pvR 124), some (pvI n1), some (pvI n2), some (pvI (i3z3597_ / ((Mz3597_.1 124 35) - i6z3597_))), some (pvI i4z3597_), some (pvI (i5z3597_ - i5z3597_ / (i3z3597_ / ((Mz3597_.1 124 35) - i6z3597_)) * (i3z3597_ / ((Mz3597_.1 124 35) - i6z3597_)))), some (pvI i6z3597_), some (pvI i7z3739_), some (pvI i8z3739_)], [pvI i7z3739_], Mz3597_)) rfl ⟨trivial, trivial⟩ ?_
                      refine pw_if hT (c := i7z3739_ ≤ 0) rfl rfl (fun c3749_ => ?_) (fun c3749_ => ?_)
                      · have b3750_ : 0 ≤ Int32.toInt i7z3739_ ∧ Int32.toInt i7z3739_ ≤ 0 := zr_le_l 0 c3749_ h7z3739_ (show 0 ≤ Int32.toInt 0 ∧ Int32.toInt 0 ≤ 0 from (by decide)) (by decide)
                        refine pw_blkw hT 5 (pc := 127) (lo := [some (pvR 124), some (pvI n1), some (pvI n2), some (pvI (i3z3597_ / ((Mz3597_.1 124 35) - i6z3597_))), some (pvI i4z3597_), some (pvI (i5z3597_ - i5z3597_ / (i3z3597_ / ((Mz3597_.1 124 35) - i6z3597_)) * (i3z3597_ / ((Mz3597_.1 124 35) - i6z3597_)))), some (pvI i6z3597_), some (pvI i7z3739_), some (pvI i8z3739_)]) (st := []) (M := pvu Mz3597_ 144 (Int32.toNatClampNeg i6z3597_) i8z3739_) rfl ⟨trivial, rfl, trivial, trivial, ⟨rfl, (zr_in (n := 7) b3602_ (by decide) (by decide))⟩, trivial⟩ (fun M3751_ e3752_ => ?_)
                        have o3753_ : pvOk M3751_ := pvok_u2 e3752_ oz3597_ rfl b3740_
                        have f3754_ : pvFr fp_X10_layOrder_124_x_x M M3751_ := pvfr_u e3752_ fz3597_ rfl
                        refine pw_blk hT 8 (S' := (138, [some (pvR 124), some (pvI n1), some (pvI n2), some (pvI (i3z3597_ / ((Mz3597_.1 124 35) - i6z3597_))), some (pvI (i4z3597_ &&& ((1 <<< (i8z3739_ &&& 31)) ^^^ (-1)))), some (pvI (i5z3597_ - i5z3597_ / (i3z3597_ / ((Mz3597_.1 124 35) - i6z3597_)) * (i3z3597_ / ((Mz3597_.1 124 35) - i6z3597_)))), some (pvI i6z3597_), some (pvI i7z3739_), some (pvI i8z3739_)], [], M3751_)) rfl ⟨trivial, trivial, trivial, trivial, trivial, trivial, trivial, trivial, trivial⟩ ?_
                        have q3755_ := zbc_clr (x := i4z3597_) (w := i8z3739_) h4z3597_ b3740_
                        have b3756_ : 0 ≤ Int32.toInt (i4z3597_ &&& ((1 <<< (i8z3739_ &&& 31)) ^^^ (-1))) ∧ Int32.toInt (i4z3597_ &&& ((1 <<< (i8z3739_ &&& 31)) ^^^ (-1))) ≤ 127 := q3755_.2
                        obtain ⟨q3758_, b3757_⟩ : (Int32.toInt (i6z3597_ + 1) = Int32.toInt i6z3597_ + 1) ∧ (1 ≤ Int32.toInt (i6z3597_ + 1) ∧ Int32.toInt (i6z3597_ + 1) ≤ 7) := zadd_k i6z3597_ 1 1 1 7 b3602_ (by decide) (by decide) (by decide) (by decide) (by decide)
                        refine pw_blk hT 2 (S' := (41, [some (pvR 124), some (pvI n1), some (pvI n2), some (pvI (i3z3597_ / ((Mz3597_.1 124 35) - i6z3597_))), some (pvI (i4z3597_ &&& ((1 <<< (i8z3739_ &&& 31)) ^^^ (-1)))), some (pvI (i5z3597_ - i5z3597_ / (i3z3597_ / ((Mz3597_.1 124 35) - i6z3597_)) * (i3z3597_ / ((Mz3597_.1 124 35) - i6z3597_)))), some (pvI (i6z3597_ + 1)), some (pvI i7z3739_), some (pvI i8z3739_)], [], M3751_)) rfl ⟨trivial, trivial, trivial⟩ ?_
                        have j3759_ : Int32.toInt (i3z3597_ / ((Mz3597_.1 124 35) - i6z3597_)) = zfc (Int32.toInt (M3751_.1 124 35) - Int32.toInt (i6z3597_ + 1)) := (q3607_.1.trans (congrArg zfc (by have y01 : Int32.toInt (M3751_.1 124 35) = Int32.toInt (Mz3597_.1 124 35) := congrArg Int32.toInt (pvu_n e3752_ 124 35 (Or.inl (by decide))); omega)))
                        have j3760_ : Int32.toInt (i5z3597_ - i5z3597_ / (i3z3597_ / ((Mz3597_.1 124 35) - i6z3597_)) * (i3z3597_ / ((Mz3597_.1 124 35) - i6z3597_))) < Int32.toInt (i3z3597_ / ((Mz3597_.1 124 35) - i6z3597_)) := (by omega)
                        have j3761_ : Int32.toInt (M3751_.1 124 35) - Int32.toInt (i6z3597_ + 1) ≤ zbc (i4z3597_ &&& ((1 <<< (i8z3739_ &&& 31)) ^^^ (-1))) 7 := (by have y01 : Int32.toInt (M3751_.1 124 35) = Int32.toInt (Mz3597_.1 124 35) := congrArg Int32.toInt (pvu_n e3752_ 124 35 (Or.inl (by decide))); have z := q3755_.1; omega)
                        exact ihz3597_ (i3z3597_ / ((Mz3597_.1 124 35) - i6z3597_)) (i4z3597_ &&& ((1 <<< (i8z3739_ &&& 31)) ^^^ (-1))) (i5z3597_ - i5z3597_ / (i3z3597_ / ((Mz3597_.1 124 35) - i6z3597_)) * (i3z3597_ / ((Mz3597_.1 124 35) - i6z3597_))) (i6z3597_ + 1) (some (pvI i7z3739_)) (some (pvI i8z3739_)) M3751_ o3753_ f3754_ (zr_wide b3608_ (by decide) (by decide)) b3756_ (zr_wide b3612_ (by decide) (by decide)) (zr_wide b3757_ (by decide) (by decide)) j3759_ j3760_ j3761_ (zhid (by have hm0 := zshow hmz3597_; have y01 : Int32.toInt (M3751_.1 124 35) = Int32.toInt (Mz3597_.1 124 35) := congrArg Int32.toInt (pvu_n e3752_ 124 35 (Or.inl (by decide))); omega))
                      · have b3762_ : 1 ≤ Int32.toInt i7z3739_ ∧ Int32.toInt i7z3739_ ≤ 6 := zr_nle_l 1 c3749_ h7z3739_ (show 0 ≤ Int32.toInt 0 ∧ Int32.toInt 0 ≤ 0 from (by decide)) (by decide)
                        refine pw_blk hT 4 (S' := (98, [some (pvR 124), some (pvI n1), some (pvI n2), some (pvI (i3z3597_ / ((Mz3597_.1 124 35) - i6z3597_))), some (pvI i4z3597_), some (pvI (i5z3597_ - i5z3597_ / (i3z3597_ / ((Mz3597_.1 124 35) - i6z3597_)) * (i3z3597_ / ((Mz3597_.1 124 35) - i6z3597_)))), some (pvI i6z3597_), some (pvI i7z3739_), some (pvI i8z3739_)], [pvI i8z3739_, pvI i4z3597_, pvR 124, pvI i7z3739_], Mz3597_)) rfl ⟨trivial, trivial, trivial, trivial, trivial⟩ ?_
                        refine pw_callT hT (as := [pvR 124, pvI i4z3597_, pvI i8z3739_]) (lo1 := [some (pvR 124), some (pvI i4z3597_), some (pvI i8z3739_)]) (d1 := d) (rest := [pvI i7z3739_]) rfl rfl rfl rfl rfl (fun _ => rfl) (Nat.zero_le _) rfl rfl rfl (sf_X10_has_124_x_x Mz3597_ oz3597_ i4z3597_ i8z3739_ d) ?_
                        refine pw_eqI (if_pos c3746_) ?_
                        show PW 49 d (101, [some (pvR 124), some (pvI n1), some (pvI n2), some (pvI (i3z3597_ / ((Mz3597_.1 124 35) - i6z3597_))), some (pvI i4z3597_), some (pvI (i5z3597_ - i5z3597_ / (i3z3597_ / ((Mz3597_.1 124 35) - i6z3597_)) * (i3z3597_ / ((Mz3597_.1 124 35) - i6z3597_)))), some (pvI i6z3597_), some (pvI i7z3739_), some (pvI i8z3739_)], [pvI 1, pvI i7z3739_], Mz3597_) _
                        refine pw_if hT (c := 1 = 0) rfl rfl (fun c3768_ => absurd c3768_ (by decide)) (fun c3768_ => ?_)
                        obtain ⟨q3770_, b3769_⟩ : (Int32.toInt (i7z3739_ - 1) = Int32.toInt i7z3739_ - 1) ∧ (0 ≤ Int32.toInt (i7z3739_ - 1) ∧ Int32.toInt (i7z3739_ - 1) ≤ 5) := zsub_k i7z3739_ 1 1 0 5 b3762_ (by decide) (by decide) (by decide) (by decide) (by decide)
                        obtain ⟨q3772_, b3771_⟩ : (Int32.toInt (i8z3739_ + 1) = Int32.toInt i8z3739_ + 1) ∧ (1 ≤ Int32.toInt (i8z3739_ + 1) ∧ Int32.toInt (i8z3739_ + 1) ≤ 7) := zadd_k i8z3739_ 1 1 1 7 b3740_ (by decide) (by decide) (by decide) (by decide) (by decide)
                        refine pw_blk hT 6 (S' := (75, [some (pvR 124), some (pvI n1), some (pvI n2), some (pvI (i3z3597_ / ((Mz3597_.1 124 35) - i6z3597_))), some (pvI i4z3597_), some (pvI (i5z3597_ - i5z3597_ / (i3z3597_ / ((Mz3597_.1 124 35) - i6z3597_)) * (i3z3597_ / ((Mz3597_.1 124 35) - i6z3597_)))), some (pvI i6z3597_), some (pvI (i7z3739_ - 1)), some (pvI (i8z3739_ + 1))], [], Mz3597_)) rfl ⟨trivial, trivial, trivial, trivial, trivial, trivial, trivial⟩ ?_
                        have j3773_ : Int32.toInt (i7z3739_ - 1) < zbc i4z3597_ (7 - Int32.toInt (i8z3739_ + 1)).toNat := (zbc_s (by omega) j0z3739_ (by omega) (by omega) (fun _ => by omega) (fun z => absurd c3746_ z))
                        exact ihz3739_ (i7z3739_ - 1) (i8z3739_ + 1) (zr_wide b3769_ (by decide) (by decide)) (zr_wide b3771_ (by decide) (by decide)) j3773_ (zhid (pvms_up (zshow hmz3739_) h8z3739_ q3772_ (by decide) (by decide)))
                    · refine pw_eqI (if_neg c3746_) ?_
                      show PW 49 d (83, [some (pvR 124), some (pvI n1), some (pvI n2), some (pvI (i3z3597_ / ((Mz3597_.1 124 35) - i6z3597_))), some (pvI i4z3597_), some (pvI (i5z3597_ - i5z3597_ / (i3z3597_ / ((Mz3597_.1 124 35) - i6z3597_)) * (i3z3597_ / ((Mz3597_.1 124 35) - i6z3597_)))), some (pvI i6z3597_), some (pvI i7z3739_), some (pvI i8z3739_)], [pvI 0], Mz3597_) _
                      refine pw_if hT (c := 0 = 0) rfl rfl (fun c3774_ => ?_) (fun c3774_ => absurd (by decide) c3774_)
                      refine pw_blk hT 4 (S' := (98, [some (pvR 124), some (pvI n1), some (pvI n2), some (pvI (i3z3597_ / ((Mz3597_.1 124 35) - i6z3597_))), some (pvI i4z3597_), some (pvI (i5z3597_ - i5z3597_ / (i3z3597_ / ((Mz3597_.1 124 35) - i6z3597_)) * (i3z3597_ / ((Mz3597_.1 124 35) - i6z3597_)))), some (pvI i6z3597_), some (pvI i7z3739_), some (pvI i8z3739_)], [pvI i8z3739_, pvI i4z3597_, pvR 124, pvI i7z3739_], Mz3597_)) rfl ⟨trivial, trivial, trivial, trivial, trivial⟩ ?_
                      refine pw_callT hT (as := [pvR 124, pvI i4z3597_, pvI i8z3739_]) (lo1 := [some (pvR 124), some (pvI i4z3597_), some (pvI i8z3739_)]) (d1 := d) (rest := [pvI i7z3739_]) rfl rfl rfl rfl rfl (fun _ => rfl) (Nat.zero_le _) rfl rfl rfl (sf_X10_has_124_x_x Mz3597_ oz3597_ i4z3597_ i8z3739_ d) ?_
                      refine pw_eqI (if_neg c3746_) ?_
                      show PW 49 d (101, [some (pvR 124), some (pvI n1), some (pvI n2), some (pvI (i3z3597_ / ((Mz3597_.1 124 35) - i6z3597_))), some (pvI i4z3597_), some (pvI (i5z3597_ - i5z3597_ / (i3z3597_ / ((Mz3597_.1 124 35) - i6z3597_)) * (i3z3597_ / ((Mz3597_.1 124 35) - i6z3597_)))), some (pvI i6z3597_), some (pvI i7z3739_), some (pvI i8z3739_)], [pvI 0, pvI i7z3739_], Mz3597_) _
                      refine pw_if hT (c := 0 = 0) rfl rfl (fun c3780_ => ?_) (fun c3780_ => absurd (by decide) c3780_)
                      obtain ⟨q3782_, b3781_⟩ : (Int32.toInt (i7z3739_ - 0) = Int32.toInt i7z3739_ - 0) ∧ (0 ≤ Int32.toInt (i7z3739_ - 0) ∧ Int32.toInt (i7z3739_ - 0) ≤ 6) := zsub_k i7z3739_ 0 0 0 6 h7z3739_ (by decide) (by decide) (by decide) (by decide) (by decide)
                      obtain ⟨q3784_, b3783_⟩ : (Int32.toInt (i8z3739_ + 1) = Int32.toInt i8z3739_ + 1) ∧ (1 ≤ Int32.toInt (i8z3739_ + 1) ∧ Int32.toInt (i8z3739_ + 1) ≤ 7) := zadd_k i8z3739_ 1 1 1 7 b3740_ (by decide) (by decide) (by decide) (by decide) (by decide)
                      refine pw_blk hT 5 (S' := (75, [some (pvR 124), some (pvI n1), some (pvI n2), some (pvI (i3z3597_ / ((Mz3597_.1 124 35) - i6z3597_))), some (pvI i4z3597_), some (pvI (i5z3597_ - i5z3597_ / (i3z3597_ / ((Mz3597_.1 124 35) - i6z3597_)) * (i3z3597_ / ((Mz3597_.1 124 35) - i6z3597_)))), some (pvI i6z3597_), some (pvI (i7z3739_ - 0)), some (pvI (i8z3739_ + 1))], [], Mz3597_)) rfl ⟨trivial, trivial, trivial, trivial, trivial, trivial⟩ ?_
                      have j3785_ : Int32.toInt (i7z3739_ - 0) < zbc i4z3597_ (7 - Int32.toInt (i8z3739_ + 1)).toNat := (zbc_s (by omega) j0z3739_ (by omega) (by omega) (fun z => absurd z c3746_) (fun _ => by omega))
                      exact ihz3739_ (i7z3739_ - 0) (i8z3739_ + 1) b3781_ (zr_wide b3783_ (by decide) (by decide)) j3785_ (zhid (pvms_up (zshow hmz3739_) h8z3739_ q3784_ (by decide) (by decide)))
                have u3786_ : Int32.toInt 0 = 0 := by decide
                have j3787_ : Int32.toInt (i5z3597_ / (i3z3597_ / ((Mz3597_.1 124 35) - i6z3597_))) < zbc i4z3597_ (7 - Int32.toInt 0).toNat := (zbc_0 (by omega))
                exact hlz3739_ _ (i5z3597_ / (i3z3597_ / ((Mz3597_.1 124 35) - i6z3597_))) 0 b3610_ (zr_wide (show 0 ≤ Int32.toInt 0 ∧ Int32.toInt 0 ≤ 0 from (by decide)) (by decide) (by decide)) j3787_ (zhid (Nat.lt_succ_self _))
          have u3788_ : Int32.toInt 0 = 0 := by decide
          have j3789_ : Int32.toInt i3z2848_ = zfc (Int32.toInt (M.1 124 35) - Int32.toInt 0) := (q2855_.trans (congrArg zfc (by omega)))
          have j3790_ : Int32.toInt n2 < Int32.toInt i3z2848_ := (by omega)
          have j3791_ : Int32.toInt (M.1 124 35) - Int32.toInt 0 ≤ zbc n1 7 := (by omega)
          exact hlz3597_ _ i3z2848_ n1 n2 0 none none M hok pvfr_0 h3z2848_ hn1 (zr_wide b2853_ (by decide) (by decide)) (zr_wide (show 0 ≤ Int32.toInt 0 ∧ Int32.toInt 0 ≤ 0 from (by decide)) (by decide) (by decide)) j3789_ j3790_ j3791_ (zhid (Nat.lt_succ_self _))
        · have b3792_ : 1 ≤ Int32.toInt n2 ∧ Int32.toInt n2 ≤ 5040 := zr_nlt_l 1 c2852_ hn2 h3z2848_ (by decide)
          have d3793_ : Int32.toInt n2 ≥ Int32.toInt i3z2848_ := Int.not_lt.mp ((not_congr (zi_lt _ _)).mp c2852_)
          refine pw_blk hT 1 (S' := (31, [some (pvR 124), some (pvI n1), some (pvI n2), some (pvI i3z2848_), some (pvI i4z2848_), none, none, none, none], [pvI 0], M)) rfl ⟨trivial, trivial⟩ ?_
          exact pw_ret hT rfl (r := some (pvI 0)) (M' := M) ⟨Or.inl rfl, rfl, rfl⟩ ⟨⟨_, rfl, (zr_wide (show 0 ≤ Int32.toInt 0 ∧ Int32.toInt 0 ≤ 0 from (by decide)) (by decide) (by decide)), (by have u9 : Int32.toInt 0 = 0 := (by decide); have u8 : Int32.toInt (-1) = -1 := (by decide); omega)⟩, hok, pvfr_0⟩
      · have b3794_ : 2 ≤ Int32.toInt (M.1 124 35) ∧ Int32.toInt (M.1 124 35) ≤ 7 := zr_nlt_l 2 c2850_ b2849_ h4z2848_ (by decide)
        have b3795_ : 2 ≤ Int32.toInt i4z2848_ ∧ Int32.toInt i4z2848_ ≤ 7 := zr_nlt_r 7 c2850_ h4z2848_ b3794_ (by decide)
        have d3796_ : Int32.toInt (M.1 124 35) ≥ Int32.toInt i4z2848_ := Int.not_lt.mp ((not_congr (zi_lt _ _)).mp c2850_)
        have b3797_ : 0 ≤ Int32.toInt (i3z2848_ * i4z2848_) ∧ Int32.toInt (i3z2848_ * i4z2848_) ≤ 35280 := (by have u := zmul_b i3z2848_ i4z2848_ 5040 7 (by have u0 := h3z2848_; omega) (by have u0 := b3795_; omega) (by decide); omega)
        refine pw_blk hT 4 (S' := (19, [some (pvR 124), some (pvI n1), some (pvI n2), some (pvI (i3z2848_ * i4z2848_)), some (pvI i4z2848_), none, none, none, none], [], M)) rfl ⟨trivial, trivial, trivial, trivial, trivial⟩ ?_
        have q3798_ := zlo_1 j0z2848_ (by omega) (by omega)
        have b3799_ : 1 ≤ Int32.toInt (i3z2848_ * i4z2848_) ∧ Int32.toInt (i3z2848_ * i4z2848_) ≤ 5040 := q3798_.2
        obtain ⟨q3801_, b3800_⟩ : (Int32.toInt (i4z2848_ + 1) = Int32.toInt i4z2848_ + 1) ∧ (3 ≤ Int32.toInt (i4z2848_ + 1) ∧ Int32.toInt (i4z2848_ + 1) ≤ 8) := zadd_k i4z2848_ 1 1 3 8 b3795_ (by decide) (by decide) (by decide) (by decide) (by decide)
        refine pw_blk hT 2 (S' := (5, [some (pvR 124), some (pvI n1), some (pvI n2), some (pvI (i3z2848_ * i4z2848_)), some (pvI (i4z2848_ + 1)), none, none, none, none], [], M)) rfl ⟨trivial, trivial, trivial⟩ ?_
        have j3802_ : Int32.toInt (i3z2848_ * i4z2848_) = zfc (Int32.toInt (i4z2848_ + 1) - 1) := (q3798_.1.trans (congrArg zfc (by omega)))
        have j3803_ : Int32.toInt (i4z2848_ + 1) ≤ Int32.toInt (M.1 124 35) + 1 ∨ Int32.toInt (i4z2848_ + 1) = 2 := (by omega)
        exact ihz2848_ (i3z2848_ * i4z2848_) (i4z2848_ + 1) b3799_ (zr_wide b3800_ (by decide) (by decide)) j3802_ j3803_ (zhid (pvms_up (zshow hmz2848_) h4z2848_ q3801_ (by decide) (by decide)))
  have u3804_ : Int32.toInt 1 = 1 := by decide
  have u3805_ : Int32.toInt 2 = 2 := by decide
  have j3806_ : Int32.toInt 1 = zfc (Int32.toInt 2 - 1) := (by decide)
  have j3807_ : Int32.toInt 2 ≤ Int32.toInt (M.1 124 35) + 1 ∨ Int32.toInt 2 = 2 := (by omega)
  exact hlz2848_ _ 1 2 (zr_wide (show 1 ≤ Int32.toInt 1 ∧ Int32.toInt 1 ≤ 1 from (by decide)) (by decide) (by decide)) (zr_wide (show 2 ≤ Int32.toInt 2 ∧ Int32.toInt 2 ≤ 2 from (by decide)) (by decide) (by decide)) j3806_ j3807_ (zhid (Nat.lt_succ_self _))
def fpL_X10_best_124_x : List (Nat × Nat × Nat) := [(0, 124, 33), (0, 124, 36), (0, 141, 0), (0, 142, 0), (0, 143, 0), (0, 144, 0), (0, 146, 0)]
def fp_X10_best_124_x (q k : Nat) : Bool := pvfp fpL_X10_best_124_x q k
theorem fp_X10_best_124_x_fp_X10_costOfPath_124_x (a b : Nat) (h : fp_X10_costOfPath_124_x a b = true) : fp_X10_best_124_x a b = true := pvfp_sub (l1 := fpL_X10_costOfPath_124_x) (l2 := fpL_X10_best_124_x) (by decide) a b h
theorem fp_X10_best_124_x_fp_X10_layOrder_124_x_x (a b : Nat) (h : fp_X10_layOrder_124_x_x a b = true) : fp_X10_best_124_x a b = true := pvfp_sub (l1 := fpL_X10_layOrder_124_x_x) (l2 := fpL_X10_best_124_x) (by decide) a b h
theorem fp_X10_best_124_x_fp_X10_layRain_124 (a b : Nat) (h : fp_X10_layRain_124 a b = true) : fp_X10_best_124_x a b = true := pvfp_sub (l1 := fpL_X10_layRain_124) (l2 := fpL_X10_best_124_x) (by decide) a b h
set_option maxHeartbeats 4000000 in
set_option maxRecDepth 10000 in
theorem sf_X10_best_124_x (M : pvM) (hok : pvOk M) (n1 : Int32) (hz : pvWF M) (d : Nat) : PW 10 d (0, [some (pvR 124), some (pvI n1), none, none, none, none, none], [], M) (fun r X => (∃ x : Int32, r = some (pvI x) ∧ (-9) ≤ Int32.toInt x ∧ Int32.toInt x ≤ 9000000) ∧ pvOk X ∧ pvFr fp_X10_best_124_x M X) := by
  have hT : pvdom 10 = pvD_10 := rfl
  refine pw_blk hT 4 (S' := (4, [some (pvR 124), some (pvI n1), none, none, none, none, none], [pvI 4, pvI (-1), pvI n1, pvR 124], M)) rfl ⟨trivial, trivial, trivial, trivial, trivial⟩ ?_
  refine pw_callT hT (as := [pvR 124, pvI n1, pvI (-1), pvI 4]) (lo1 := [some (pvR 124), some (pvI n1), some (pvI (-1)), some (pvI 4)]) (d1 := d) (rest := []) rfl rfl rfl rfl rfl (fun _ => rfl) (Nat.zero_le _) rfl rfl rfl (sf_X10_in_124_x_x_x M hok n1 (-1) 4 d) ?_
  by_cases c6_ : n1 < (-1)
  · refine pw_eqI (if_pos c6_) ?_
    have b7_ : (-2147483648) ≤ Int32.toInt n1 ∧ Int32.toInt n1 ≤ (-2) := zr_lt_l (-2) c6_ (zbnd n1) (show (-1) ≤ Int32.toInt (-1) ∧ Int32.toInt (-1) ≤ (-1) from (by decide)) (by decide)
    show PW 10 d (7, [some (pvR 124), some (pvI n1), none, none, none, none, none], [pvI 0], M) _
    refine pw_ifn hT (c := 0 = 0) rfl rfl (fun c8_ => absurd (by decide) c8_) (fun c8_ => ?_)
    refine pw_blk hT 1 (S' := (11, [some (pvR 124), some (pvI n1), none, none, none, none, none], [pvI (-1)], M)) rfl ⟨trivial, trivial⟩ ?_
    exact pw_ret hT rfl (r := some (pvI (-1))) (M' := M) ⟨rfl, rfl⟩ ⟨⟨_, rfl, (zr_wide (show (-1) ≤ Int32.toInt (-1) ∧ Int32.toInt (-1) ≤ (-1) from (by decide)) (by decide) (by decide))⟩, hok, pvfr_0⟩
  · refine pw_eqI (if_neg c6_) ?_
    have b9_ : (-1) ≤ Int32.toInt n1 ∧ Int32.toInt n1 ≤ 2147483647 := zr_nlt_l (-1) c6_ (zbnd n1) (show (-1) ≤ Int32.toInt (-1) ∧ Int32.toInt (-1) ≤ (-1) from (by decide)) (by decide)
    by_cases c10_ : 4 < n1
    · refine pw_eqI (if_pos c10_) ?_
      have b11_ : 5 ≤ Int32.toInt n1 ∧ Int32.toInt n1 ≤ 2147483647 := zr_lt_r 5 c10_ b9_ (show 4 ≤ Int32.toInt 4 ∧ Int32.toInt 4 ≤ 4 from (by decide)) (by decide)
      show PW 10 d (7, [some (pvR 124), some (pvI n1), none, none, none, none, none], [pvI 0], M) _
      refine pw_ifn hT (c := 0 = 0) rfl rfl (fun c12_ => absurd (by decide) c12_) (fun c12_ => ?_)
      refine pw_blk hT 1 (S' := (11, [some (pvR 124), some (pvI n1), none, none, none, none, none], [pvI (-1)], M)) rfl ⟨trivial, trivial⟩ ?_
      exact pw_ret hT rfl (r := some (pvI (-1))) (M' := M) ⟨rfl, rfl⟩ ⟨⟨_, rfl, (zr_wide (show (-1) ≤ Int32.toInt (-1) ∧ Int32.toInt (-1) ≤ (-1) from (by decide)) (by decide) (by decide))⟩, hok, pvfr_0⟩
    · refine pw_eqI (if_neg c10_) ?_
      have b13_ : (-1) ≤ Int32.toInt n1 ∧ Int32.toInt n1 ≤ 4 := zr_nlt_r 4 c10_ b9_ (show 4 ≤ Int32.toInt 4 ∧ Int32.toInt 4 ≤ 4 from (by decide)) (by decide)
      show PW 10 d (7, [some (pvR 124), some (pvI n1), none, none, none, none, none], [pvI 1], M) _
      refine pw_ifn hT (c := 1 = 0) rfl rfl (fun c14_ => ?_) (fun c14_ => absurd c14_ (by decide))
      refine pw_blk hT 1 (S' := (13, [some (pvR 124), some (pvI n1), none, none, none, none, none], [pvR 124], M)) rfl ⟨trivial, trivial⟩ ?_
      refine pw_callGp hT (as := [pvR 124]) (lo1 := [some (pvR 124), none, none]) (d1 := d) (rest := []) rfl rfl rfl rfl rfl (fun _ => rfl) (Nat.zero_le _) rfl rfl rfl (sf_X10_openSet_124 M hok d) (fun x15_ b17_ => ?_)
      refine pw_blkw hT 4 (pc := 22) (lo := [some (pvR 124), some (pvI n1), some (pvI x15_), none, none, none, none]) (st := []) (M := pvu M 124 35 0) rfl ⟨trivial, trivial, trivial, rfl, trivial⟩ (fun M20_ e21_ => ?_)
      have o22_ : pvOk M20_ := pvok_u2 e21_ hok rfl (zr_wide (show 0 ≤ Int32.toInt 0 ∧ Int32.toInt 0 ≤ 0 from (by decide)) (by decide) (by decide))
      have f23_ : pvFr fp_X10_best_124_x M M20_ := pvfr_u e21_ pvfr_0 rfl
      refine pw_blk hT 2 (S' := (24, [some (pvR 124), some (pvI n1), some (pvI x15_), some (pvI 0), none, none, none], [], M20_)) rfl ⟨trivial, trivial, trivial⟩ ?_
      have hlz2923_ : ∀ (nz2923_ : Nat) (i3z2923_ : Int32) (Mz2923_ : pvM), (pvOk Mz2923_) → (pvFr fp_X10_best_124_x M Mz2923_) → (0 ≤ Int32.toInt i3z2923_ ∧ Int32.toInt i3z2923_ ≤ 7) → (Int32.toInt (Mz2923_.1 124 35) ≤ Int32.toInt i3z2923_) → (Int32.toInt (Mz2923_.1 124 35) ≤ zlc x15_ (Int32.toNatClampNeg i3z2923_)) → (zhide ((8 - Int32.toInt i3z2923_).toNat < nz2923_)) → PW 10 d (24, [some (pvR 124), some (pvI n1), some (pvI x15_), some (pvI i3z2923_), none, none, none], [], Mz2923_) (fun r X => (∃ x : Int32, r = some (pvI x) ∧ (-9) ≤ Int32.toInt x ∧ Int32.toInt x ≤ 9000000) ∧ pvOk X ∧ pvFr fp_X10_best_124_x M X) := by
        intro nz2923_
        induction nz2923_ with
        | zero => intro i3z2923_ Mz2923_ oz2923_ fz2923_ h3z2923_ j0z2923_ j1z2923_ hmz2923_; exact absurd (zshow hmz2923_) (Nat.not_lt_zero _)
        | succ nz2923_ ihz2923_ =>
          intro i3z2923_ Mz2923_ oz2923_ fz2923_ h3z2923_ j0z2923_ j1z2923_ hmz2923_
          have b2924_ : 0 ≤ Int32.toInt (Mz2923_.1 124 35) ∧ Int32.toInt (Mz2923_.1 124 35) ≤ 7 := pvok_r oz2923_ 124 35 rfl
          have b2925_ : 0 ≤ Int32.toInt (Mz2923_.1 124 0) ∧ Int32.toInt (Mz2923_.1 124 0) ≤ 7 := pvok_r oz2923_ 124 0 rfl
          refine pw_blk hT 3 (S' := (29, [some (pvR 124), some (pvI n1), some (pvI x15_), some (pvI i3z2923_), none, none, none], [pvI (Mz2923_.1 124 0), pvI i3z2923_], Mz2923_)) rfl ⟨trivial, trivial, rfl, trivial⟩ ?_
          refine pw_ic hT (c := (Mz2923_.1 124 0) ≤ i3z2923_) rfl rfl (fun c2926_ => ?_) (fun c2926_ => ?_)
          · have d2927_ : Int32.toInt (Mz2923_.1 124 0) ≤ Int32.toInt i3z2923_ := (zi_le _ _).mp c2926_
            refine pw_blk hT 3 (S' := (66, [some (pvR 124), some (pvI n1), some (pvI x15_), some (pvI i3z2923_), none, none, none], [pvI 5, pvI (Mz2923_.1 124 35)], Mz2923_)) rfl ⟨trivial, rfl, trivial, trivial⟩ ?_
            refine pw_ic hT (c := (Mz2923_.1 124 35) ≤ 5) rfl rfl (fun c2928_ => ?_) (fun c2928_ => ?_)
            · have b2929_ : 0 ≤ Int32.toInt (Mz2923_.1 124 35) ∧ Int32.toInt (Mz2923_.1 124 35) ≤ 5 := zr_le_l 5 c2928_ b2924_ (show 5 ≤ Int32.toInt 5 ∧ Int32.toInt 5 ≤ 5 from (by decide)) (by decide)
              refine pw_blk hT 1 (S' := (73, [some (pvR 124), some (pvI n1), some (pvI x15_), some (pvI i3z2923_), none, none, none], [pvR 124], Mz2923_)) rfl ⟨trivial, trivial⟩ ?_
              refine pw_callV hT (as := [pvR 124]) (lo1 := [some (pvR 124), none, none]) (d1 := d) (rest := []) rfl rfl rfl rfl rfl (fun _ => rfl) (Nat.zero_le _) rfl rfl rfl (sf_X10_layRain_124 Mz2923_ oz2923_ (pvWF_fr (L := fpL_X10_best_124_x) rfl fz2923_ hz) d) (fun M2931_ o2933_ g2934_ => ?_)
              have f2935_ : pvFr fp_X10_best_124_x M M2931_ := pvfr_t g2934_ fz2923_ fp_X10_best_124_x_fp_X10_layRain_124
              refine pw_blk hT 4 (S' := (81, [some (pvR 124), some (pvI n1), some (pvI x15_), some (pvI (-1)), some (pvI 0), none, none], [], M2931_)) rfl ⟨trivial, trivial, trivial, trivial, trivial⟩ ?_
              have e2936_ : (M2931_.1 124 35) = (Mz2923_.1 124 35) := (g2934_ 124 35 rfl)
              have b2937_ : 0 ≤ Int32.toInt (M2931_.1 124 35) ∧ Int32.toInt (M2931_.1 124 35) ≤ 5 := (by rw [e2936_]; exact b2929_)
              have d2938_ : Int32.toInt (M2931_.1 124 35) = Int32.toInt (Mz2923_.1 124 35) := congrArg Int32.toInt e2936_
              have hlz3456_ : ∀ (nz3456_ : Nat) (i3z3456_ : Int32) (i4z3456_ : Int32) (v5z3456_ : Option pvV) (v6z3456_ : Option pvV) (Mz3456_ : pvM), (pvOk Mz3456_) → (pvFr fp_X10_best_124_x M Mz3456_) → (Mz3456_.1 124 35 = M2931_.1 124 35) → ((-1) ≤ Int32.toInt i3z3456_ ∧ Int32.toInt i3z3456_ ≤ 9000000) → (0 ≤ Int32.toInt i4z3456_ ∧ Int32.toInt i4z3456_ ≤ 5040) → (Int32.toInt (Mz3456_.1 124 35) ≤ zbc x15_ 7) → (zhide ((5041 - Int32.toInt i4z3456_).toNat < nz3456_)) → PW 10 d (81, [some (pvR 124), some (pvI n1), some (pvI x15_), some (pvI i3z3456_), some (pvI i4z3456_), v5z3456_, v6z3456_], [], Mz3456_) (fun r X => (∃ x : Int32, r = some (pvI x) ∧ (-9) ≤ Int32.toInt x ∧ Int32.toInt x ≤ 9000000) ∧ pvOk X ∧ pvFr fp_X10_best_124_x M X) := by
                intro nz3456_
                induction nz3456_ with
                | zero => intro i3z3456_ i4z3456_ v5z3456_ v6z3456_ Mz3456_ oz3456_ fz3456_ k124_35z3456_ h3z3456_ h4z3456_ j0z3456_ hmz3456_; exact absurd (zshow hmz3456_) (Nat.not_lt_zero _)
                | succ nz3456_ ihz3456_ =>
                  intro i3z3456_ i4z3456_ v5z3456_ v6z3456_ Mz3456_ oz3456_ fz3456_ k124_35z3456_ h3z3456_ h4z3456_ j0z3456_ hmz3456_
                  have e3457_ : (Mz3456_.1 124 35) = (M2931_.1 124 35) := (k124_35z3456_)
                  have b3458_ : 0 ≤ Int32.toInt (Mz3456_.1 124 35) ∧ Int32.toInt (Mz3456_.1 124 35) ≤ 5 := (by rw [e3457_]; exact b2937_)
                  have d3459_ : Int32.toInt (Mz3456_.1 124 35) = Int32.toInt (M2931_.1 124 35) := congrArg Int32.toInt e3457_
                  refine pw_blk hT 3 (S' := (85, [some (pvR 124), some (pvI n1), some (pvI x15_), some (pvI i3z3456_), some (pvI i4z3456_), v5z3456_, v6z3456_], [pvI i4z3456_, pvI x15_, pvR 124], Mz3456_)) rfl ⟨trivial, trivial, trivial, trivial⟩ ?_
                  refine pw_callG hT (as := [pvR 124, pvI x15_, pvI i4z3456_]) (lo1 := [some (pvR 124), some (pvI x15_), some (pvI i4z3456_), none, none, none, none, none, none]) (d1 := d) (rest := []) rfl rfl rfl rfl rfl (fun _ => rfl) (Nat.zero_le _) rfl rfl rfl (sf_X10_layOrder_124_x_x Mz3456_ oz3456_ x15_ i4z3456_ b17_ h4z3456_ (by have y01 : Int32.toInt (Mz3456_.1 124 35) = Int32.toInt (M2931_.1 124 35) := congrArg Int32.toInt (k124_35z3456_); omega) d) (fun x3460_ M3461_ b3462_ o3463_ g3464_ => ?_)
                  have f3465_ : pvFr fp_X10_best_124_x M M3461_ := pvfr_t g3464_ fz3456_ fp_X10_best_124_x_fp_X10_layOrder_124_x_x
                  obtain ⟨b3466_, d3467_⟩ := b3462_
                  refine pw_if hT (c := x3460_ = 0) rfl rfl (fun c3468_ => ?_) (fun c3468_ => ?_)
                  · have b3469_ : 0 ≤ Int32.toInt x3460_ ∧ Int32.toInt x3460_ ≤ 0 := (by have u0 := b3466_; have u1 := (zi_eq _ _).mp c3468_; have u2 := (show 0 ≤ Int32.toInt 0 ∧ Int32.toInt 0 ≤ 0 from (by decide)); omega)
                    refine pw_blk hT 1 (S' := (151, [some (pvR 124), some (pvI n1), some (pvI x15_), some (pvI i3z3456_), some (pvI i4z3456_), v5z3456_, v6z3456_], [pvI n1], M3461_)) rfl ⟨trivial, trivial⟩ ?_
                    refine pw_if hT (c := 0 ≤ n1) rfl rfl (fun c3470_ => ?_) (fun c3470_ => ?_)
                    · have b3471_ : 0 ≤ Int32.toInt n1 ∧ Int32.toInt n1 ≤ 4 := zr_le_r 0 c3470_ b13_ (show 0 ≤ Int32.toInt 0 ∧ Int32.toInt 0 ≤ 0 from (by decide)) (by decide)
                      have e3472_ : (M3461_.1 124 35) = (Mz3456_.1 124 35) := (g3464_ 124 35 rfl)
                      have b3473_ : 0 ≤ Int32.toInt (M3461_.1 124 35) ∧ Int32.toInt (M3461_.1 124 35) ≤ 5 := (by rw [e3472_]; exact b3458_)
                      have d3474_ : Int32.toInt (M3461_.1 124 35) = Int32.toInt (Mz3456_.1 124 35) := congrArg Int32.toInt e3472_
                      refine pw_blk hT 3 (S' := (163, [some (pvR 124), some (pvI n1), some (pvI x15_), some (pvI i3z3456_), some (pvI i4z3456_), v5z3456_, v6z3456_], [pvI (M3461_.1 124 35), pvI n1], M3461_)) rfl ⟨trivial, trivial, rfl, trivial⟩ ?_
                      refine pw_ic hT (c := (M3461_.1 124 35) ≤ n1) rfl rfl (fun c3475_ => ?_) (fun c3475_ => ?_)
                      · have b3476_ : 0 ≤ Int32.toInt (M3461_.1 124 35) ∧ Int32.toInt (M3461_.1 124 35) ≤ 4 := zr_le_l 4 c3475_ b3473_ b3471_ (by decide)
                        have d3477_ : Int32.toInt (M3461_.1 124 35) ≤ Int32.toInt n1 := (zi_le _ _).mp c3475_
                        refine pw_blk hT 1 (S' := (177, [some (pvR 124), some (pvI n1), some (pvI x15_), some (pvI i3z3456_), some (pvI i4z3456_), v5z3456_, v6z3456_], [pvI (-5)], M3461_)) rfl ⟨trivial, trivial⟩ ?_
                        exact pw_ret hT rfl (r := some (pvI (-5))) (M' := M3461_) ⟨rfl, rfl⟩ ⟨⟨_, rfl, (zr_wide (show (-5) ≤ Int32.toInt (-5) ∧ Int32.toInt (-5) ≤ (-5) from (by decide)) (by decide) (by decide))⟩, o3463_, f3465_⟩
                      · have b3478_ : 1 ≤ Int32.toInt (M3461_.1 124 35) ∧ Int32.toInt (M3461_.1 124 35) ≤ 5 := zr_nle_l 1 c3475_ b3473_ b3471_ (by decide)
                        have d3479_ : Int32.toInt (M3461_.1 124 35) > Int32.toInt n1 := Int.not_le.mp ((not_congr (zi_le _ _)).mp c3475_)
                        have b3480_ : 0 ≤ Int32.toInt (M3461_.1 146 (Int32.toNatClampNeg n1)) ∧ Int32.toInt (M3461_.1 146 (Int32.toNatClampNeg n1)) ≤ 6 := pvok_r o3463_ 146 (Int32.toNatClampNeg n1) rfl
                        refine pw_blk hT 5 (S' := (177, [some (pvR 124), some (pvI n1), some (pvI x15_), some (pvI i3z3456_), some (pvI i4z3456_), v5z3456_, v6z3456_], [pvI (M3461_.1 146 (Int32.toNatClampNeg n1))], M3461_)) rfl ⟨trivial, rfl, trivial, ⟨rfl, (zr_in (n := 7) b3471_ (by decide) (by decide))⟩, trivial, trivial⟩ ?_
                        exact pw_ret hT rfl (r := some (pvI (M3461_.1 146 (Int32.toNatClampNeg n1)))) (M' := M3461_) ⟨rfl, rfl⟩ ⟨⟨_, rfl, (zr_wide b3480_ (by decide) (by decide))⟩, o3463_, f3465_⟩
                    · have b3481_ : (-1) ≤ Int32.toInt n1 ∧ Int32.toInt n1 ≤ (-1) := zr_nle_r (-1) c3470_ b13_ (show 0 ≤ Int32.toInt 0 ∧ Int32.toInt 0 ≤ 0 from (by decide)) (by decide)
                      refine pw_blk hT 2 (S' := (177, [some (pvR 124), some (pvI n1), some (pvI x15_), some (pvI i3z3456_), some (pvI i4z3456_), v5z3456_, v6z3456_], [pvI i3z3456_], M3461_)) rfl ⟨trivial, trivial, trivial⟩ ?_
                      exact pw_ret hT rfl (r := some (pvI i3z3456_)) (M' := M3461_) ⟨rfl, rfl⟩ ⟨⟨_, rfl, (zr_wide h3z3456_ (by decide) (by decide))⟩, o3463_, f3465_⟩
                  · have b3482_ : 1 ≤ Int32.toInt x3460_ ∧ Int32.toInt x3460_ ≤ 1 := (by have u0 := b3466_; have u1 := (not_congr (zi_eq _ _)).mp c3468_; have u2 := (show 0 ≤ Int32.toInt 0 ∧ Int32.toInt 0 ≤ 0 from (by decide)); omega)
                    refine pw_blk hT 2 (S' := (93, [some (pvR 124), some (pvI n1), some (pvI x15_), some (pvI i3z3456_), some (pvI i4z3456_), v5z3456_, v6z3456_], [pvI 0, pvR 124], M3461_)) rfl ⟨trivial, trivial, trivial⟩ ?_
                    refine pw_callG hT (as := [pvR 124, pvI 0]) (lo1 := [some (pvR 124), some (pvI 0), none]) (d1 := d) (rest := []) rfl rfl rfl rfl rfl (fun _ => rfl) (Nat.zero_le _) rfl rfl rfl (sf_X10_costOfPath_124_x M3461_ o3463_ 0 (zr_wide (show 0 ≤ Int32.toInt 0 ∧ Int32.toInt 0 ≤ 0 from (by decide)) (by decide) (by decide)) d) (fun x3483_ M3484_ b3485_ o3486_ g3487_ => ?_)
                    have f3488_ : pvFr fp_X10_best_124_x M M3484_ := pvfr_t g3487_ f3465_ fp_X10_best_124_x_fp_X10_costOfPath_124_x
                    refine pw_blk hT 2 (S' := (99, [some (pvR 124), some (pvI n1), some (pvI x15_), some (pvI i3z3456_), some (pvI i4z3456_), some (pvI x3483_), v6z3456_], [pvI i3z3456_], M3484_)) rfl ⟨trivial, trivial, trivial⟩ ?_
                    refine pw_if hT (c := i3z3456_ < 0) rfl rfl (fun c3489_ => ?_) (fun c3489_ => ?_)
                    · have b3490_ : (-1) ≤ Int32.toInt i3z3456_ ∧ Int32.toInt i3z3456_ ≤ (-1) := zr_lt_l (-1) c3489_ h3z3456_ (show 0 ≤ Int32.toInt 0 ∧ Int32.toInt 0 ≤ 0 from (by decide)) (by decide)
                      refine pw_blk hT 4 (S' := (117, [some (pvR 124), some (pvI n1), some (pvI x15_), some (pvI x3483_), some (pvI i4z3456_), some (pvI x3483_), some (pvI 0)], [], M3484_)) rfl ⟨trivial, trivial, trivial, trivial, trivial⟩ ?_
                      have e3491_ : (M3484_.1 124 35) = (Mz3456_.1 124 35) := ((g3487_ 124 35 rfl).trans (g3464_ 124 35 rfl))
                      have b3492_ : 0 ≤ Int32.toInt (M3484_.1 124 35) ∧ Int32.toInt (M3484_.1 124 35) ≤ 5 := (by rw [e3491_]; exact b3458_)
                      have d3493_ : Int32.toInt (M3484_.1 124 35) = Int32.toInt (Mz3456_.1 124 35) := congrArg Int32.toInt e3491_
                      have hlz3542_ : ∀ (nz3542_ : Nat) (i6z3542_ : Int32) (Mz3542_ : pvM), (pvOk Mz3542_) → (pvFr fp_X10_best_124_x M Mz3542_) → (Mz3542_.1 124 35 = M3484_.1 124 35) → (0 ≤ Int32.toInt i6z3542_ ∧ Int32.toInt i6z3542_ ≤ 7) → (zhide ((8 - Int32.toInt i6z3542_).toNat < nz3542_)) → PW 10 d (117, [some (pvR 124), some (pvI n1), some (pvI x15_), some (pvI x3483_), some (pvI i4z3456_), some (pvI x3483_), some (pvI i6z3542_)], [], Mz3542_) (fun r X => (∃ x : Int32, r = some (pvI x) ∧ (-9) ≤ Int32.toInt x ∧ Int32.toInt x ≤ 9000000) ∧ pvOk X ∧ pvFr fp_X10_best_124_x M X) := by
                        intro nz3542_
                        induction nz3542_ with
                        | zero => intro i6z3542_ Mz3542_ oz3542_ fz3542_ k124_35z3542_ h6z3542_ hmz3542_; exact absurd (zshow hmz3542_) (Nat.not_lt_zero _)
                        | succ nz3542_ ihz3542_ =>
                          intro i6z3542_ Mz3542_ oz3542_ fz3542_ k124_35z3542_ h6z3542_ hmz3542_
                          refine pw_blk hT 2 (S' := (121, [some (pvR 124), some (pvI n1), some (pvI x15_), some (pvI x3483_), some (pvI i4z3456_), some (pvI x3483_), some (pvI i6z3542_)], [pvI 7, pvI i6z3542_], Mz3542_)) rfl ⟨trivial, trivial, trivial⟩ ?_
                          refine pw_ic hT (c := 7 ≤ i6z3542_) rfl rfl (fun c3543_ => ?_) (fun c3543_ => ?_)
                          · have b3544_ : 7 ≤ Int32.toInt i6z3542_ ∧ Int32.toInt i6z3542_ ≤ 7 := zr_le_r 7 c3543_ h6z3542_ (show 7 ≤ Int32.toInt 7 ∧ Int32.toInt 7 ≤ 7 from (by decide)) (by decide)
                            obtain ⟨q3546_, b3545_⟩ : (Int32.toInt (i4z3456_ + 1) = Int32.toInt i4z3456_ + 1) ∧ (1 ≤ Int32.toInt (i4z3456_ + 1) ∧ Int32.toInt (i4z3456_ + 1) ≤ 5041) := zadd_k i4z3456_ 1 1 1 5041 h4z3456_ (by decide) (by decide) (by decide) (by decide) (by decide)
                            refine pw_blk hT 2 (S' := (81, [some (pvR 124), some (pvI n1), some (pvI x15_), some (pvI x3483_), some (pvI (i4z3456_ + 1)), some (pvI x3483_), some (pvI i6z3542_)], [], Mz3542_)) rfl ⟨trivial, trivial, trivial⟩ ?_
                            have j3547_ : Int32.toInt (Mz3542_.1 124 35) ≤ zbc x15_ 7 := (by have y01 : Int32.toInt (Mz3542_.1 124 35) = Int32.toInt (M3484_.1 124 35) := congrArg Int32.toInt (k124_35z3542_); have y02 : Int32.toInt (M3484_.1 124 35) = Int32.toInt (Mz3456_.1 124 35) := congrArg Int32.toInt ((g3487_ 124 35 rfl).trans (g3464_ 124 35 rfl)); omega)
                            exact ihz3456_ x3483_ (i4z3456_ + 1) (some (pvI x3483_)) (some (pvI i6z3542_)) Mz3542_ oz3542_ fz3542_ ((((k124_35z3542_).trans (g3487_ 124 35 rfl)).trans (g3464_ 124 35 rfl)).trans (k124_35z3456_)) (zr_wide b3485_ (by decide) (by decide)) (by have u0 := b3545_; omega) j3547_ (zhid (by have hm0 := zshow hmz3456_; have y01 : Int32.toInt (Mz3542_.1 124 35) = Int32.toInt (M3484_.1 124 35) := congrArg Int32.toInt (k124_35z3542_); have y02 : Int32.toInt (M3484_.1 124 35) = Int32.toInt (Mz3456_.1 124 35) := congrArg Int32.toInt ((g3487_ 124 35 rfl).trans (g3464_ 124 35 rfl)); omega))
                          · have b3548_ : 0 ≤ Int32.toInt i6z3542_ ∧ Int32.toInt i6z3542_ ≤ 6 := zr_nle_r 6 c3543_ h6z3542_ (show 7 ≤ Int32.toInt 7 ∧ Int32.toInt 7 ≤ 7 from (by decide)) (by decide)
                            have b3549_ : 0 ≤ Int32.toInt (Mz3542_.1 144 (Int32.toNatClampNeg i6z3542_)) ∧ Int32.toInt (Mz3542_.1 144 (Int32.toNatClampNeg i6z3542_)) ≤ 6 := pvok_r oz3542_ 144 (Int32.toNatClampNeg i6z3542_) rfl
                            refine pw_blkw hT 8 (pc := 138) (lo := [some (pvR 124), some (pvI n1), some (pvI x15_), some (pvI x3483_), some (pvI i4z3456_), some (pvI x3483_), some (pvI i6z3542_)]) (st := []) (M := pvu Mz3542_ 146 (Int32.toNatClampNeg i6z3542_) (Mz3542_.1 144 (Int32.toNatClampNeg i6z3542_))) rfl ⟨trivial, rfl, trivial, trivial, rfl, trivial, ⟨rfl, (zr_in (n := 7) b3548_ (by decide) (by decide))⟩, ⟨rfl, (zr_in (n := 7) b3548_ (by decide) (by decide))⟩, trivial⟩ (fun M3550_ e3551_ => ?_)
                            have o3552_ : pvOk M3550_ := pvok_u2 e3551_ oz3542_ rfl b3549_
                            have f3553_ : pvFr fp_X10_best_124_x M M3550_ := pvfr_u e3551_ fz3542_ rfl
                            obtain ⟨q3555_, b3554_⟩ : (Int32.toInt (i6z3542_ + 1) = Int32.toInt i6z3542_ + 1) ∧ (1 ≤ Int32.toInt (i6z3542_ + 1) ∧ Int32.toInt (i6z3542_ + 1) ≤ 7) := zadd_k i6z3542_ 1 1 1 7 b3548_ (by decide) (by decide) (by decide) (by decide) (by decide)
                            refine pw_blk hT 2 (S' := (117, [some (pvR 124), some (pvI n1), some (pvI x15_), some (pvI x3483_), some (pvI i4z3456_), some (pvI x3483_), some (pvI (i6z3542_ + 1))], [], M3550_)) rfl ⟨trivial, trivial, trivial⟩ ?_
                            exact ihz3542_ (i6z3542_ + 1) M3550_ o3552_ f3553_ ((pvu_n e3551_ 124 35 (Or.inl (by decide))).trans (k124_35z3542_)) (zr_wide b3554_ (by decide) (by decide)) (zhid (pvms_up (zshow hmz3542_) h6z3542_ q3555_ (by decide) (by decide)))
                      exact hlz3542_ _ 0 M3484_ o3486_ f3488_ rfl (zr_wide (show 0 ≤ Int32.toInt 0 ∧ Int32.toInt 0 ≤ 0 from (by decide)) (by decide) (by decide)) (zhid (Nat.lt_succ_self _))
                    · have b3556_ : 0 ≤ Int32.toInt i3z3456_ ∧ Int32.toInt i3z3456_ ≤ 9000000 := zr_nlt_l 0 c3489_ h3z3456_ (show 0 ≤ Int32.toInt 0 ∧ Int32.toInt 0 ≤ 0 from (by decide)) (by decide)
                      refine pw_blk hT 2 (S' := (105, [some (pvR 124), some (pvI n1), some (pvI x15_), some (pvI i3z3456_), some (pvI i4z3456_), some (pvI x3483_), v6z3456_], [pvI i3z3456_, pvI x3483_], M3484_)) rfl ⟨trivial, trivial, trivial⟩ ?_
                      refine pw_ic hT (c := x3483_ < i3z3456_) rfl rfl (fun c3557_ => ?_) (fun c3557_ => ?_)
                      · have b3558_ : 0 ≤ Int32.toInt x3483_ ∧ Int32.toInt x3483_ ≤ 8999999 := zr_lt_l 8999999 c3557_ b3485_ b3556_ (by decide)
                        have b3559_ : 1 ≤ Int32.toInt i3z3456_ ∧ Int32.toInt i3z3456_ ≤ 9000000 := zr_lt_r 1 c3557_ b3556_ b3558_ (by decide)
                        have d3560_ : Int32.toInt x3483_ < Int32.toInt i3z3456_ := (zi_lt _ _).mp c3557_
                        refine pw_blk hT 4 (S' := (117, [some (pvR 124), some (pvI n1), some (pvI x15_), some (pvI x3483_), some (pvI i4z3456_), some (pvI x3483_), some (pvI 0)], [], M3484_)) rfl ⟨trivial, trivial, trivial, trivial, trivial⟩ ?_
                        have e3561_ : (M3484_.1 124 35) = (Mz3456_.1 124 35) := ((g3487_ 124 35 rfl).trans (g3464_ 124 35 rfl))
                        have b3562_ : 0 ≤ Int32.toInt (M3484_.1 124 35) ∧ Int32.toInt (M3484_.1 124 35) ≤ 5 := (by rw [e3561_]; exact b3458_)
                        have d3563_ : Int32.toInt (M3484_.1 124 35) = Int32.toInt (Mz3456_.1 124 35) := congrArg Int32.toInt e3561_
                        have hlz3612_ : ∀ (nz3612_ : Nat) (i6z3612_ : Int32) (Mz3612_ : pvM), (pvOk Mz3612_) → (pvFr fp_X10_best_124_x M Mz3612_) → (Mz3612_.1 124 35 = M3484_.1 124 35) → (0 ≤ Int32.toInt i6z3612_ ∧ Int32.toInt i6z3612_ ≤ 7) → (zhide ((8 - Int32.toInt i6z3612_).toNat < nz3612_)) → PW 10 d (117, [some (pvR 124), some (pvI n1), some (pvI x15_), some (pvI x3483_), some (pvI i4z3456_), some (pvI x3483_), some (pvI i6z3612_)], [], Mz3612_) (fun r X => (∃ x : Int32, r = some (pvI x) ∧ (-9) ≤ Int32.toInt x ∧ Int32.toInt x ≤ 9000000) ∧ pvOk X ∧ pvFr fp_X10_best_124_x M X) := by
                          intro nz3612_
                          induction nz3612_ with
                          | zero => intro i6z3612_ Mz3612_ oz3612_ fz3612_ k124_35z3612_ h6z3612_ hmz3612_; exact absurd (zshow hmz3612_) (Nat.not_lt_zero _)
                          | succ nz3612_ ihz3612_ =>
                            intro i6z3612_ Mz3612_ oz3612_ fz3612_ k124_35z3612_ h6z3612_ hmz3612_
                            refine pw_blk hT 2 (S' := (121, [some (pvR 124), some (pvI n1), some (pvI x15_), some (pvI x3483_), some (pvI i4z3456_), some (pvI x3483_), some (pvI i6z3612_)], [pvI 7, pvI i6z3612_], Mz3612_)) rfl ⟨trivial, trivial, trivial⟩ ?_
                            refine pw_ic hT (c := 7 ≤ i6z3612_) rfl rfl (fun c3613_ => ?_) (fun c3613_ => ?_)
                            · have b3614_ : 7 ≤ Int32.toInt i6z3612_ ∧ Int32.toInt i6z3612_ ≤ 7 := zr_le_r 7 c3613_ h6z3612_ (show 7 ≤ Int32.toInt 7 ∧ Int32.toInt 7 ≤ 7 from (by decide)) (by decide)
                              obtain ⟨q3616_, b3615_⟩ : (Int32.toInt (i4z3456_ + 1) = Int32.toInt i4z3456_ + 1) ∧ (1 ≤ Int32.toInt (i4z3456_ + 1) ∧ Int32.toInt (i4z3456_ + 1) ≤ 5041) := zadd_k i4z3456_ 1 1 1 5041 h4z3456_ (by decide) (by decide) (by decide) (by decide) (by decide)
                              refine pw_blk hT 2 (S' := (81, [some (pvR 124), some (pvI n1), some (pvI x15_), some (pvI x3483_), some (pvI (i4z3456_ + 1)), some (pvI x3483_), some (pvI i6z3612_)], [], Mz3612_)) rfl ⟨trivial, trivial, trivial⟩ ?_
                              have j3617_ : Int32.toInt (Mz3612_.1 124 35) ≤ zbc x15_ 7 := (by have y01 : Int32.toInt (Mz3612_.1 124 35) = Int32.toInt (M3484_.1 124 35) := congrArg Int32.toInt (k124_35z3612_); have y02 : Int32.toInt (M3484_.1 124 35) = Int32.toInt (Mz3456_.1 124 35) := congrArg Int32.toInt ((g3487_ 124 35 rfl).trans (g3464_ 124 35 rfl)); omega)
                              exact ihz3456_ x3483_ (i4z3456_ + 1) (some (pvI x3483_)) (some (pvI i6z3612_)) Mz3612_ oz3612_ fz3612_ ((((k124_35z3612_).trans (g3487_ 124 35 rfl)).trans (g3464_ 124 35 rfl)).trans (k124_35z3456_)) (zr_wide b3558_ (by decide) (by decide)) (by have u0 := b3615_; omega) j3617_ (zhid (by have hm0 := zshow hmz3456_; have y01 : Int32.toInt (Mz3612_.1 124 35) = Int32.toInt (M3484_.1 124 35) := congrArg Int32.toInt (k124_35z3612_); have y02 : Int32.toInt (M3484_.1 124 35) = Int32.toInt (Mz3456_.1 124 35) := congrArg Int32.toInt ((g3487_ 124 35 rfl).trans (g3464_ 124 35 rfl)); omega))
                            · have b3618_ : 0 ≤ Int32.toInt i6z3612_ ∧ Int32.toInt i6z3612_ ≤ 6 := zr_nle_r 6 c3613_ h6z3612_ (show 7 ≤ Int32.toInt 7 ∧ Int32.toInt 7 ≤ 7 from (by decide)) (by decide)
                              have b3619_ : 0 ≤ Int32.toInt (Mz3612_.1 144 (Int32.toNatClampNeg i6z3612_)) ∧ Int32.toInt (Mz3612_.1 144 (Int32.toNatClampNeg i6z3612_)) ≤ 6 := pvok_r oz3612_ 144 (Int32.toNatClampNeg i6z3612_) rfl
                              refine pw_blkw hT 8 (pc := 138) (lo := [some (pvR 124), some (pvI n1), some (pvI x15_), some (pvI x3483_), some (pvI i4z3456_), some (pvI x3483_), some (pvI i6z3612_)]) (st := []) (M := pvu Mz3612_ 146 (Int32.toNatClampNeg i6z3612_) (Mz3612_.1 144 (Int32.toNatClampNeg i6z3612_))) rfl ⟨trivial, rfl, trivial, trivial, rfl, trivial, ⟨rfl, (zr_in (n := 7) b3618_ (by decide) (by decide))⟩, ⟨rfl, (zr_in (n := 7) b3618_ (by decide) (by decide))⟩, trivial⟩ (fun M3620_ e3621_ => ?_)
                              have o3622_ : pvOk M3620_ := pvok_u2 e3621_ oz3612_ rfl b3619_
                              have f3623_ : pvFr fp_X10_best_124_x M M3620_ := pvfr_u e3621_ fz3612_ rfl
                              obtain ⟨q3625_, b3624_⟩ : (Int32.toInt (i6z3612_ + 1) = Int32.toInt i6z3612_ + 1) ∧ (1 ≤ Int32.toInt (i6z3612_ + 1) ∧ Int32.toInt (i6z3612_ + 1) ≤ 7) := zadd_k i6z3612_ 1 1 1 7 b3618_ (by decide) (by decide) (by decide) (by decide) (by decide)
                              refine pw_blk hT 2 (S' := (117, [some (pvR 124), some (pvI n1), some (pvI x15_), some (pvI x3483_), some (pvI i4z3456_), some (pvI x3483_), some (pvI (i6z3612_ + 1))], [], M3620_)) rfl ⟨trivial, trivial, trivial⟩ ?_
                              exact ihz3612_ (i6z3612_ + 1) M3620_ o3622_ f3623_ ((pvu_n e3621_ 124 35 (Or.inl (by decide))).trans (k124_35z3612_)) (zr_wide b3624_ (by decide) (by decide)) (zhid (pvms_up (zshow hmz3612_) h6z3612_ q3625_ (by decide) (by decide)))
                        exact hlz3612_ _ 0 M3484_ o3486_ f3488_ rfl (zr_wide (show 0 ≤ Int32.toInt 0 ∧ Int32.toInt 0 ≤ 0 from (by decide)) (by decide) (by decide)) (zhid (Nat.lt_succ_self _))
                      · have d3626_ : Int32.toInt x3483_ ≥ Int32.toInt i3z3456_ := Int.not_lt.mp ((not_congr (zi_lt _ _)).mp c3557_)
                        obtain ⟨q3628_, b3627_⟩ : (Int32.toInt (i4z3456_ + 1) = Int32.toInt i4z3456_ + 1) ∧ (1 ≤ Int32.toInt (i4z3456_ + 1) ∧ Int32.toInt (i4z3456_ + 1) ≤ 5041) := zadd_k i4z3456_ 1 1 1 5041 h4z3456_ (by decide) (by decide) (by decide) (by decide) (by decide)
                        refine pw_blk hT 3 (S' := (81, [some (pvR 124), some (pvI n1), some (pvI x15_), some (pvI i3z3456_), some (pvI (i4z3456_ + 1)), some (pvI x3483_), v6z3456_], [], M3484_)) rfl ⟨trivial, trivial, trivial, trivial⟩ ?_
                        have j3629_ : Int32.toInt (M3484_.1 124 35) ≤ zbc x15_ 7 := (by have y01 : Int32.toInt (M3484_.1 124 35) = Int32.toInt (Mz3456_.1 124 35) := congrArg Int32.toInt ((g3487_ 124 35 rfl).trans (g3464_ 124 35 rfl)); omega)
                        exact ihz3456_ i3z3456_ (i4z3456_ + 1) (some (pvI x3483_)) v6z3456_ M3484_ o3486_ f3488_ (((g3487_ 124 35 rfl).trans (g3464_ 124 35 rfl)).trans (k124_35z3456_)) (zr_wide b3556_ (by decide) (by decide)) (by have u0 := b3627_; omega) j3629_ (zhid (by have hm0 := zshow hmz3456_; have y01 : Int32.toInt (M3484_.1 124 35) = Int32.toInt (Mz3456_.1 124 35) := congrArg Int32.toInt ((g3487_ 124 35 rfl).trans (g3464_ 124 35 rfl)); omega))
              have u3630_ : Int32.toInt (-1) = (-1) := by decide
              have u3631_ : Int32.toInt 0 = 0 := by decide
              have j3632_ : Int32.toInt (M2931_.1 124 35) ≤ zbc x15_ 7 := (by have z0 := j1z2923_; have z1 := ztn i3z2923_ (by omega); have z := zlc_le (x := x15_) b17_ (k := Int32.toNatClampNeg i3z2923_) (by omega); have y01 : Int32.toInt (M2931_.1 124 35) = Int32.toInt (Mz2923_.1 124 35) := congrArg Int32.toInt (g2934_ 124 35 rfl); omega)
              exact hlz3456_ _ (-1) 0 none none M2931_ o2933_ f2935_ rfl (zr_wide (show (-1) ≤ Int32.toInt (-1) ∧ Int32.toInt (-1) ≤ (-1) from (by decide)) (by decide) (by decide)) (zr_wide (show 0 ≤ Int32.toInt 0 ∧ Int32.toInt 0 ≤ 0 from (by decide)) (by decide) (by decide)) j3632_ (zhid (Nat.lt_succ_self _))
            · have b3633_ : 6 ≤ Int32.toInt (Mz2923_.1 124 35) ∧ Int32.toInt (Mz2923_.1 124 35) ≤ 7 := zr_nle_l 6 c2928_ b2924_ (show 5 ≤ Int32.toInt 5 ∧ Int32.toInt 5 ≤ 5 from (by decide)) (by decide)
              refine pw_blk hT 1 (S' := (71, [some (pvR 124), some (pvI n1), some (pvI x15_), some (pvI i3z2923_), none, none, none], [pvI (-9)], Mz2923_)) rfl ⟨trivial, trivial⟩ ?_
              exact pw_ret hT rfl (r := some (pvI (-9))) (M' := Mz2923_) ⟨rfl, rfl⟩ ⟨⟨_, rfl, (zr_wide (show (-9) ≤ Int32.toInt (-9) ∧ Int32.toInt (-9) ≤ (-9) from (by decide)) (by decide) (by decide))⟩, oz2923_, fz2923_⟩
          · have b3634_ : 1 ≤ Int32.toInt (Mz2923_.1 124 0) ∧ Int32.toInt (Mz2923_.1 124 0) ≤ 7 := zr_nle_l 1 c2926_ b2925_ h3z2923_ (by decide)
            have b3635_ : 0 ≤ Int32.toInt i3z2923_ ∧ Int32.toInt i3z2923_ ≤ 6 := zr_nle_r 6 c2926_ h3z2923_ b3634_ (by decide)
            have d3636_ : Int32.toInt (Mz2923_.1 124 0) > Int32.toInt i3z2923_ := Int.not_le.mp ((not_congr (zi_le _ _)).mp c2926_)
            refine pw_blk hT 6 (S' := (40, [some (pvR 124), some (pvI n1), some (pvI x15_), some (pvI i3z2923_), none, none, none], [pvI i3z2923_, pvI x15_, pvR 124, pvI (Mz2923_.1 124 35), pvR 124], Mz2923_)) rfl ⟨trivial, trivial, rfl, trivial, trivial, trivial, trivial⟩ ?_
            refine pw_callT hT (as := [pvR 124, pvI x15_, pvI i3z2923_]) (lo1 := [some (pvR 124), some (pvI x15_), some (pvI i3z2923_)]) (d1 := d) (rest := [pvI (Mz2923_.1 124 35), pvR 124]) rfl rfl rfl rfl rfl (fun _ => rfl) (Nat.zero_le _) rfl rfl rfl (sf_X10_has_124_x_x Mz2923_ oz2923_ x15_ i3z2923_ d) ?_
            by_cases c3642_ : ((x15_ >>> (i3z2923_ &&& 31)) &&& 1) = 1
            · refine pw_eqI (if_pos c3642_) ?_
              have b3643_ : 1 ≤ Int32.toInt ((x15_ >>> (i3z2923_ &&& 31)) &&& 1) ∧ Int32.toInt ((x15_ >>> (i3z2923_ &&& 31)) &&& 1) ≤ 1 := (by have u0 := (zbnd ((x15_ >>> (i3z2923_ &&& 31)) &&& 1)); have u1 := (zi_eq _ _).mp c3642_; have u2 := (show 1 ≤ Int32.toInt 1 ∧ Int32.toInt 1 ≤ 1 from (by decide)); omega)
              show PW 10 d (43, [some (pvR 124), some (pvI n1), some (pvI x15_), some (pvI i3z2923_), none, none, none], [pvI 1, pvI (Mz2923_.1 124 35), pvR 124], Mz2923_) _
              refine pw_if hT (c := 1 = 0) rfl rfl (fun c3644_ => absurd c3644_ (by decide)) (fun c3644_ => ?_)
              obtain ⟨q3646_, b3645_⟩ : (Int32.toInt ((Mz2923_.1 124 35) + 1) = Int32.toInt (Mz2923_.1 124 35) + 1) ∧ (1 ≤ Int32.toInt ((Mz2923_.1 124 35) + 1) ∧ Int32.toInt ((Mz2923_.1 124 35) + 1) ≤ 8) := zadd_k (Mz2923_.1 124 35) 1 1 1 8 b2924_ (by decide) (by decide) (by decide) (by decide) (by decide)
              refine pw_blkw hT 4 (pc := 55) (lo := [some (pvR 124), some (pvI n1), some (pvI x15_), some (pvI i3z2923_), none, none, none]) (st := []) (M := pvu Mz2923_ 124 35 ((Mz2923_.1 124 35) + 1)) rfl ⟨trivial, trivial, trivial, rfl, trivial⟩ (fun M3647_ e3648_ => ?_)
              have o3649_ : pvOk M3647_ := pvok_u2 e3648_ oz2923_ rfl (by have u0 := b3645_; omega)
              have f3650_ : pvFr fp_X10_best_124_x M M3647_ := pvfr_u e3648_ fz2923_ rfl
              obtain ⟨q3652_, b3651_⟩ : (Int32.toInt (i3z2923_ + 1) = Int32.toInt i3z2923_ + 1) ∧ (1 ≤ Int32.toInt (i3z2923_ + 1) ∧ Int32.toInt (i3z2923_ + 1) ≤ 7) := zadd_k i3z2923_ 1 1 1 7 b3635_ (by decide) (by decide) (by decide) (by decide) (by decide)
              refine pw_blk hT 2 (S' := (24, [some (pvR 124), some (pvI n1), some (pvI x15_), some (pvI (i3z2923_ + 1)), none, none, none], [], M3647_)) rfl ⟨trivial, trivial, trivial⟩ ?_
              have j3653_ : Int32.toInt (M3647_.1 124 35) ≤ Int32.toInt (i3z2923_ + 1) := by have y01 : Int32.toInt (M3647_.1 124 35) = Int32.toInt ((Mz2923_.1 124 35) + 1) := congrArg Int32.toInt (pvu_s e3648_); omega
              have j3654_ : Int32.toInt (M3647_.1 124 35) ≤ zlc x15_ (Int32.toNatClampNeg (i3z2923_ + 1)) := (zlc_s j1z2923_ (by omega) (by omega) (fun _ => by have y01 : Int32.toInt (M3647_.1 124 35) = Int32.toInt ((Mz2923_.1 124 35) + 1) := congrArg Int32.toInt (pvu_s e3648_); omega) (fun z => absurd c3642_ z))
              exact ihz2923_ (i3z2923_ + 1) M3647_ o3649_ f3650_ (zr_wide b3651_ (by decide) (by decide)) j3653_ j3654_ (zhid (by have hm0 := zshow hmz2923_; have y01 : Int32.toInt (M3647_.1 124 35) = Int32.toInt ((Mz2923_.1 124 35) + 1) := congrArg Int32.toInt (pvu_s e3648_); omega))
            · refine pw_eqI (if_neg c3642_) ?_
              show PW 10 d (43, [some (pvR 124), some (pvI n1), some (pvI x15_), some (pvI i3z2923_), none, none, none], [pvI 0, pvI (Mz2923_.1 124 35), pvR 124], Mz2923_) _
              refine pw_if hT (c := 0 = 0) rfl rfl (fun c3655_ => ?_) (fun c3655_ => absurd (by decide) c3655_)
              obtain ⟨q3657_, b3656_⟩ : (Int32.toInt ((Mz2923_.1 124 35) + 0) = Int32.toInt (Mz2923_.1 124 35) + 0) ∧ (0 ≤ Int32.toInt ((Mz2923_.1 124 35) + 0) ∧ Int32.toInt ((Mz2923_.1 124 35) + 0) ≤ 7) := zadd_k (Mz2923_.1 124 35) 0 0 0 7 b2924_ (by decide) (by decide) (by decide) (by decide) (by decide)
              refine pw_blkw hT 3 (pc := 55) (lo := [some (pvR 124), some (pvI n1), some (pvI x15_), some (pvI i3z2923_), none, none, none]) (st := []) (M := pvu Mz2923_ 124 35 ((Mz2923_.1 124 35) + 0)) rfl ⟨trivial, trivial, rfl, trivial⟩ (fun M3658_ e3659_ => ?_)
              have o3660_ : pvOk M3658_ := pvok_u2 e3659_ oz2923_ rfl b3656_
              have f3661_ : pvFr fp_X10_best_124_x M M3658_ := pvfr_u e3659_ fz2923_ rfl
              obtain ⟨q3663_, b3662_⟩ : (Int32.toInt (i3z2923_ + 1) = Int32.toInt i3z2923_ + 1) ∧ (1 ≤ Int32.toInt (i3z2923_ + 1) ∧ Int32.toInt (i3z2923_ + 1) ≤ 7) := zadd_k i3z2923_ 1 1 1 7 b3635_ (by decide) (by decide) (by decide) (by decide) (by decide)
              refine pw_blk hT 2 (S' := (24, [some (pvR 124), some (pvI n1), some (pvI x15_), some (pvI (i3z2923_ + 1)), none, none, none], [], M3658_)) rfl ⟨trivial, trivial, trivial⟩ ?_
              have j3664_ : Int32.toInt (M3658_.1 124 35) ≤ Int32.toInt (i3z2923_ + 1) := by have y01 : Int32.toInt (M3658_.1 124 35) = Int32.toInt ((Mz2923_.1 124 35) + 0) := congrArg Int32.toInt (pvu_s e3659_); omega
              have j3665_ : Int32.toInt (M3658_.1 124 35) ≤ zlc x15_ (Int32.toNatClampNeg (i3z2923_ + 1)) := (zlc_s j1z2923_ (by omega) (by omega) (fun z => absurd z c3642_) (fun _ => by have y01 : Int32.toInt (M3658_.1 124 35) = Int32.toInt ((Mz2923_.1 124 35) + 0) := congrArg Int32.toInt (pvu_s e3659_); omega))
              exact ihz2923_ (i3z2923_ + 1) M3658_ o3660_ f3661_ (zr_wide b3662_ (by decide) (by decide)) j3664_ j3665_ (zhid (by have hm0 := zshow hmz2923_; have y01 : Int32.toInt (M3658_.1 124 35) = Int32.toInt ((Mz2923_.1 124 35) + 0) := congrArg Int32.toInt (pvu_s e3659_); omega))
      have u3666_ : Int32.toInt 0 = 0 := by decide
      have j3667_ : Int32.toInt (M20_.1 124 35) ≤ Int32.toInt 0 := by have y01 : Int32.toInt (M20_.1 124 35) = Int32.toInt 0 := congrArg Int32.toInt (pvu_s e21_); have y03 : Int32.toInt 0 = 0 := (by decide); omega
      have j3668_ : Int32.toInt (M20_.1 124 35) ≤ zlc x15_ (Int32.toNatClampNeg 0) := (by have y01 : Int32.toInt (M20_.1 124 35) = Int32.toInt 0 := congrArg Int32.toInt (pvu_s e21_); have y03 : Int32.toInt 0 = 0 := (by decide); show _ ≤ (0 : Int); omega)
      exact hlz2923_ _ 0 M20_ o22_ f23_ (zr_wide (show 0 ≤ Int32.toInt 0 ∧ Int32.toInt 0 ≤ 0 from (by decide)) (by decide) (by decide)) j3667_ j3668_ (zhid (Nat.lt_succ_self _))
set_option maxHeartbeats 4000000 in
set_option maxRecDepth 10000 in
theorem sf_X10_peek_124 (M : pvM) (hok : pvOk M) (d : Nat) : PW 64 d (0, [some (pvR 124)], [], M) (fun r X => r = some (pvI ((if (M.1 124 16) ≤ (M.1 124 17) then (-1) else (M.1 132 (Int32.toNatClampNeg (M.1 124 17)))))) ∧ X = M) := by
  have hT : pvdom 64 = pvD_64 := rfl
  have b1_ : 0 ≤ Int32.toInt (M.1 124 17) ∧ Int32.toInt (M.1 124 17) ≤ 100 := pvok_r hok 124 17 rfl
  have b2_ : 0 ≤ Int32.toInt (M.1 124 16) ∧ Int32.toInt (M.1 124 16) ≤ 100 := pvok_r hok 124 16 rfl
  refine pw_blk hT 4 (S' := (8, [some (pvR 124)], [pvI (M.1 124 16), pvI (M.1 124 17)], M)) rfl ⟨trivial, rfl, trivial, rfl, trivial⟩ ?_
  refine pw_ic hT (c := (M.1 124 16) ≤ (M.1 124 17)) rfl rfl (fun c3_ => ?_) (fun c3_ => ?_)
  · have d4_ : Int32.toInt (M.1 124 16) ≤ Int32.toInt (M.1 124 17) := (zi_le _ _).mp c3_
    refine pw_blk hT 1 (S' := (24, [some (pvR 124)], [pvI (-1)], M)) rfl ⟨trivial, trivial⟩ ?_
    exact pw_ret hT rfl (r := some (pvI (-1))) (M' := M) ⟨rfl, rfl⟩ ⟨(by rw [if_pos c3_]), rfl⟩
  · have b5_ : 1 ≤ Int32.toInt (M.1 124 16) ∧ Int32.toInt (M.1 124 16) ≤ 100 := zr_nle_l 1 c3_ b2_ b1_ (by decide)
    have b6_ : 0 ≤ Int32.toInt (M.1 124 17) ∧ Int32.toInt (M.1 124 17) ≤ 99 := zr_nle_r 99 c3_ b1_ b5_ (by decide)
    have d7_ : Int32.toInt (M.1 124 16) > Int32.toInt (M.1 124 17) := Int.not_le.mp ((not_congr (zi_le _ _)).mp c3_)
    have b8_ : 0 ≤ Int32.toInt (M.1 132 (Int32.toNatClampNeg (M.1 124 17))) ∧ Int32.toInt (M.1 132 (Int32.toNatClampNeg (M.1 124 17))) ≤ 127 := pvok_r hok 132 (Int32.toNatClampNeg (M.1 124 17)) rfl
    refine pw_blk hT 6 (S' := (24, [some (pvR 124)], [pvI (M.1 132 (Int32.toNatClampNeg (M.1 124 17)))], M)) rfl ⟨trivial, rfl, trivial, rfl, ⟨rfl, (zr_in (n := 100) b6_ (by decide) (by decide))⟩, trivial, trivial⟩ ?_
    exact pw_ret hT rfl (r := some (pvI (M.1 132 (Int32.toNatClampNeg (M.1 124 17))))) (M' := M) ⟨rfl, rfl⟩ ⟨(by rw [if_neg c3_]), rfl⟩
set_option maxHeartbeats 4000000 in
set_option maxRecDepth 10000 in
theorem sf_X10_isDigit_124 (M : pvM) (hok : pvOk M) (d : Nat) : PW 37 d (0, [some (pvR 124)], [], M) (fun r X => r = some (pvI ((if (M.1 124 16) ≤ (M.1 124 17) then 0 else (if (M.1 132 (Int32.toNatClampNeg (M.1 124 17))) < 48 then 0 else (if 57 < (M.1 132 (Int32.toNatClampNeg (M.1 124 17))) then 0 else 1))))) ∧ X = M) := by
  have hT : pvdom 37 = pvD_37 := rfl
  refine pw_blk hT 2 (S' := (2, [some (pvR 124)], [pvR 124, pvR 124], M)) rfl ⟨trivial, trivial, trivial⟩ ?_
  refine pw_callT hT (as := [pvR 124]) (lo1 := [some (pvR 124)]) (d1 := d) (rest := [pvR 124]) rfl rfl rfl rfl rfl (fun _ => rfl) (Nat.zero_le _) rfl rfl rfl (sf_X10_peek_124 M hok d) ?_
  have b6_ : 0 ≤ Int32.toInt (M.1 124 16) ∧ Int32.toInt (M.1 124 16) ≤ 100 := pvok_r hok 124 16 rfl
  have b7_ : 0 ≤ Int32.toInt (M.1 124 17) ∧ Int32.toInt (M.1 124 17) ≤ 100 := pvok_r hok 124 17 rfl
  by_cases c8_ : (M.1 124 16) ≤ (M.1 124 17)
  · refine pw_eqI (if_pos c8_) ?_
    have d9_ : Int32.toInt (M.1 124 16) ≤ Int32.toInt (M.1 124 17) := (zi_le _ _).mp c8_
    show PW 37 d (5, [some (pvR 124)], [pvI (-1), pvR 124], M) _
    refine pw_blk hT 2 (S' := (9, [some (pvR 124)], [pvI 57, pvI 48, pvI (-1), pvR 124], M)) rfl ⟨trivial, trivial, trivial⟩ ?_
    refine pw_callT hT (as := [pvR 124, pvI (-1), pvI 48, pvI 57]) (lo1 := [some (pvR 124), some (pvI (-1)), some (pvI 48), some (pvI 57)]) (d1 := d) (rest := []) rfl rfl rfl rfl rfl (fun _ => rfl) (Nat.zero_le _) rfl rfl rfl (sf_X10_in_124_x_x_x M hok (-1) 48 57 d) ?_
    refine pw_eqI (if_pos (by decide)) ?_
    show PW 37 d (12, [some (pvR 124)], [pvI 0], M) _
    exact pw_ret hT rfl (r := some (pvI 0)) (M' := M) ⟨Or.inl rfl, rfl, rfl⟩ ⟨(by rw [if_pos c8_]), rfl⟩
  · refine pw_eqI (if_neg c8_) ?_
    have b15_ : 1 ≤ Int32.toInt (M.1 124 16) ∧ Int32.toInt (M.1 124 16) ≤ 100 := zr_nle_l 1 c8_ b6_ b7_ (by decide)
    have b16_ : 0 ≤ Int32.toInt (M.1 124 17) ∧ Int32.toInt (M.1 124 17) ≤ 99 := zr_nle_r 99 c8_ b7_ b15_ (by decide)
    have d17_ : Int32.toInt (M.1 124 16) > Int32.toInt (M.1 124 17) := Int.not_le.mp ((not_congr (zi_le _ _)).mp c8_)
    have b18_ : 0 ≤ Int32.toInt (M.1 132 (Int32.toNatClampNeg (M.1 124 17))) ∧ Int32.toInt (M.1 132 (Int32.toNatClampNeg (M.1 124 17))) ≤ 127 := pvok_r hok 132 (Int32.toNatClampNeg (M.1 124 17)) rfl
    show PW 37 d (5, [some (pvR 124)], [pvI (M.1 132 (Int32.toNatClampNeg (M.1 124 17))), pvR 124], M) _
    refine pw_blk hT 2 (S' := (9, [some (pvR 124)], [pvI 57, pvI 48, pvI (M.1 132 (Int32.toNatClampNeg (M.1 124 17))), pvR 124], M)) rfl ⟨trivial, trivial, trivial⟩ ?_
    refine pw_callT hT (as := [pvR 124, pvI (M.1 132 (Int32.toNatClampNeg (M.1 124 17))), pvI 48, pvI 57]) (lo1 := [some (pvR 124), some (pvI (M.1 132 (Int32.toNatClampNeg (M.1 124 17)))), some (pvI 48), some (pvI 57)]) (d1 := d) (rest := []) rfl rfl rfl rfl rfl (fun _ => rfl) (Nat.zero_le _) rfl rfl rfl (sf_X10_in_124_x_x_x M hok (M.1 132 (Int32.toNatClampNeg (M.1 124 17))) 48 57 d) ?_
    by_cases c24_ : (M.1 132 (Int32.toNatClampNeg (M.1 124 17))) < 48
    · refine pw_eqI (if_pos c24_) ?_
      have b25_ : 0 ≤ Int32.toInt (M.1 132 (Int32.toNatClampNeg (M.1 124 17))) ∧ Int32.toInt (M.1 132 (Int32.toNatClampNeg (M.1 124 17))) ≤ 47 := zr_lt_l 47 c24_ b18_ (show 48 ≤ Int32.toInt 48 ∧ Int32.toInt 48 ≤ 48 from (by decide)) (by decide)
      show PW 37 d (12, [some (pvR 124)], [pvI 0], M) _
      exact pw_ret hT rfl (r := some (pvI 0)) (M' := M) ⟨Or.inl rfl, rfl, rfl⟩ ⟨(by rw [if_neg c8_, if_pos c24_]), rfl⟩
    · refine pw_eqI (if_neg c24_) ?_
      have b26_ : 48 ≤ Int32.toInt (M.1 132 (Int32.toNatClampNeg (M.1 124 17))) ∧ Int32.toInt (M.1 132 (Int32.toNatClampNeg (M.1 124 17))) ≤ 127 := zr_nlt_l 48 c24_ b18_ (show 48 ≤ Int32.toInt 48 ∧ Int32.toInt 48 ≤ 48 from (by decide)) (by decide)
      by_cases c27_ : 57 < (M.1 132 (Int32.toNatClampNeg (M.1 124 17)))
      · refine pw_eqI (if_pos c27_) ?_
        have b28_ : 58 ≤ Int32.toInt (M.1 132 (Int32.toNatClampNeg (M.1 124 17))) ∧ Int32.toInt (M.1 132 (Int32.toNatClampNeg (M.1 124 17))) ≤ 127 := zr_lt_r 58 c27_ b26_ (show 57 ≤ Int32.toInt 57 ∧ Int32.toInt 57 ≤ 57 from (by decide)) (by decide)
        show PW 37 d (12, [some (pvR 124)], [pvI 0], M) _
        exact pw_ret hT rfl (r := some (pvI 0)) (M' := M) ⟨Or.inl rfl, rfl, rfl⟩ ⟨(by rw [if_neg c8_, if_neg c24_, if_pos c27_]), rfl⟩
      · refine pw_eqI (if_neg c27_) ?_
        have b29_ : 48 ≤ Int32.toInt (M.1 132 (Int32.toNatClampNeg (M.1 124 17))) ∧ Int32.toInt (M.1 132 (Int32.toNatClampNeg (M.1 124 17))) ≤ 57 := zr_nlt_r 57 c27_ b26_ (show 57 ≤ Int32.toInt 57 ∧ Int32.toInt 57 ≤ 57 from (by decide)) (by decide)
        show PW 37 d (12, [some (pvR 124)], [pvI 1], M) _
        exact pw_ret hT rfl (r := some (pvI 1)) (M' := M) ⟨Or.inr rfl, rfl, rfl⟩ ⟨(by rw [if_neg c8_, if_neg c24_, if_neg c27_]), rfl⟩
set_option maxHeartbeats 4000000 in
set_option maxRecDepth 10000 in
theorem sf_X10_isLimit_124_x (M : pvM) (hok : pvOk M) (n1 : Int32) (d : Nat) : PW 38 d (0, [some (pvR 124), some (pvI n1)], [], M) (fun r X => r = some (pvI ((if n1 < 0 then 0 else (if 99999 < n1 then 0 else 1)))) ∧ X = M) := by
  have hT : pvdom 38 = pvD_38 := rfl
  refine pw_blk hT 4 (S' := (6, [some (pvR 124), some (pvI n1)], [pvI 99999, pvI 0, pvI n1, pvR 124], M)) rfl ⟨trivial, trivial, trivial, trivial, trivial⟩ ?_
  refine pw_callT hT (as := [pvR 124, pvI n1, pvI 0, pvI 99999]) (lo1 := [some (pvR 124), some (pvI n1), some (pvI 0), some (pvI 99999)]) (d1 := d) (rest := []) rfl rfl rfl rfl rfl (fun _ => rfl) (Nat.zero_le _) rfl rfl rfl (sf_X10_in_124_x_x_x M hok n1 0 99999 d) ?_
  by_cases c6_ : n1 < 0
  · refine pw_eqI (if_pos c6_) ?_
    have b7_ : (-2147483648) ≤ Int32.toInt n1 ∧ Int32.toInt n1 ≤ (-1) := zr_lt_l (-1) c6_ (zbnd n1) (show 0 ≤ Int32.toInt 0 ∧ Int32.toInt 0 ≤ 0 from (by decide)) (by decide)
    show PW 38 d (9, [some (pvR 124), some (pvI n1)], [pvI 0], M) _
    exact pw_ret hT rfl (r := some (pvI 0)) (M' := M) ⟨Or.inl rfl, rfl, rfl⟩ ⟨(by rw [if_pos c6_]), rfl⟩
  · refine pw_eqI (if_neg c6_) ?_
    have b8_ : 0 ≤ Int32.toInt n1 ∧ Int32.toInt n1 ≤ 2147483647 := zr_nlt_l 0 c6_ (zbnd n1) (show 0 ≤ Int32.toInt 0 ∧ Int32.toInt 0 ≤ 0 from (by decide)) (by decide)
    by_cases c9_ : 99999 < n1
    · refine pw_eqI (if_pos c9_) ?_
      have b10_ : 100000 ≤ Int32.toInt n1 ∧ Int32.toInt n1 ≤ 2147483647 := zr_lt_r 100000 c9_ b8_ (show 99999 ≤ Int32.toInt 99999 ∧ Int32.toInt 99999 ≤ 99999 from (by decide)) (by decide)
      show PW 38 d (9, [some (pvR 124), some (pvI n1)], [pvI 0], M) _
      exact pw_ret hT rfl (r := some (pvI 0)) (M' := M) ⟨Or.inl rfl, rfl, rfl⟩ ⟨(by rw [if_neg c6_, if_pos c9_]), rfl⟩
    · refine pw_eqI (if_neg c9_) ?_
      have b11_ : 0 ≤ Int32.toInt n1 ∧ Int32.toInt n1 ≤ 99999 := zr_nlt_r 99999 c9_ b8_ (show 99999 ≤ Int32.toInt 99999 ∧ Int32.toInt 99999 ≤ 99999 from (by decide)) (by decide)
      show PW 38 d (9, [some (pvR 124), some (pvI n1)], [pvI 1], M) _
      exact pw_ret hT rfl (r := some (pvI 1)) (M' := M) ⟨Or.inr rfl, rfl, rfl⟩ ⟨(by rw [if_neg c6_, if_neg c9_]), rfl⟩
set_option maxHeartbeats 4000000 in
set_option maxRecDepth 10000 in
theorem sf_X10_isPlace_124_x_x (M : pvM) (hok : pvOk M) (n1 : Int32) (n2 : Int32) (d : Nat) : PW 40 d (0, [some (pvR 124), some (pvI n1), some (pvI n2)], [], M) (fun r X => r = some (pvI ((if n1 < 0 then 0 else (if 3 < n1 then 0 else (if n2 < 0 then 0 else (if 4 < n2 then 0 else 1)))))) ∧ X = M) := by
  have hT : pvdom 40 = pvD_40 := rfl
  refine pw_blk hT 4 (S' := (4, [some (pvR 124), some (pvI n1), some (pvI n2)], [pvI 3, pvI 0, pvI n1, pvR 124], M)) rfl ⟨trivial, trivial, trivial, trivial, trivial⟩ ?_
  refine pw_callT hT (as := [pvR 124, pvI n1, pvI 0, pvI 3]) (lo1 := [some (pvR 124), some (pvI n1), some (pvI 0), some (pvI 3)]) (d1 := d) (rest := []) rfl rfl rfl rfl rfl (fun _ => rfl) (Nat.zero_le _) rfl rfl rfl (sf_X10_in_124_x_x_x M hok n1 0 3 d) ?_
  by_cases c6_ : n1 < 0
  · refine pw_eqI (if_pos c6_) ?_
    have b7_ : (-2147483648) ≤ Int32.toInt n1 ∧ Int32.toInt n1 ≤ (-1) := zr_lt_l (-1) c6_ (zbnd n1) (show 0 ≤ Int32.toInt 0 ∧ Int32.toInt 0 ≤ 0 from (by decide)) (by decide)
    show PW 40 d (7, [some (pvR 124), some (pvI n1), some (pvI n2)], [pvI 0], M) _
    refine pw_if hT (c := 0 = 0) rfl rfl (fun c8_ => ?_) (fun c8_ => absurd (by decide) c8_)
    refine pw_blk hT 1 (S' := (25, [some (pvR 124), some (pvI n1), some (pvI n2)], [pvI 0], M)) rfl ⟨trivial, trivial⟩ ?_
    exact pw_ret hT rfl (r := some (pvI 0)) (M' := M) ⟨Or.inl rfl, rfl, rfl⟩ ⟨(by rw [if_pos c6_]), rfl⟩
  · refine pw_eqI (if_neg c6_) ?_
    have b9_ : 0 ≤ Int32.toInt n1 ∧ Int32.toInt n1 ≤ 2147483647 := zr_nlt_l 0 c6_ (zbnd n1) (show 0 ≤ Int32.toInt 0 ∧ Int32.toInt 0 ≤ 0 from (by decide)) (by decide)
    by_cases c10_ : 3 < n1
    · refine pw_eqI (if_pos c10_) ?_
      have b11_ : 4 ≤ Int32.toInt n1 ∧ Int32.toInt n1 ≤ 2147483647 := zr_lt_r 4 c10_ b9_ (show 3 ≤ Int32.toInt 3 ∧ Int32.toInt 3 ≤ 3 from (by decide)) (by decide)
      show PW 40 d (7, [some (pvR 124), some (pvI n1), some (pvI n2)], [pvI 0], M) _
      refine pw_if hT (c := 0 = 0) rfl rfl (fun c12_ => ?_) (fun c12_ => absurd (by decide) c12_)
      refine pw_blk hT 1 (S' := (25, [some (pvR 124), some (pvI n1), some (pvI n2)], [pvI 0], M)) rfl ⟨trivial, trivial⟩ ?_
      exact pw_ret hT rfl (r := some (pvI 0)) (M' := M) ⟨Or.inl rfl, rfl, rfl⟩ ⟨(by rw [if_neg c6_, if_pos c10_]), rfl⟩
    · refine pw_eqI (if_neg c10_) ?_
      have b13_ : 0 ≤ Int32.toInt n1 ∧ Int32.toInt n1 ≤ 3 := zr_nlt_r 3 c10_ b9_ (show 3 ≤ Int32.toInt 3 ∧ Int32.toInt 3 ≤ 3 from (by decide)) (by decide)
      show PW 40 d (7, [some (pvR 124), some (pvI n1), some (pvI n2)], [pvI 1], M) _
      refine pw_if hT (c := 1 = 0) rfl rfl (fun c14_ => absurd c14_ (by decide)) (fun c14_ => ?_)
      refine pw_blk hT 4 (S' := (14, [some (pvR 124), some (pvI n1), some (pvI n2)], [pvI 4, pvI 0, pvI n2, pvR 124], M)) rfl ⟨trivial, trivial, trivial, trivial, trivial⟩ ?_
      refine pw_callT hT (as := [pvR 124, pvI n2, pvI 0, pvI 4]) (lo1 := [some (pvR 124), some (pvI n2), some (pvI 0), some (pvI 4)]) (d1 := d) (rest := []) rfl rfl rfl rfl rfl (fun _ => rfl) (Nat.zero_le _) rfl rfl rfl (sf_X10_in_124_x_x_x M hok n2 0 4 d) ?_
      by_cases c20_ : n2 < 0
      · refine pw_eqI (if_pos c20_) ?_
        have b21_ : (-2147483648) ≤ Int32.toInt n2 ∧ Int32.toInt n2 ≤ (-1) := zr_lt_l (-1) c20_ (zbnd n2) (show 0 ≤ Int32.toInt 0 ∧ Int32.toInt 0 ≤ 0 from (by decide)) (by decide)
        show PW 40 d (17, [some (pvR 124), some (pvI n1), some (pvI n2)], [pvI 0], M) _
        refine pw_if hT (c := 0 = 0) rfl rfl (fun c22_ => ?_) (fun c22_ => absurd (by decide) c22_)
        refine pw_blk hT 1 (S' := (25, [some (pvR 124), some (pvI n1), some (pvI n2)], [pvI 0], M)) rfl ⟨trivial, trivial⟩ ?_
        exact pw_ret hT rfl (r := some (pvI 0)) (M' := M) ⟨Or.inl rfl, rfl, rfl⟩ ⟨(by rw [if_neg c6_, if_neg c10_, if_pos c20_]), rfl⟩
      · refine pw_eqI (if_neg c20_) ?_
        have b23_ : 0 ≤ Int32.toInt n2 ∧ Int32.toInt n2 ≤ 2147483647 := zr_nlt_l 0 c20_ (zbnd n2) (show 0 ≤ Int32.toInt 0 ∧ Int32.toInt 0 ≤ 0 from (by decide)) (by decide)
        by_cases c24_ : 4 < n2
        · refine pw_eqI (if_pos c24_) ?_
          have b25_ : 5 ≤ Int32.toInt n2 ∧ Int32.toInt n2 ≤ 2147483647 := zr_lt_r 5 c24_ b23_ (show 4 ≤ Int32.toInt 4 ∧ Int32.toInt 4 ≤ 4 from (by decide)) (by decide)
          show PW 40 d (17, [some (pvR 124), some (pvI n1), some (pvI n2)], [pvI 0], M) _
          refine pw_if hT (c := 0 = 0) rfl rfl (fun c26_ => ?_) (fun c26_ => absurd (by decide) c26_)
          refine pw_blk hT 1 (S' := (25, [some (pvR 124), some (pvI n1), some (pvI n2)], [pvI 0], M)) rfl ⟨trivial, trivial⟩ ?_
          exact pw_ret hT rfl (r := some (pvI 0)) (M' := M) ⟨Or.inl rfl, rfl, rfl⟩ ⟨(by rw [if_neg c6_, if_neg c10_, if_neg c20_, if_pos c24_]), rfl⟩
        · refine pw_eqI (if_neg c24_) ?_
          have b27_ : 0 ≤ Int32.toInt n2 ∧ Int32.toInt n2 ≤ 4 := zr_nlt_r 4 c24_ b23_ (show 4 ≤ Int32.toInt 4 ∧ Int32.toInt 4 ≤ 4 from (by decide)) (by decide)
          show PW 40 d (17, [some (pvR 124), some (pvI n1), some (pvI n2)], [pvI 1], M) _
          refine pw_if hT (c := 1 = 0) rfl rfl (fun c28_ => absurd c28_ (by decide)) (fun c28_ => ?_)
          refine pw_blk hT 2 (S' := (25, [some (pvR 124), some (pvI n1), some (pvI n2)], [pvI 1], M)) rfl ⟨trivial, trivial, trivial⟩ ?_
          exact pw_ret hT rfl (r := some (pvI 1)) (M' := M) ⟨Or.inr rfl, rfl, rfl⟩ ⟨(by rw [if_neg c6_, if_neg c10_, if_neg c20_, if_neg c24_]), rfl⟩
set_option maxHeartbeats 4000000 in
set_option maxRecDepth 10000 in
theorem sf_X10_isTape_124_x (M : pvM) (hok : pvOk M) (n1 : Int32) (d : Nat) : PW 41 d (0, [some (pvR 124), some (pvI n1)], [], M) (fun r X => r = some (pvI ((if n1 < 0 then 0 else (if 5 < n1 then 0 else 1)))) ∧ X = M) := by
  have hT : pvdom 41 = pvD_41 := rfl
  refine pw_blk hT 4 (S' := (4, [some (pvR 124), some (pvI n1)], [pvI 5, pvI 0, pvI n1, pvR 124], M)) rfl ⟨trivial, trivial, trivial, trivial, trivial⟩ ?_
  refine pw_callT hT (as := [pvR 124, pvI n1, pvI 0, pvI 5]) (lo1 := [some (pvR 124), some (pvI n1), some (pvI 0), some (pvI 5)]) (d1 := d) (rest := []) rfl rfl rfl rfl rfl (fun _ => rfl) (Nat.zero_le _) rfl rfl rfl (sf_X10_in_124_x_x_x M hok n1 0 5 d) ?_
  by_cases c6_ : n1 < 0
  · refine pw_eqI (if_pos c6_) ?_
    have b7_ : (-2147483648) ≤ Int32.toInt n1 ∧ Int32.toInt n1 ≤ (-1) := zr_lt_l (-1) c6_ (zbnd n1) (show 0 ≤ Int32.toInt 0 ∧ Int32.toInt 0 ≤ 0 from (by decide)) (by decide)
    show PW 41 d (7, [some (pvR 124), some (pvI n1)], [pvI 0], M) _
    exact pw_ret hT rfl (r := some (pvI 0)) (M' := M) ⟨Or.inl rfl, rfl, rfl⟩ ⟨(by rw [if_pos c6_]), rfl⟩
  · refine pw_eqI (if_neg c6_) ?_
    have b8_ : 0 ≤ Int32.toInt n1 ∧ Int32.toInt n1 ≤ 2147483647 := zr_nlt_l 0 c6_ (zbnd n1) (show 0 ≤ Int32.toInt 0 ∧ Int32.toInt 0 ≤ 0 from (by decide)) (by decide)
    by_cases c9_ : 5 < n1
    · refine pw_eqI (if_pos c9_) ?_
      have b10_ : 6 ≤ Int32.toInt n1 ∧ Int32.toInt n1 ≤ 2147483647 := zr_lt_r 6 c9_ b8_ (show 5 ≤ Int32.toInt 5 ∧ Int32.toInt 5 ≤ 5 from (by decide)) (by decide)
      show PW 41 d (7, [some (pvR 124), some (pvI n1)], [pvI 0], M) _
      exact pw_ret hT rfl (r := some (pvI 0)) (M' := M) ⟨Or.inl rfl, rfl, rfl⟩ ⟨(by rw [if_neg c6_, if_pos c9_]), rfl⟩
    · refine pw_eqI (if_neg c9_) ?_
      have b11_ : 0 ≤ Int32.toInt n1 ∧ Int32.toInt n1 ≤ 5 := zr_nlt_r 5 c9_ b8_ (show 5 ≤ Int32.toInt 5 ∧ Int32.toInt 5 ≤ 5 from (by decide)) (by decide)
      show PW 41 d (7, [some (pvR 124), some (pvI n1)], [pvI 1], M) _
      exact pw_ret hT rfl (r := some (pvI 1)) (M' := M) ⟨Or.inr rfl, rfl, rfl⟩ ⟨(by rw [if_neg c6_, if_neg c9_]), rfl⟩
set_option maxHeartbeats 4000000 in
set_option maxRecDepth 10000 in
theorem sf_X10_narrow_124_x_x (M : pvM) (hok : pvOk M) (n1 : Int32) (n2 : Int64) (d : Nat) : PW 56 d (0, [some (pvR 124), some (pvI n1), some (pvJ n2), none], [], M) (fun r X => (∃ x : Int64, r = some (pvJ x)) ∧ X = M) := by
  have hT : pvdom 56 = pvD_56 := rfl
  refine pw_blk hT 1 (S' := (1, [some (pvR 124), some (pvI n1), some (pvJ n2), none], [pvI n1], M)) rfl ⟨trivial, trivial⟩ ?_
  refine pw_ifn hT (c := n1 = 0) rfl rfl (fun c1_ => ?_) (fun c1_ => ?_)
  · refine pw_blk hT 2 (S' := (13, [some (pvR 124), some (pvI n1), some (pvJ n2), none], [pvI 1, pvI n1], M)) rfl ⟨trivial, trivial, trivial⟩ ?_
    refine pw_icn hT (c := n1 = 1) rfl rfl (fun c2_ => ?_) (fun c2_ => ?_)
    · refine pw_blk hT 2 (S' := (25, [some (pvR 124), some (pvI n1), some (pvJ n2), none], [pvI 2, pvI n1], M)) rfl ⟨trivial, trivial, trivial⟩ ?_
      refine pw_icn hT (c := n1 = 2) rfl rfl (fun c3_ => ?_) (fun c3_ => ?_)
      · refine pw_blk hT 2 (S' := (36, [some (pvR 124), some (pvI n1), some (pvJ n2), none], [pvI 4, pvI n1], M)) rfl ⟨trivial, trivial, trivial⟩ ?_
        refine pw_icn hT (c := n1 = 4) rfl rfl (fun c4_ => ?_) (fun c4_ => ?_)
        · refine pw_blk hT 1 (S' := (54, [some (pvR 124), some (pvI n1), some (pvJ n2), none], [pvJ n2], M)) rfl ⟨trivial, trivial⟩ ?_
          exact pw_ret hT rfl (r := some (pvJ n2)) (M' := M) ⟨rfl, rfl⟩ ⟨⟨_, rfl⟩, rfl⟩
        · have b5_ : 4 ≤ Int32.toInt n1 ∧ Int32.toInt n1 ≤ 4 := (by have u0 := (zbnd n1); have u1 := (zi_eq _ _).mp c4_; have u2 := (show 4 ≤ Int32.toInt 4 ∧ Int32.toInt 4 ≤ 4 from (by decide)); omega)
          refine pw_blk hT 3 (S' := (42, [some (pvR 124), some (pvI n1), some (pvJ n2), none], [pvI (lg_cmp n2 0)], M)) rfl ⟨trivial, trivial, trivial, trivial⟩ ?_
          refine pw_if hT (c := (lg_cmp n2 0) = 0) rfl rfl (fun c6_ => ?_) (fun c6_ => ?_)
          · have b7_ : 0 ≤ Int32.toInt (lg_cmp n2 0) ∧ Int32.toInt (lg_cmp n2 0) ≤ 0 := (by have u0 := (zbnd (lg_cmp n2 0)); have u1 := (zi_eq _ _).mp c6_; have u2 := (show 0 ≤ Int32.toInt 0 ∧ Int32.toInt 0 ≤ 0 from (by decide)); omega)
            refine pw_blk hT 2 (S' := (54, [some (pvR 124), some (pvI n1), some (pvJ n2), none], [pvJ 0], M)) rfl ⟨trivial, trivial, trivial⟩ ?_
            exact pw_ret hT rfl (r := some (pvJ 0)) (M' := M) ⟨rfl, rfl⟩ ⟨⟨_, rfl⟩, rfl⟩
          · refine pw_blk hT 2 (S' := (54, [some (pvR 124), some (pvI n1), some (pvJ n2), none], [pvJ 1], M)) rfl ⟨trivial, trivial, trivial⟩ ?_
            exact pw_ret hT rfl (r := some (pvJ 1)) (M' := M) ⟨rfl, rfl⟩ ⟨⟨_, rfl⟩, rfl⟩
      · have b8_ : 2 ≤ Int32.toInt n1 ∧ Int32.toInt n1 ≤ 2 := (by have u0 := (zbnd n1); have u1 := (zi_eq _ _).mp c3_; have u2 := (show 2 ≤ Int32.toInt 2 ∧ Int32.toInt 2 ≤ 2 from (by decide)); omega)
        refine pw_blk hT 4 (S' := (54, [some (pvR 124), some (pvI n1), some (pvJ n2), none], [pvJ (Int32.toInt64 (Int64.toInt32 n2))], M)) rfl ⟨trivial, trivial, trivial, trivial, trivial⟩ ?_
        exact pw_ret hT rfl (r := some (pvJ (Int32.toInt64 (Int64.toInt32 n2)))) (M' := M) ⟨rfl, rfl⟩ ⟨⟨_, rfl⟩, rfl⟩
    · have b9_ : 1 ≤ Int32.toInt n1 ∧ Int32.toInt n1 ≤ 1 := (by have u0 := (zbnd n1); have u1 := (zi_eq _ _).mp c2_; have u2 := (show 1 ≤ Int32.toInt 1 ∧ Int32.toInt 1 ≤ 1 from (by decide)); omega)
      refine pw_blk hT 5 (S' := (54, [some (pvR 124), some (pvI n1), some (pvJ n2), none], [pvJ (Int32.toInt64 (Int16.toInt32 (Int32.toInt16 (Int64.toInt32 n2))))], M)) rfl ⟨trivial, trivial, trivial, trivial, trivial, trivial⟩ ?_
      exact pw_ret hT rfl (r := some (pvJ (Int32.toInt64 (Int16.toInt32 (Int32.toInt16 (Int64.toInt32 n2)))))) (M' := M) ⟨rfl, rfl⟩ ⟨⟨_, rfl⟩, rfl⟩
  · have b10_ : 0 ≤ Int32.toInt n1 ∧ Int32.toInt n1 ≤ 0 := (by have u0 := (zbnd n1); have u1 := (zi_eq _ _).mp c1_; have u2 := (show 0 ≤ Int32.toInt 0 ∧ Int32.toInt 0 ≤ 0 from (by decide)); omega)
    refine pw_blk hT 5 (S' := (54, [some (pvR 124), some (pvI n1), some (pvJ n2), none], [pvJ (Int32.toInt64 (Int8.toInt32 (Int32.toInt8 (Int64.toInt32 n2))))], M)) rfl ⟨trivial, trivial, trivial, trivial, trivial, trivial⟩ ?_
    exact pw_ret hT rfl (r := some (pvJ (Int32.toInt64 (Int8.toInt32 (Int32.toInt8 (Int64.toInt32 n2)))))) (M' := M) ⟨rfl, rfl⟩ ⟨⟨_, rfl⟩, rfl⟩
