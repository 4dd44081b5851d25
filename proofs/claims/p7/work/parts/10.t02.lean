set_option maxHeartbeats 4000000 in
set_option maxRecDepth 10000 in
theorem sf_X10_hasOther_124_x_x (M : pvM) (hok : pvOk M) (n1 : Int32) (n2 : Int32) (hn1 : 0 ≤ Int32.toInt n1 ∧ Int32.toInt n1 ≤ 6) (d : Nat) : PW 32 d (0, [some (pvR 124), some (pvI n1), some (pvI n2), none], [], M) (fun r X => (∃ x : Int32, r = some (pvI x) ∧ 0 ≤ Int32.toInt x ∧ Int32.toInt x ≤ 1) ∧ X = M) := by
  have hT : pvdom 32 = pvD_32 := rfl
  refine pw_blk hT 2 (S' := (2, [some (pvR 124), some (pvI n1), some (pvI n2), some (pvI 0)], [], M)) rfl ⟨trivial, trivial, trivial⟩ ?_
  have hlz96_ : ∀ (nz96_ : Nat) (i3z96_ : Int32), (0 ≤ Int32.toInt i3z96_ ∧ Int32.toInt i3z96_ ≤ 7) → (zhide ((8 - Int32.toInt i3z96_).toNat < nz96_)) → PW 32 d (2, [some (pvR 124), some (pvI n1), some (pvI n2), some (pvI i3z96_)], [], M) (fun r X => (∃ x : Int32, r = some (pvI x) ∧ 0 ≤ Int32.toInt x ∧ Int32.toInt x ≤ 1) ∧ X = M) := by
    intro nz96_
    induction nz96_ with
    | zero => intro i3z96_ h3z96_ hmz96_; exact absurd (zshow hmz96_) (Nat.not_lt_zero _)
    | succ nz96_ ihz96_ =>
      intro i3z96_ h3z96_ hmz96_
      have b97_ : 0 ≤ Int32.toInt (M.1 124 0) ∧ Int32.toInt (M.1 124 0) ≤ 7 := pvok_r hok 124 0 rfl
      refine pw_blk hT 3 (S' := (7, [some (pvR 124), some (pvI n1), some (pvI n2), some (pvI i3z96_)], [pvI (M.1 124 0), pvI i3z96_], M)) rfl ⟨trivial, trivial, rfl, trivial⟩ ?_
      refine pw_ic hT (c := (M.1 124 0) ≤ i3z96_) rfl rfl (fun c98_ => ?_) (fun c98_ => ?_)
      · have d99_ : Int32.toInt (M.1 124 0) ≤ Int32.toInt i3z96_ := (zi_le _ _).mp c98_
        refine pw_blk hT 1 (S' := (43, [some (pvR 124), some (pvI n1), some (pvI n2), some (pvI i3z96_)], [pvI 0], M)) rfl ⟨trivial, trivial⟩ ?_
        exact pw_ret hT rfl (r := some (pvI 0)) (M' := M) ⟨Or.inl rfl, rfl, rfl⟩ ⟨⟨_, rfl, (zr_wide (show 0 ≤ Int32.toInt 0 ∧ Int32.toInt 0 ≤ 0 from (by decide)) (by decide) (by decide))⟩, rfl⟩
      · have b100_ : 1 ≤ Int32.toInt (M.1 124 0) ∧ Int32.toInt (M.1 124 0) ≤ 7 := zr_nle_l 1 c98_ b97_ h3z96_ (by decide)
        have b101_ : 0 ≤ Int32.toInt i3z96_ ∧ Int32.toInt i3z96_ ≤ 6 := zr_nle_r 6 c98_ h3z96_ b100_ (by decide)
        have d102_ : Int32.toInt (M.1 124 0) > Int32.toInt i3z96_ := Int.not_le.mp ((not_congr (zi_le _ _)).mp c98_)
        refine pw_blk hT 2 (S' := (12, [some (pvR 124), some (pvI n1), some (pvI n2), some (pvI i3z96_)], [pvI n1, pvI i3z96_], M)) rfl ⟨trivial, trivial, trivial⟩ ?_
        refine pw_ic hT (c := i3z96_ = n1) rfl rfl (fun c103_ => ?_) (fun c103_ => ?_)
        · have d104_ : Int32.toInt i3z96_ = Int32.toInt n1 := (zi_eq _ _).mp c103_
          obtain ⟨q106_, b105_⟩ : (Int32.toInt (i3z96_ + 1) = Int32.toInt i3z96_ + 1) ∧ (1 ≤ Int32.toInt (i3z96_ + 1) ∧ Int32.toInt (i3z96_ + 1) ≤ 7) := zadd_k i3z96_ 1 1 1 7 b101_ (by decide) (by decide) (by decide) (by decide) (by decide)
          refine pw_blk hT 2 (S' := (2, [some (pvR 124), some (pvI n1), some (pvI n2), some (pvI (i3z96_ + 1))], [], M)) rfl ⟨trivial, trivial, trivial⟩ ?_
          exact ihz96_ (i3z96_ + 1) (zr_wide b105_ (by decide) (by decide)) (zhid (pvms_up (zshow hmz96_) h3z96_ q106_ (by decide) (by decide)))
        · have b107_ : 0 ≤ Int32.toInt (M.1 125 (Int32.toNatClampNeg i3z96_)) ∧ Int32.toInt (M.1 125 (Int32.toNatClampNeg i3z96_)) ≤ 6 := pvok_r hok 125 (Int32.toNatClampNeg i3z96_) rfl
          refine pw_blk hT 5 (S' := (22, [some (pvR 124), some (pvI n1), some (pvI n2), some (pvI i3z96_)], [pvI 4, pvI (M.1 125 (Int32.toNatClampNeg i3z96_))], M)) rfl ⟨trivial, rfl, trivial, ⟨rfl, (zr_in (n := 7) b101_ (by decide) (by decide))⟩, trivial, trivial⟩ ?_
          refine pw_icn hT (c := (M.1 125 (Int32.toNatClampNeg i3z96_)) = 4) rfl rfl (fun c108_ => ?_) (fun c108_ => ?_)
          · obtain ⟨q110_, b109_⟩ : (Int32.toInt (i3z96_ + 1) = Int32.toInt i3z96_ + 1) ∧ (1 ≤ Int32.toInt (i3z96_ + 1) ∧ Int32.toInt (i3z96_ + 1) ≤ 7) := zadd_k i3z96_ 1 1 1 7 b101_ (by decide) (by decide) (by decide) (by decide) (by decide)
            refine pw_blk hT 2 (S' := (2, [some (pvR 124), some (pvI n1), some (pvI n2), some (pvI (i3z96_ + 1))], [], M)) rfl ⟨trivial, trivial, trivial⟩ ?_
            exact ihz96_ (i3z96_ + 1) (zr_wide b109_ (by decide) (by decide)) (zhid (pvms_up (zshow hmz96_) h3z96_ q110_ (by decide) (by decide)))
          · have b111_ : 4 ≤ Int32.toInt (M.1 125 (Int32.toNatClampNeg i3z96_)) ∧ Int32.toInt (M.1 125 (Int32.toNatClampNeg i3z96_)) ≤ 4 := (by have u0 := b107_; have u1 := (zi_eq _ _).mp c108_; have u2 := (show 4 ≤ Int32.toInt 4 ∧ Int32.toInt 4 ≤ 4 from (by decide)); omega)
            refine pw_blk hT 3 (S' := (28, [some (pvR 124), some (pvI n1), some (pvI n2), some (pvI i3z96_)], [pvI n2, pvI i3z96_, pvR 124], M)) rfl ⟨trivial, trivial, trivial, trivial⟩ ?_
            refine pw_callT hT (as := [pvR 124, pvI i3z96_, pvI n2]) (lo1 := [some (pvR 124), some (pvI i3z96_), some (pvI n2)]) (d1 := d) (rest := []) rfl rfl rfl rfl rfl (fun _ => rfl) (Nat.zero_le _) rfl rfl rfl (sf_X10_isOpenAt_124_x_x M hok i3z96_ n2 b101_ d) ?_
            have b117_ : (-1) ≤ Int32.toInt (M.1 143 (Int32.toNatClampNeg i3z96_)) ∧ Int32.toInt (M.1 143 (Int32.toNatClampNeg i3z96_)) ≤ 99999 := pvok_r hok 143 (Int32.toNatClampNeg i3z96_) rfl
            by_cases c118_ : (M.1 143 (Int32.toNatClampNeg i3z96_)) ≤ n2
            · refine pw_eqI (if_pos c118_) ?_
              have b119_ : (-1) ≤ Int32.toInt n2 ∧ Int32.toInt n2 ≤ 2147483647 := zr_le_r (-1) c118_ (zbnd n2) b117_ (by decide)
              have d120_ : Int32.toInt (M.1 143 (Int32.toNatClampNeg i3z96_)) ≤ Int32.toInt n2 := (zi_le _ _).mp c118_
              show PW 32 d (31, [some (pvR 124), some (pvI n1), some (pvI n2), some (pvI i3z96_)], [pvI 0], M) _
              refine pw_if hT (c := 0 = 0) rfl rfl (fun c121_ => ?_) (fun c121_ => absurd (by decide) c121_)
              obtain ⟨q123_, b122_⟩ : (Int32.toInt (i3z96_ + 1) = Int32.toInt i3z96_ + 1) ∧ (1 ≤ Int32.toInt (i3z96_ + 1) ∧ Int32.toInt (i3z96_ + 1) ≤ 7) := zadd_k i3z96_ 1 1 1 7 b101_ (by decide) (by decide) (by decide) (by decide) (by decide)
              refine pw_blk hT 2 (S' := (2, [some (pvR 124), some (pvI n1), some (pvI n2), some (pvI (i3z96_ + 1))], [], M)) rfl ⟨trivial, trivial, trivial⟩ ?_
              exact ihz96_ (i3z96_ + 1) (zr_wide b122_ (by decide) (by decide)) (zhid (pvms_up (zshow hmz96_) h3z96_ q123_ (by decide) (by decide)))
            · refine pw_eqI (if_neg c118_) ?_
              have b124_ : (-2147483648) ≤ Int32.toInt n2 ∧ Int32.toInt n2 ≤ 99998 := zr_nle_r 99998 c118_ (zbnd n2) b117_ (by decide)
              have d125_ : Int32.toInt (M.1 143 (Int32.toNatClampNeg i3z96_)) > Int32.toInt n2 := Int.not_le.mp ((not_congr (zi_le _ _)).mp c118_)
              show PW 32 d (31, [some (pvR 124), some (pvI n1), some (pvI n2), some (pvI i3z96_)], [pvI 1], M) _
              refine pw_if hT (c := 1 = 0) rfl rfl (fun c126_ => absurd c126_ (by decide)) (fun c126_ => ?_)
              refine pw_blk hT 1 (S' := (35, [some (pvR 124), some (pvI n1), some (pvI n2), some (pvI i3z96_)], [pvI 1], M)) rfl ⟨trivial, trivial⟩ ?_
              exact pw_ret hT rfl (r := some (pvI 1)) (M' := M) ⟨Or.inr rfl, rfl, rfl⟩ ⟨⟨_, rfl, (zr_wide (show 1 ≤ Int32.toInt 1 ∧ Int32.toInt 1 ≤ 1 from (by decide)) (by decide) (by decide))⟩, rfl⟩
  exact hlz96_ _ 0 (zr_wide (show 0 ≤ Int32.toInt 0 ∧ Int32.toInt 0 ≤ 0 from (by decide)) (by decide) (by decide)) (zhid (Nat.lt_succ_self _))
set_option maxHeartbeats 4000000 in
set_option maxRecDepth 10000 in
theorem sf_X10_harm_124_x_x (M : pvM) (hok : pvOk M) (n1 : Int32) (n2 : Int32) (hn1 : 0 ≤ Int32.toInt n1 ∧ Int32.toInt n1 ≤ 6) (hn2 : 0 ≤ Int32.toInt n2 ∧ Int32.toInt n2 ≤ 200000) (d : Nat) : PW 26 d (0, [some (pvR 124), some (pvI n1), some (pvI n2), none, none], [], M) (fun r X => (∃ x : Int32, r = some (pvI x) ∧ 0 ≤ Int32.toInt x ∧ Int32.toInt x ≤ 12009) ∧ X = M) := by
  have hT : pvdom 26 = pvD_26 := rfl
  have b1_ : 0 ≤ Int32.toInt (M.1 124 3) ∧ Int32.toInt (M.1 124 3) ≤ 108 := pvok_r hok 124 3 rfl
  obtain ⟨q3_, b2_⟩ : (Int32.toInt (n2 - (M.1 124 3)) = Int32.toInt n2 - Int32.toInt (M.1 124 3)) ∧ ((-108) ≤ Int32.toInt (n2 - (M.1 124 3)) ∧ Int32.toInt (n2 - (M.1 124 3)) ≤ 200000) := zsub_r n2 (M.1 124 3) (-108) 200000 hn2 b1_ (by decide) (by decide) (by decide) (by decide)
  refine pw_blk hT 6 (S' := (8, [some (pvR 124), some (pvI n1), some (pvI n2), some (pvI (n2 - (M.1 124 3))), none], [pvI (n2 - (M.1 124 3))], M)) rfl ⟨trivial, trivial, rfl, trivial, trivial, trivial, trivial⟩ ?_
  refine pw_if hT (c := (n2 - (M.1 124 3)) < 0) rfl rfl (fun c4_ => ?_) (fun c4_ => ?_)
  · have b5_ : (-108) ≤ Int32.toInt (n2 - (M.1 124 3)) ∧ Int32.toInt (n2 - (M.1 124 3)) ≤ (-1) := zr_lt_l (-1) c4_ b2_ (show 0 ≤ Int32.toInt 0 ∧ Int32.toInt 0 ≤ 0 from (by decide)) (by decide)
    refine pw_blk hT 1 (S' := (29, [some (pvR 124), some (pvI n1), some (pvI n2), some (pvI (n2 - (M.1 124 3))), none], [pvI 0], M)) rfl ⟨trivial, trivial⟩ ?_
    exact pw_ret hT rfl (r := some (pvI 0)) (M' := M) ⟨rfl, rfl⟩ ⟨⟨_, rfl, (zr_wide (show 0 ≤ Int32.toInt 0 ∧ Int32.toInt 0 ≤ 0 from (by decide)) (by decide) (by decide))⟩, rfl⟩
  · have b6_ : 0 ≤ Int32.toInt (n2 - (M.1 124 3)) ∧ Int32.toInt (n2 - (M.1 124 3)) ≤ 200000 := zr_nlt_l 0 c4_ b2_ (show 0 ≤ Int32.toInt 0 ∧ Int32.toInt 0 ≤ 0 from (by decide)) (by decide)
    refine pw_blk hT 2 (S' := (13, [some (pvR 124), some (pvI n1), some (pvI n2), some (pvI (n2 - (M.1 124 3))), none], [pvR 124, pvI (n2 - (M.1 124 3))], M)) rfl ⟨trivial, trivial, trivial⟩ ?_
    refine pw_callGp hT (as := [pvR 124]) (lo1 := [some (pvR 124)]) (d1 := d) (rest := [pvI (n2 - (M.1 124 3))]) rfl rfl rfl rfl rfl (fun _ => rfl) (Nat.zero_le _) rfl rfl rfl (sf_X10_lastNow_124 M hok d) (fun x7_ b9_ => ?_)
    refine pw_ic hT (c := x7_ ≤ (n2 - (M.1 124 3))) rfl rfl (fun c12_ => ?_) (fun c12_ => ?_)
    · have d13_ : Int32.toInt x7_ ≤ Int32.toInt (n2 - (M.1 124 3)) := (zi_le _ _).mp c12_
      refine pw_blk hT 1 (S' := (29, [some (pvR 124), some (pvI n1), some (pvI n2), some (pvI (n2 - (M.1 124 3))), none], [pvI 0], M)) rfl ⟨trivial, trivial⟩ ?_
      exact pw_ret hT rfl (r := some (pvI 0)) (M' := M) ⟨rfl, rfl⟩ ⟨⟨_, rfl, (zr_wide (show 0 ≤ Int32.toInt 0 ∧ Int32.toInt 0 ≤ 0 from (by decide)) (by decide) (by decide))⟩, rfl⟩
    · have b14_ : 1 ≤ Int32.toInt x7_ ∧ Int32.toInt x7_ ≤ 99 := zr_nle_l 1 c12_ b9_ b6_ (by decide)
      have b15_ : 0 ≤ Int32.toInt (n2 - (M.1 124 3)) ∧ Int32.toInt (n2 - (M.1 124 3)) ≤ 98 := zr_nle_r 98 c12_ b6_ b14_ (by decide)
      have d16_ : Int32.toInt x7_ > Int32.toInt (n2 - (M.1 124 3)) := Int.not_le.mp ((not_congr (zi_le _ _)).mp c12_)
      refine pw_blk hT 3 (S' := (22, [some (pvR 124), some (pvI n1), some (pvI n2), some (pvI (n2 - (M.1 124 3))), none], [pvI n2, pvI n1, pvR 124], M)) rfl ⟨trivial, trivial, trivial, trivial⟩ ?_
      refine pw_callT hT (as := [pvR 124, pvI n1, pvI n2]) (lo1 := [some (pvR 124), some (pvI n1), some (pvI n2)]) (d1 := d) (rest := []) rfl rfl rfl rfl rfl (fun _ => rfl) (Nat.zero_le _) rfl rfl rfl (sf_X10_isOpenAt_124_x_x M hok n1 n2 hn1 d) ?_
      have b22_ : (-1) ≤ Int32.toInt (M.1 143 (Int32.toNatClampNeg n1)) ∧ Int32.toInt (M.1 143 (Int32.toNatClampNeg n1)) ≤ 99999 := pvok_r hok 143 (Int32.toNatClampNeg n1) rfl
      by_cases c23_ : (M.1 143 (Int32.toNatClampNeg n1)) ≤ n2
      · refine pw_eqI (if_pos c23_) ?_
        have d24_ : Int32.toInt (M.1 143 (Int32.toNatClampNeg n1)) ≤ Int32.toInt n2 := (zi_le _ _).mp c23_
        show PW 26 d (25, [some (pvR 124), some (pvI n1), some (pvI n2), some (pvI (n2 - (M.1 124 3))), none], [pvI 0], M) _
        refine pw_ifn hT (c := 0 = 0) rfl rfl (fun c25_ => absurd (by decide) c25_) (fun c25_ => ?_)
        refine pw_blk hT 1 (S' := (29, [some (pvR 124), some (pvI n1), some (pvI n2), some (pvI (n2 - (M.1 124 3))), none], [pvI 0], M)) rfl ⟨trivial, trivial⟩ ?_
        exact pw_ret hT rfl (r := some (pvI 0)) (M' := M) ⟨rfl, rfl⟩ ⟨⟨_, rfl, (zr_wide (show 0 ≤ Int32.toInt 0 ∧ Int32.toInt 0 ≤ 0 from (by decide)) (by decide) (by decide))⟩, rfl⟩
      · refine pw_eqI (if_neg c23_) ?_
        have b26_ : 1 ≤ Int32.toInt (M.1 143 (Int32.toNatClampNeg n1)) ∧ Int32.toInt (M.1 143 (Int32.toNatClampNeg n1)) ≤ 99999 := zr_nle_l 1 c23_ b22_ hn2 (by decide)
        have b27_ : 0 ≤ Int32.toInt n2 ∧ Int32.toInt n2 ≤ 99998 := zr_nle_r 99998 c23_ hn2 b26_ (by decide)
        have d28_ : Int32.toInt (M.1 143 (Int32.toNatClampNeg n1)) > Int32.toInt n2 := Int.not_le.mp ((not_congr (zi_le _ _)).mp c23_)
        show PW 26 d (25, [some (pvR 124), some (pvI n1), some (pvI n2), some (pvI (n2 - (M.1 124 3))), none], [pvI 1], M) _
        refine pw_ifn hT (c := 1 = 0) rfl rfl (fun c29_ => ?_) (fun c29_ => absurd c29_ (by decide))
        have q30_ : Int32.toInt (99 * n1) = 99 * Int32.toInt n1 := by have u0 : Int32.toInt 99 = 99 := (by decide); have u1 := hn1; have u2 := zmul 99 n1 (by rw [u0]; omega) (by rw [u0]; omega); rw [u0] at u2; omega
        have b31_ : 0 ≤ Int32.toInt (99 * n1) ∧ Int32.toInt (99 * n1) ≤ 594 := (by have u1 := hn1; omega)
        obtain ⟨q33_, b32_⟩ : (Int32.toInt ((99 * n1) + (n2 - (M.1 124 3))) = Int32.toInt (99 * n1) + Int32.toInt (n2 - (M.1 124 3))) ∧ (0 ≤ Int32.toInt ((99 * n1) + (n2 - (M.1 124 3))) ∧ Int32.toInt ((99 * n1) + (n2 - (M.1 124 3))) ≤ 692) := zadd_r (99 * n1) (n2 - (M.1 124 3)) 0 692 b31_ b15_ (by decide) (by decide) (by decide) (by decide)
        have b34_ : 0 ≤ Int32.toInt (M.1 142 (Int32.toNatClampNeg ((99 * n1) + (n2 - (M.1 124 3))))) ∧ Int32.toInt (M.1 142 (Int32.toNatClampNeg ((99 * n1) + (n2 - (M.1 124 3))))) ≤ 6000 := pvok_r hok 142 (Int32.toNatClampNeg ((99 * n1) + (n2 - (M.1 124 3)))) rfl
        have b35_ : 0 ≤ Int32.toInt (M.1 125 (Int32.toNatClampNeg n1)) ∧ Int32.toInt (M.1 125 (Int32.toNatClampNeg n1)) ≤ 6 := pvok_r hok 125 (Int32.toNatClampNeg n1) rfl
        refine pw_blk hT 13 (S' := (49, [some (pvR 124), some (pvI n1), some (pvI n2), some (pvI (n2 - (M.1 124 3))), some (pvI (M.1 142 (Int32.toNatClampNeg ((99 * n1) + (n2 - (M.1 124 3))))))], [pvI (M.1 125 (Int32.toNatClampNeg n1))], M)) rfl ⟨trivial, rfl, trivial, trivial, trivial, trivial, trivial, ⟨rfl, (zr_in (n := 693) b32_ (by decide) (by decide))⟩, trivial, trivial, rfl, trivial, ⟨rfl, (zr_in (n := 7) hn1 (by decide) (by decide))⟩, trivial⟩ ?_
        refine pw_sw hT rfl rfl ?_
        refine And.intro (fun c36_ => ?_) (fun c36_ => ?_)
        · show PW 26 d (84, [some (pvR 124), some (pvI n1), some (pvI n2), some (pvI (n2 - (M.1 124 3))), some (pvI (M.1 142 (Int32.toNatClampNeg ((99 * n1) + (n2 - (M.1 124 3))))))], [], M) _
          have b37_ : 2 ≤ Int32.toInt (M.1 125 (Int32.toNatClampNeg n1)) ∧ Int32.toInt (M.1 125 (Int32.toNatClampNeg n1)) ≤ 2 := (by have u0 := b35_; have u1 := (zi_eq _ _).mp c36_; have u2 := (show 2 ≤ Int32.toInt 2 ∧ Int32.toInt 2 ≤ 2 from (by decide)); omega)
          have q38_ : Int32.toInt ((M.1 142 (Int32.toNatClampNeg ((99 * n1) + (n2 - (M.1 124 3))))) / 2) = Int32.toInt (M.1 142 (Int32.toNatClampNeg ((99 * n1) + (n2 - (M.1 124 3))))) / 2 := by have u0 := b34_; have u := zdiv_p (M.1 142 (Int32.toNatClampNeg ((99 * n1) + (n2 - (M.1 124 3))))) 2 (by omega) (by decide) (by decide); have e0 : nI 2 = (2 : Int32) := rfl; rw [e0] at u; omega
          have b39_ : 0 ≤ Int32.toInt ((M.1 142 (Int32.toNatClampNeg ((99 * n1) + (n2 - (M.1 124 3))))) / 2) ∧ Int32.toInt ((M.1 142 (Int32.toNatClampNeg ((99 * n1) + (n2 - (M.1 124 3))))) / 2) ≤ 3000 := (by have u0 := b34_; omega)
          refine pw_blk hT 3 (S' := (88, [some (pvR 124), some (pvI n1), some (pvI n2), some (pvI (n2 - (M.1 124 3))), some (pvI (M.1 142 (Int32.toNatClampNeg ((99 * n1) + (n2 - (M.1 124 3))))))], [pvI ((M.1 142 (Int32.toNatClampNeg ((99 * n1) + (n2 - (M.1 124 3))))) / 2)], M)) rfl ⟨trivial, trivial, (by decide), trivial⟩ ?_
          exact pw_ret hT rfl (r := some (pvI ((M.1 142 (Int32.toNatClampNeg ((99 * n1) + (n2 - (M.1 124 3))))) / 2))) (M' := M) ⟨rfl, rfl⟩ ⟨⟨_, rfl, (zr_wide b39_ (by decide) (by decide))⟩, rfl⟩
        · refine And.intro (fun c40_ => ?_) (fun c40_ => ?_)
          · show PW 26 d (89, [some (pvR 124), some (pvI n1), some (pvI n2), some (pvI (n2 - (M.1 124 3))), some (pvI (M.1 142 (Int32.toNatClampNeg ((99 * n1) + (n2 - (M.1 124 3))))))], [], M) _
            have b41_ : 3 ≤ Int32.toInt (M.1 125 (Int32.toNatClampNeg n1)) ∧ Int32.toInt (M.1 125 (Int32.toNatClampNeg n1)) ≤ 3 := (by have u0 := b35_; have u1 := (zi_eq _ _).mp c40_; have u2 := (show 3 ≤ Int32.toInt 3 ∧ Int32.toInt 3 ≤ 3 from (by decide)); omega)
            have q42_ : Int32.toInt (2 * (M.1 142 (Int32.toNatClampNeg ((99 * n1) + (n2 - (M.1 124 3)))))) = 2 * Int32.toInt (M.1 142 (Int32.toNatClampNeg ((99 * n1) + (n2 - (M.1 124 3))))) := by have u0 : Int32.toInt 2 = 2 := (by decide); have u1 := b34_; have u2 := zmul 2 (M.1 142 (Int32.toNatClampNeg ((99 * n1) + (n2 - (M.1 124 3))))) (by rw [u0]; omega) (by rw [u0]; omega); rw [u0] at u2; omega
            have b43_ : 0 ≤ Int32.toInt (2 * (M.1 142 (Int32.toNatClampNeg ((99 * n1) + (n2 - (M.1 124 3)))))) ∧ Int32.toInt (2 * (M.1 142 (Int32.toNatClampNeg ((99 * n1) + (n2 - (M.1 124 3)))))) ≤ 12000 := (by have u1 := b34_; omega)
            refine pw_blk hT 3 (S' := (93, [some (pvR 124), some (pvI n1), some (pvI n2), some (pvI (n2 - (M.1 124 3))), some (pvI (M.1 142 (Int32.toNatClampNeg ((99 * n1) + (n2 - (M.1 124 3))))))], [pvI (2 * (M.1 142 (Int32.toNatClampNeg ((99 * n1) + (n2 - (M.1 124 3))))))], M)) rfl ⟨trivial, trivial, trivial, trivial⟩ ?_
            exact pw_ret hT rfl (r := some (pvI (2 * (M.1 142 (Int32.toNatClampNeg ((99 * n1) + (n2 - (M.1 124 3)))))))) (M' := M) ⟨rfl, rfl⟩ ⟨⟨_, rfl, (zr_wide b43_ (by decide) (by decide))⟩, rfl⟩
          · refine And.intro (fun c44_ => ?_) (fun c44_ => ?_)
            · show PW 26 d (94, [some (pvR 124), some (pvI n1), some (pvI n2), some (pvI (n2 - (M.1 124 3))), some (pvI (M.1 142 (Int32.toNatClampNeg ((99 * n1) + (n2 - (M.1 124 3))))))], [], M) _
              have b45_ : 4 ≤ Int32.toInt (M.1 125 (Int32.toNatClampNeg n1)) ∧ Int32.toInt (M.1 125 (Int32.toNatClampNeg n1)) ≤ 4 := (by have u0 := b35_; have u1 := (zi_eq _ _).mp c44_; have u2 := (show 4 ≤ Int32.toInt 4 ∧ Int32.toInt 4 ≤ 4 from (by decide)); omega)
              refine pw_blk hT 3 (S' := (97, [some (pvR 124), some (pvI n1), some (pvI n2), some (pvI (n2 - (M.1 124 3))), some (pvI (M.1 142 (Int32.toNatClampNeg ((99 * n1) + (n2 - (M.1 124 3))))))], [pvI n2, pvI n1, pvR 124], M)) rfl ⟨trivial, trivial, trivial, trivial⟩ ?_
              refine pw_callGp hT (as := [pvR 124, pvI n1, pvI n2]) (lo1 := [some (pvR 124), some (pvI n1), some (pvI n2), none]) (d1 := d) (rest := []) rfl rfl rfl rfl rfl (fun _ => rfl) (Nat.zero_le _) rfl rfl rfl (sf_X10_hasOther_124_x_x M hok n1 n2 hn1 d) (fun x46_ b48_ => ?_)
              refine pw_if hT (c := x46_ = 0) rfl rfl (fun c51_ => ?_) (fun c51_ => ?_)
              · have b52_ : 0 ≤ Int32.toInt x46_ ∧ Int32.toInt x46_ ≤ 0 := (by have u0 := b48_; have u1 := (zi_eq _ _).mp c51_; have u2 := (show 0 ≤ Int32.toInt 0 ∧ Int32.toInt 0 ≤ 0 from (by decide)); omega)
                refine pw_blk hT 1 (S' := (117, [some (pvR 124), some (pvI n1), some (pvI n2), some (pvI (n2 - (M.1 124 3))), some (pvI (M.1 142 (Int32.toNatClampNeg ((99 * n1) + (n2 - (M.1 124 3))))))], [pvI (M.1 142 (Int32.toNatClampNeg ((99 * n1) + (n2 - (M.1 124 3)))))], M)) rfl ⟨trivial, trivial⟩ ?_
                exact pw_ret hT rfl (r := some (pvI (M.1 142 (Int32.toNatClampNeg ((99 * n1) + (n2 - (M.1 124 3))))))) (M' := M) ⟨rfl, rfl⟩ ⟨⟨_, rfl, (zr_wide b34_ (by decide) (by decide))⟩, rfl⟩
              · have b53_ : 1 ≤ Int32.toInt x46_ ∧ Int32.toInt x46_ ≤ 1 := (by have u0 := b48_; have u1 := (not_congr (zi_eq _ _)).mp c51_; have u2 := (show 0 ≤ Int32.toInt 0 ∧ Int32.toInt 0 ≤ 0 from (by decide)); omega)
                have b54_ : 0 ≤ Int32.toInt (M.1 126 (Int32.toNatClampNeg n1)) ∧ Int32.toInt (M.1 126 (Int32.toNatClampNeg n1)) ≤ 9 := pvok_r hok 126 (Int32.toNatClampNeg n1) rfl
                obtain ⟨q56_, b55_⟩ : (Int32.toInt ((M.1 142 (Int32.toNatClampNeg ((99 * n1) + (n2 - (M.1 124 3))))) + (M.1 126 (Int32.toNatClampNeg n1))) = Int32.toInt (M.1 142 (Int32.toNatClampNeg ((99 * n1) + (n2 - (M.1 124 3))))) + Int32.toInt (M.1 126 (Int32.toNatClampNeg n1))) ∧ (0 ≤ Int32.toInt ((M.1 142 (Int32.toNatClampNeg ((99 * n1) + (n2 - (M.1 124 3))))) + (M.1 126 (Int32.toNatClampNeg n1))) ∧ Int32.toInt ((M.1 142 (Int32.toNatClampNeg ((99 * n1) + (n2 - (M.1 124 3))))) + (M.1 126 (Int32.toNatClampNeg n1))) ≤ 6009) := zadd_r (M.1 142 (Int32.toNatClampNeg ((99 * n1) + (n2 - (M.1 124 3))))) (M.1 126 (Int32.toNatClampNeg n1)) 0 6009 b34_ b54_ (by decide) (by decide) (by decide) (by decide)
                refine pw_blk hT 7 (S' := (117, [some (pvR 124), some (pvI n1), some (pvI n2), some (pvI (n2 - (M.1 124 3))), some (pvI (M.1 142 (Int32.toNatClampNeg ((99 * n1) + (n2 - (M.1 124 3))))))], [pvI ((M.1 142 (Int32.toNatClampNeg ((99 * n1) + (n2 - (M.1 124 3))))) + (M.1 126 (Int32.toNatClampNeg n1)))], M)) rfl ⟨trivial, trivial, rfl, trivial, ⟨rfl, (zr_in (n := 7) hn1 (by decide) (by decide))⟩, trivial, trivial, trivial⟩ ?_
                exact pw_ret hT rfl (r := some (pvI ((M.1 142 (Int32.toNatClampNeg ((99 * n1) + (n2 - (M.1 124 3))))) + (M.1 126 (Int32.toNatClampNeg n1))))) (M' := M) ⟨rfl, rfl⟩ ⟨⟨_, rfl, (zr_wide b55_ (by decide) (by decide))⟩, rfl⟩
            · refine And.intro (fun c57_ => ?_) (fun c57_ => ?_)
              · show PW 26 d (118, [some (pvR 124), some (pvI n1), some (pvI n2), some (pvI (n2 - (M.1 124 3))), some (pvI (M.1 142 (Int32.toNatClampNeg ((99 * n1) + (n2 - (M.1 124 3))))))], [], M) _
                have b58_ : 5 ≤ Int32.toInt (M.1 125 (Int32.toNatClampNeg n1)) ∧ Int32.toInt (M.1 125 (Int32.toNatClampNeg n1)) ≤ 5 := (by have u0 := b35_; have u1 := (zi_eq _ _).mp c57_; have u2 := (show 5 ≤ Int32.toInt 5 ∧ Int32.toInt 5 ≤ 5 from (by decide)); omega)
                have b59_ : 0 ≤ Int32.toInt (M.1 124 4) ∧ Int32.toInt (M.1 124 4) ≤ 4 := pvok_r hok 124 4 rfl
                have b60_ : 0 ≤ Int32.toInt (M.1 126 (Int32.toNatClampNeg n1)) ∧ Int32.toInt (M.1 126 (Int32.toNatClampNeg n1)) ≤ 9 := pvok_r hok 126 (Int32.toNatClampNeg n1) rfl
                have b61_ : 0 ≤ Int32.toInt ((M.1 126 (Int32.toNatClampNeg n1)) - (M.1 126 (Int32.toNatClampNeg n1)) / 4 * 4) ∧ Int32.toInt ((M.1 126 (Int32.toNatClampNeg n1)) - (M.1 126 (Int32.toNatClampNeg n1)) / 4 * 4) ≤ 3 := (by have u0 := b60_; have u := zrem_p (M.1 126 (Int32.toNatClampNeg n1)) 4 (by omega) (by decide) (by decide); have e0 : nI 4 = (4 : Int32) := rfl; rw [e0] at u; omega)
                refine pw_blk hT 8 (S' := (130, [some (pvR 124), some (pvI n1), some (pvI n2), some (pvI (n2 - (M.1 124 3))), some (pvI (M.1 142 (Int32.toNatClampNeg ((99 * n1) + (n2 - (M.1 124 3))))))], [pvI ((M.1 126 (Int32.toNatClampNeg n1)) - (M.1 126 (Int32.toNatClampNeg n1)) / 4 * 4), pvI (M.1 124 4)], M)) rfl ⟨trivial, rfl, trivial, rfl, trivial, ⟨rfl, (zr_in (n := 7) hn1 (by decide) (by decide))⟩, trivial, (by decide), trivial⟩ ?_
                refine pw_icn hT (c := (M.1 124 4) = ((M.1 126 (Int32.toNatClampNeg n1)) - (M.1 126 (Int32.toNatClampNeg n1)) / 4 * 4)) rfl rfl (fun c62_ => ?_) (fun c62_ => ?_)
                · refine pw_blk hT 1 (S' := (141, [some (pvR 124), some (pvI n1), some (pvI n2), some (pvI (n2 - (M.1 124 3))), some (pvI (M.1 142 (Int32.toNatClampNeg ((99 * n1) + (n2 - (M.1 124 3))))))], [pvI 0], M)) rfl ⟨trivial, trivial⟩ ?_
                  exact pw_ret hT rfl (r := some (pvI 0)) (M' := M) ⟨rfl, rfl⟩ ⟨⟨_, rfl, (zr_wide (show 0 ≤ Int32.toInt 0 ∧ Int32.toInt 0 ≤ 0 from (by decide)) (by decide) (by decide))⟩, rfl⟩
                · have b63_ : 0 ≤ Int32.toInt (M.1 124 4) ∧ Int32.toInt (M.1 124 4) ≤ 3 := (by have u0 := b59_; have u1 := (zi_eq _ _).mp c62_; have u2 := b61_; omega)
                  have d64_ : Int32.toInt (M.1 124 4) = Int32.toInt ((M.1 126 (Int32.toNatClampNeg n1)) - (M.1 126 (Int32.toNatClampNeg n1)) / 4 * 4) := (zi_eq _ _).mp c62_
                  have q65_ : Int32.toInt ((M.1 142 (Int32.toNatClampNeg ((99 * n1) + (n2 - (M.1 124 3))))) / 2) = Int32.toInt (M.1 142 (Int32.toNatClampNeg ((99 * n1) + (n2 - (M.1 124 3))))) / 2 := by have u0 := b34_; have u := zdiv_p (M.1 142 (Int32.toNatClampNeg ((99 * n1) + (n2 - (M.1 124 3))))) 2 (by omega) (by decide) (by decide); have e0 : nI 2 = (2 : Int32) := rfl; rw [e0] at u; omega
                  have b66_ : 0 ≤ Int32.toInt ((M.1 142 (Int32.toNatClampNeg ((99 * n1) + (n2 - (M.1 124 3))))) / 2) ∧ Int32.toInt ((M.1 142 (Int32.toNatClampNeg ((99 * n1) + (n2 - (M.1 124 3))))) / 2) ≤ 3000 := (by have u0 := b34_; omega)
                  refine pw_blk hT 4 (S' := (141, [some (pvR 124), some (pvI n1), some (pvI n2), some (pvI (n2 - (M.1 124 3))), some (pvI (M.1 142 (Int32.toNatClampNeg ((99 * n1) + (n2 - (M.1 124 3))))))], [pvI ((M.1 142 (Int32.toNatClampNeg ((99 * n1) + (n2 - (M.1 124 3))))) / 2)], M)) rfl ⟨trivial, trivial, (by decide), trivial, trivial⟩ ?_
                  exact pw_ret hT rfl (r := some (pvI ((M.1 142 (Int32.toNatClampNeg ((99 * n1) + (n2 - (M.1 124 3))))) / 2))) (M' := M) ⟨rfl, rfl⟩ ⟨⟨_, rfl, (zr_wide b66_ (by decide) (by decide))⟩, rfl⟩
              · refine And.intro (fun c67_ => ?_) (fun c67_ => ?_)
                · show PW 26 d (142, [some (pvR 124), some (pvI n1), some (pvI n2), some (pvI (n2 - (M.1 124 3))), some (pvI (M.1 142 (Int32.toNatClampNeg ((99 * n1) + (n2 - (M.1 124 3))))))], [], M) _
                  have b68_ : 6 ≤ Int32.toInt (M.1 125 (Int32.toNatClampNeg n1)) ∧ Int32.toInt (M.1 125 (Int32.toNatClampNeg n1)) ≤ 6 := (by have u0 := b35_; have u1 := (zi_eq _ _).mp c67_; have u2 := (show 6 ≤ Int32.toInt 6 ∧ Int32.toInt 6 ≤ 6 from (by decide)); omega)
                  have q69_ : Int32.toInt (2 * (M.1 142 (Int32.toNatClampNeg ((99 * n1) + (n2 - (M.1 124 3)))))) = 2 * Int32.toInt (M.1 142 (Int32.toNatClampNeg ((99 * n1) + (n2 - (M.1 124 3))))) := by have u0 : Int32.toInt 2 = 2 := (by decide); have u1 := b34_; have u2 := zmul 2 (M.1 142 (Int32.toNatClampNeg ((99 * n1) + (n2 - (M.1 124 3))))) (by rw [u0]; omega) (by rw [u0]; omega); rw [u0] at u2; omega
                  have b70_ : 0 ≤ Int32.toInt (2 * (M.1 142 (Int32.toNatClampNeg ((99 * n1) + (n2 - (M.1 124 3)))))) ∧ Int32.toInt (2 * (M.1 142 (Int32.toNatClampNeg ((99 * n1) + (n2 - (M.1 124 3)))))) ≤ 12000 := (by have u1 := b34_; omega)
                  have q71_ : Int32.toInt (4 * n1) = 4 * Int32.toInt n1 := by have u0 : Int32.toInt 4 = 4 := (by decide); have u1 := hn1; have u2 := zmul 4 n1 (by rw [u0]; omega) (by rw [u0]; omega); rw [u0] at u2; omega
                  have b72_ : 0 ≤ Int32.toInt (4 * n1) ∧ Int32.toInt (4 * n1) ≤ 24 := (by have u1 := hn1; omega)
                  have b73_ : 0 ≤ Int32.toInt (n2 - n2 / 4 * 4) ∧ Int32.toInt (n2 - n2 / 4 * 4) ≤ 3 := (by have u0 := b27_; have u := zrem_p n2 4 (by omega) (by decide) (by decide); have e0 : nI 4 = (4 : Int32) := rfl; rw [e0] at u; omega)
                  obtain ⟨q75_, b74_⟩ : (Int32.toInt ((4 * n1) + (n2 - n2 / 4 * 4)) = Int32.toInt (4 * n1) + Int32.toInt (n2 - n2 / 4 * 4)) ∧ (0 ≤ Int32.toInt ((4 * n1) + (n2 - n2 / 4 * 4)) ∧ Int32.toInt ((4 * n1) + (n2 - n2 / 4 * 4)) ≤ 27) := zadd_r (4 * n1) (n2 - n2 / 4 * 4) 0 27 b72_ b73_ (by decide) (by decide) (by decide) (by decide)
                  have b76_ : 0 ≤ Int32.toInt (M.1 130 (Int32.toNatClampNeg ((4 * n1) + (n2 - n2 / 4 * 4)))) ∧ Int32.toInt (M.1 130 (Int32.toNatClampNeg ((4 * n1) + (n2 - n2 / 4 * 4)))) ≤ 9 := pvok_r hok 130 (Int32.toNatClampNeg ((4 * n1) + (n2 - n2 / 4 * 4))) rfl
                  obtain ⟨q78_, b77_⟩ : (Int32.toInt ((2 * (M.1 142 (Int32.toNatClampNeg ((99 * n1) + (n2 - (M.1 124 3)))))) + (M.1 130 (Int32.toNatClampNeg ((4 * n1) + (n2 - n2 / 4 * 4))))) = Int32.toInt (2 * (M.1 142 (Int32.toNatClampNeg ((99 * n1) + (n2 - (M.1 124 3)))))) + Int32.toInt (M.1 130 (Int32.toNatClampNeg ((4 * n1) + (n2 - n2 / 4 * 4))))) ∧ (0 ≤ Int32.toInt ((2 * (M.1 142 (Int32.toNatClampNeg ((99 * n1) + (n2 - (M.1 124 3)))))) + (M.1 130 (Int32.toNatClampNeg ((4 * n1) + (n2 - n2 / 4 * 4))))) ∧ Int32.toInt ((2 * (M.1 142 (Int32.toNatClampNeg ((99 * n1) + (n2 - (M.1 124 3)))))) + (M.1 130 (Int32.toNatClampNeg ((4 * n1) + (n2 - n2 / 4 * 4))))) ≤ 12009) := zadd_r (2 * (M.1 142 (Int32.toNatClampNeg ((99 * n1) + (n2 - (M.1 124 3)))))) (M.1 130 (Int32.toNatClampNeg ((4 * n1) + (n2 - n2 / 4 * 4)))) 0 12009 b70_ b76_ (by decide) (by decide) (by decide) (by decide)
                  refine pw_blk hT 14 (S' := (159, [some (pvR 124), some (pvI n1), some (pvI n2), some (pvI (n2 - (M.1 124 3))), some (pvI (M.1 142 (Int32.toNatClampNeg ((99 * n1) + (n2 - (M.1 124 3))))))], [pvI ((2 * (M.1 142 (Int32.toNatClampNeg ((99 * n1) + (n2 - (M.1 124 3)))))) + (M.1 130 (Int32.toNatClampNeg ((4 * n1) + (n2 - n2 / 4 * 4)))))], M)) rfl ⟨trivial, trivial, trivial, trivial, rfl, trivial, trivial, trivial, trivial, trivial, (by decide), trivial, ⟨rfl, (zr_in (n := 28) b74_ (by decide) (by decide))⟩, trivial, trivial⟩ ?_
                  exact pw_ret hT rfl (r := some (pvI ((2 * (M.1 142 (Int32.toNatClampNeg ((99 * n1) + (n2 - (M.1 124 3)))))) + (M.1 130 (Int32.toNatClampNeg ((4 * n1) + (n2 - n2 / 4 * 4))))))) (M' := M) ⟨rfl, rfl⟩ ⟨⟨_, rfl, b77_⟩, rfl⟩
                · have b79_ : 0 ≤ Int32.toInt (M.1 125 (Int32.toNatClampNeg n1)) ∧ Int32.toInt (M.1 125 (Int32.toNatClampNeg n1)) ≤ 1 := (by have u0 := b35_; have u9 := (show _ ∧ _ from ⟨(not_congr (zi_eq _ _)).mp c67_, (show 6 ≤ Int32.toInt 6 ∧ Int32.toInt 6 ≤ 6 from (by decide))⟩); have v1 := (not_congr (zi_eq _ _)).mp c57_; have w1 : (5 : Int32).toInt = 5 := (by decide); have v2 := (not_congr (zi_eq _ _)).mp c44_; have w2 : (4 : Int32).toInt = 4 := (by decide); have v3 := (not_congr (zi_eq _ _)).mp c40_; have w3 : (3 : Int32).toInt = 3 := (by decide); have v4 := (not_congr (zi_eq _ _)).mp c36_; have w4 : (2 : Int32).toInt = 2 := (by decide); omega)
                  show PW 26 d (160, [some (pvR 124), some (pvI n1), some (pvI n2), some (pvI (n2 - (M.1 124 3))), some (pvI (M.1 142 (Int32.toNatClampNeg ((99 * n1) + (n2 - (M.1 124 3))))))], [], M) _
                  refine pw_blk hT 1 (S' := (162, [some (pvR 124), some (pvI n1), some (pvI n2), some (pvI (n2 - (M.1 124 3))), some (pvI (M.1 142 (Int32.toNatClampNeg ((99 * n1) + (n2 - (M.1 124 3))))))], [pvI (M.1 142 (Int32.toNatClampNeg ((99 * n1) + (n2 - (M.1 124 3)))))], M)) rfl ⟨trivial, trivial⟩ ?_
                  exact pw_ret hT rfl (r := some (pvI (M.1 142 (Int32.toNatClampNeg ((99 * n1) + (n2 - (M.1 124 3))))))) (M' := M) ⟨rfl, rfl⟩ ⟨⟨_, rfl, (zr_wide b34_ (by decide) (by decide))⟩, rfl⟩
set_option maxHeartbeats 4000000 in
set_option maxRecDepth 10000 in
theorem sf_X10_harmAt_124_x (M : pvM) (hok : pvOk M) (n1 : Int32) (hn1 : 0 ≤ Int32.toInt n1 ∧ Int32.toInt n1 ≤ 200000) (d : Nat) : PW 27 d (0, [some (pvR 124), some (pvI n1), none, none], [], M) (fun r X => (∃ x : Int32, r = some (pvI x) ∧ 0 ≤ Int32.toInt x ∧ Int32.toInt x ≤ 84700) ∧ X = M) := by
  have hT : pvdom 27 = pvD_27 := rfl
  refine pw_blk hT 4 (S' := (4, [some (pvR 124), some (pvI n1), some (pvI 0), some (pvI 0)], [], M)) rfl ⟨trivial, trivial, trivial, trivial, trivial⟩ ?_
  have hlz47_ : ∀ (nz47_ : Nat) (i2z47_ : Int32) (i3z47_ : Int32), (0 ≤ Int32.toInt i2z47_ ∧ Int32.toInt i2z47_ ≤ 84700) → (0 ≤ Int32.toInt i3z47_ ∧ Int32.toInt i3z47_ ≤ 7) → (Int32.toInt i2z47_ ≤ 12100 * Int32.toInt i3z47_) → (0 ≤ Int32.toInt i2z47_) → (zhide ((8 - Int32.toInt i3z47_).toNat < nz47_)) → PW 27 d (4, [some (pvR 124), some (pvI n1), some (pvI i2z47_), some (pvI i3z47_)], [], M) (fun r X => (∃ x : Int32, r = some (pvI x) ∧ 0 ≤ Int32.toInt x ∧ Int32.toInt x ≤ 84700) ∧ X = M) := by
    intro nz47_
    induction nz47_ with
    | zero => intro i2z47_ i3z47_ h2z47_ h3z47_ j0z47_ j1z47_ hmz47_; exact absurd (zshow hmz47_) (Nat.not_lt_zero _)
    | succ nz47_ ihz47_ =>
      intro i2z47_ i3z47_ h2z47_ h3z47_ j0z47_ j1z47_ hmz47_
      have b48_ : 0 ≤ Int32.toInt (M.1 124 0) ∧ Int32.toInt (M.1 124 0) ≤ 7 := pvok_r hok 124 0 rfl
      refine pw_blk hT 3 (S' := (9, [some (pvR 124), some (pvI n1), some (pvI i2z47_), some (pvI i3z47_)], [pvI (M.1 124 0), pvI i3z47_], M)) rfl ⟨trivial, trivial, rfl, trivial⟩ ?_
      refine pw_ic hT (c := (M.1 124 0) ≤ i3z47_) rfl rfl (fun c49_ => ?_) (fun c49_ => ?_)
      · have d50_ : Int32.toInt (M.1 124 0) ≤ Int32.toInt i3z47_ := (zi_le _ _).mp c49_
        refine pw_blk hT 1 (S' := (28, [some (pvR 124), some (pvI n1), some (pvI i2z47_), some (pvI i3z47_)], [pvI i2z47_], M)) rfl ⟨trivial, trivial⟩ ?_
        exact pw_ret hT rfl (r := some (pvI i2z47_)) (M' := M) ⟨rfl, rfl⟩ ⟨⟨_, rfl, h2z47_⟩, rfl⟩
      · have b51_ : 1 ≤ Int32.toInt (M.1 124 0) ∧ Int32.toInt (M.1 124 0) ≤ 7 := zr_nle_l 1 c49_ b48_ h3z47_ (by decide)
        have b52_ : 0 ≤ Int32.toInt i3z47_ ∧ Int32.toInt i3z47_ ≤ 6 := zr_nle_r 6 c49_ h3z47_ b51_ (by decide)
        have d53_ : Int32.toInt (M.1 124 0) > Int32.toInt i3z47_ := Int.not_le.mp ((not_congr (zi_le _ _)).mp c49_)
        refine pw_blk hT 4 (S' := (16, [some (pvR 124), some (pvI n1), some (pvI i2z47_), some (pvI i3z47_)], [pvI n1, pvI i3z47_, pvR 124, pvI i2z47_], M)) rfl ⟨trivial, trivial, trivial, trivial, trivial⟩ ?_
        refine pw_callGp hT (as := [pvR 124, pvI i3z47_, pvI n1]) (lo1 := [some (pvR 124), some (pvI i3z47_), some (pvI n1), none, none]) (d1 := d) (rest := [pvI i2z47_]) rfl rfl rfl rfl rfl (fun _ => rfl) (Nat.zero_le _) rfl rfl rfl (sf_X10_harm_124_x_x M hok i3z47_ n1 b52_ hn1 d) (fun x54_ b56_ => ?_)
        obtain ⟨q60_, b59_⟩ : (Int32.toInt (i2z47_ + x54_) = Int32.toInt i2z47_ + Int32.toInt x54_) ∧ (0 ≤ Int32.toInt (i2z47_ + x54_) ∧ Int32.toInt (i2z47_ + x54_) ≤ 96709) := zadd_r i2z47_ x54_ 0 96709 h2z47_ b56_ (by decide) (by decide) (by decide) (by decide)
        obtain ⟨q62_, b61_⟩ : (Int32.toInt (i3z47_ + 1) = Int32.toInt i3z47_ + 1) ∧ (1 ≤ Int32.toInt (i3z47_ + 1) ∧ Int32.toInt (i3z47_ + 1) ≤ 7) := zadd_k i3z47_ 1 1 1 7 b52_ (by decide) (by decide) (by decide) (by decide) (by decide)
        refine pw_blk hT 4 (S' := (4, [some (pvR 124), some (pvI n1), some (pvI (i2z47_ + x54_)), some (pvI (i3z47_ + 1))], [], M)) rfl ⟨trivial, trivial, trivial, trivial, trivial⟩ ?_
        have j63_ : Int32.toInt (i2z47_ + x54_) ≤ 12100 * Int32.toInt (i3z47_ + 1) := by omega
        have j64_ : 0 ≤ Int32.toInt (i2z47_ + x54_) := by omega
        exact ihz47_ (i2z47_ + x54_) (i3z47_ + 1) (by have u0 := b59_; omega) (zr_wide b61_ (by decide) (by decide)) j63_ j64_ (zhid (pvms_up (zshow hmz47_) h3z47_ q62_ (by decide) (by decide)))
  have u65_ : Int32.toInt 0 = 0 := by decide
  have j66_ : Int32.toInt 0 ≤ 12100 * Int32.toInt 0 := by omega
  have j67_ : 0 ≤ Int32.toInt 0 := by omega
  exact hlz47_ _ 0 0 (zr_wide (show 0 ≤ Int32.toInt 0 ∧ Int32.toInt 0 ≤ 0 from (by decide)) (by decide) (by decide)) (zr_wide (show 0 ≤ Int32.toInt 0 ∧ Int32.toInt 0 ≤ 0 from (by decide)) (by decide) (by decide)) j66_ j67_ (zhid (Nat.lt_succ_self _))
set_option maxHeartbeats 4000000 in
set_option maxRecDepth 10000 in
theorem sf_X10_harmFrom_124_x_x (M : pvM) (hok : pvOk M) (n1 : Int32) (n2 : Int32) (hn1 : 0 ≤ Int32.toInt n1 ∧ Int32.toInt n1 ≤ 200000) (hn2 : 0 ≤ Int32.toInt n2 ∧ Int32.toInt n2 ≤ 200000) (d : Nat) : PW 28 d (0, [some (pvR 124), some (pvI n1), some (pvI n2), none, none], [], M) (fun r X => (∃ x : Int32, r = some (pvI x) ∧ 0 ≤ Int32.toInt x ∧ Int32.toInt x ≤ 9000000) ∧ X = M) := by
  have hT : pvdom 28 = pvD_28 := rfl
  have b1_ : 0 ≤ Int32.toInt (M.1 124 3) ∧ Int32.toInt (M.1 124 3) ≤ 108 := pvok_r hok 124 3 rfl
  refine pw_blk hT 5 (S' := (7, [some (pvR 124), some (pvI n1), some (pvI n2), some (pvI 0), none], [pvI (M.1 124 3), pvI n1], M)) rfl ⟨trivial, trivial, trivial, trivial, rfl, trivial⟩ ?_
  refine pw_ic hT (c := (M.1 124 3) ≤ n1) rfl rfl (fun c2_ => ?_) (fun c2_ => ?_)
  · have d3_ : Int32.toInt (M.1 124 3) ≤ Int32.toInt n1 := (zi_le _ _).mp c2_
    refine pw_blk hT 2 (S' := (20, [some (pvR 124), some (pvI n1), some (pvI n2), some (pvI 0), some (pvI n1)], [], M)) rfl ⟨trivial, trivial, trivial⟩ ?_
    have hlz83_ : ∀ (nz83_ : Nat) (i3z83_ : Int32) (i4z83_ : Int32), (0 ≤ Int32.toInt i3z83_ ∧ Int32.toInt i3z83_ ≤ 9000000) → (0 ≤ Int32.toInt i4z83_ ∧ Int32.toInt i4z83_ ≤ 200000) → (Int32.toInt i3z83_ ≤ 90000 * (Int32.toInt i4z83_ - Int32.toInt (M.1 124 3))) → (0 ≤ Int32.toInt i3z83_) → (Int32.toInt (M.1 124 3) ≤ Int32.toInt i4z83_) → (Int32.toInt i4z83_ ≤ Int32.toInt (M.1 124 3) + 99 ∨ Int32.toInt i3z83_ = 0) → (zhide ((200001 - Int32.toInt i4z83_).toNat < nz83_)) → PW 28 d (20, [some (pvR 124), some (pvI n1), some (pvI n2), some (pvI i3z83_), some (pvI i4z83_)], [], M) (fun r X => (∃ x : Int32, r = some (pvI x) ∧ 0 ≤ Int32.toInt x ∧ Int32.toInt x ≤ 9000000) ∧ X = M) := by
      intro nz83_
      induction nz83_ with
      | zero => intro i3z83_ i4z83_ h3z83_ h4z83_ j0z83_ j1z83_ j2z83_ j3z83_ hmz83_; exact absurd (zshow hmz83_) (Nat.not_lt_zero _)
      | succ nz83_ ihz83_ =>
        intro i3z83_ i4z83_ h3z83_ h4z83_ j0z83_ j1z83_ j2z83_ j3z83_ hmz83_
        refine pw_blk hT 2 (S' := (23, [some (pvR 124), some (pvI n1), some (pvI n2), some (pvI i3z83_), some (pvI i4z83_)], [pvI n2, pvI i4z83_], M)) rfl ⟨trivial, trivial, trivial⟩ ?_
        refine pw_ic hT (c := n2 ≤ i4z83_) rfl rfl (fun c84_ => ?_) (fun c84_ => ?_)
        · have d85_ : Int32.toInt n2 ≤ Int32.toInt i4z83_ := (zi_le _ _).mp c84_
          refine pw_blk hT 1 (S' := (56, [some (pvR 124), some (pvI n1), some (pvI n2), some (pvI i3z83_), some (pvI i4z83_)], [pvI i3z83_], M)) rfl ⟨trivial, trivial⟩ ?_
          exact pw_ret hT rfl (r := some (pvI i3z83_)) (M' := M) ⟨rfl, rfl⟩ ⟨⟨_, rfl, h3z83_⟩, rfl⟩
        · have b86_ : 1 ≤ Int32.toInt n2 ∧ Int32.toInt n2 ≤ 200000 := zr_nle_l 1 c84_ hn2 h4z83_ (by decide)
          have b87_ : 0 ≤ Int32.toInt i4z83_ ∧ Int32.toInt i4z83_ ≤ 199999 := zr_nle_r 199999 c84_ h4z83_ b86_ (by decide)
          have d88_ : Int32.toInt n2 > Int32.toInt i4z83_ := Int.not_le.mp ((not_congr (zi_le _ _)).mp c84_)
          refine pw_blk hT 4 (S' := (33, [some (pvR 124), some (pvI n1), some (pvI n2), some (pvI i3z83_), some (pvI i4z83_)], [pvR 124, pvI (M.1 124 3), pvI i4z83_], M)) rfl ⟨trivial, trivial, rfl, trivial, trivial⟩ ?_
          refine pw_callGp hT (as := [pvR 124]) (lo1 := [some (pvR 124)]) (d1 := d) (rest := [pvI (M.1 124 3), pvI i4z83_]) rfl rfl rfl rfl rfl (fun _ => rfl) (Nat.zero_le _) rfl rfl rfl (sf_X10_lastNow_124 M hok d) (fun x89_ b91_ => ?_)
          obtain ⟨q95_, b94_⟩ : (Int32.toInt ((M.1 124 3) + x89_) = Int32.toInt (M.1 124 3) + Int32.toInt x89_) ∧ (0 ≤ Int32.toInt ((M.1 124 3) + x89_) ∧ Int32.toInt ((M.1 124 3) + x89_) ≤ 207) := zadd_r (M.1 124 3) x89_ 0 207 b1_ b91_ (by decide) (by decide) (by decide) (by decide)
          refine pw_blk hT 1 (S' := (37, [some (pvR 124), some (pvI n1), some (pvI n2), some (pvI i3z83_), some (pvI i4z83_)], [pvI ((M.1 124 3) + x89_), pvI i4z83_], M)) rfl ⟨trivial, trivial⟩ ?_
          refine pw_ic hT (c := ((M.1 124 3) + x89_) ≤ i4z83_) rfl rfl (fun c96_ => ?_) (fun c96_ => ?_)
          · have d97_ : Int32.toInt ((M.1 124 3) + x89_) ≤ Int32.toInt i4z83_ := (zi_le _ _).mp c96_
            refine pw_blk hT 1 (S' := (56, [some (pvR 124), some (pvI n1), some (pvI n2), some (pvI i3z83_), some (pvI i4z83_)], [pvI i3z83_], M)) rfl ⟨trivial, trivial⟩ ?_
            exact pw_ret hT rfl (r := some (pvI i3z83_)) (M' := M) ⟨rfl, rfl⟩ ⟨⟨_, rfl, h3z83_⟩, rfl⟩
          · have b98_ : 1 ≤ Int32.toInt ((M.1 124 3) + x89_) ∧ Int32.toInt ((M.1 124 3) + x89_) ≤ 207 := zr_nle_l 1 c96_ b94_ b87_ (by decide)
            have b99_ : 0 ≤ Int32.toInt i4z83_ ∧ Int32.toInt i4z83_ ≤ 206 := zr_nle_r 206 c96_ b87_ b98_ (by decide)
            have d100_ : Int32.toInt ((M.1 124 3) + x89_) > Int32.toInt i4z83_ := Int.not_le.mp ((not_congr (zi_le _ _)).mp c96_)
            refine pw_blk hT 3 (S' := (44, [some (pvR 124), some (pvI n1), some (pvI n2), some (pvI i3z83_), some (pvI i4z83_)], [pvI i4z83_, pvR 124, pvI i3z83_], M)) rfl ⟨trivial, trivial, trivial, trivial⟩ ?_
            refine pw_callGp hT (as := [pvR 124, pvI i4z83_]) (lo1 := [some (pvR 124), some (pvI i4z83_), none, none]) (d1 := d) (rest := [pvI i3z83_]) rfl rfl rfl rfl rfl (fun _ => rfl) (Nat.zero_le _) rfl rfl rfl (sf_X10_harmAt_124_x M hok i4z83_ (zr_wide b99_ (by decide) (by decide)) d) (fun x101_ b103_ => ?_)
            obtain ⟨q107_, b106_⟩ : (Int32.toInt (i3z83_ + x101_) = Int32.toInt i3z83_ + Int32.toInt x101_) ∧ (0 ≤ Int32.toInt (i3z83_ + x101_) ∧ Int32.toInt (i3z83_ + x101_) ≤ 9084700) := zadd_r i3z83_ x101_ 0 9084700 h3z83_ b103_ (by decide) (by decide) (by decide) (by decide)
            obtain ⟨q109_, b108_⟩ : (Int32.toInt (i4z83_ + 1) = Int32.toInt i4z83_ + 1) ∧ (1 ≤ Int32.toInt (i4z83_ + 1) ∧ Int32.toInt (i4z83_ + 1) ≤ 207) := zadd_k i4z83_ 1 1 1 207 b99_ (by decide) (by decide) (by decide) (by decide) (by decide)
            refine pw_blk hT 4 (S' := (20, [some (pvR 124), some (pvI n1), some (pvI n2), some (pvI (i3z83_ + x101_)), some (pvI (i4z83_ + 1))], [], M)) rfl ⟨trivial, trivial, trivial, trivial, trivial⟩ ?_
            have j110_ : Int32.toInt (i3z83_ + x101_) ≤ 90000 * (Int32.toInt (i4z83_ + 1) - Int32.toInt (M.1 124 3)) := by omega
            have j111_ : 0 ≤ Int32.toInt (i3z83_ + x101_) := by omega
            have j112_ : Int32.toInt (M.1 124 3) ≤ Int32.toInt (i4z83_ + 1) := by omega
            have j113_ : Int32.toInt (i4z83_ + 1) ≤ Int32.toInt (M.1 124 3) + 99 ∨ Int32.toInt (i3z83_ + x101_) = 0 := by omega
            exact ihz83_ (i3z83_ + x101_) (i4z83_ + 1) (by have u0 := b106_; omega) (zr_wide b108_ (by decide) (by decide)) j110_ j111_ j112_ j113_ (zhid (pvms_up (zshow hmz83_) h4z83_ q109_ (by decide) (by decide)))
    have u114_ : Int32.toInt 0 = 0 := by decide
    have j115_ : Int32.toInt 0 ≤ 90000 * (Int32.toInt n1 - Int32.toInt (M.1 124 3)) := by omega
    have j116_ : 0 ≤ Int32.toInt 0 := by omega
    have j117_ : Int32.toInt (M.1 124 3) ≤ Int32.toInt n1 := by omega
    have j118_ : Int32.toInt n1 ≤ Int32.toInt (M.1 124 3) + 99 ∨ Int32.toInt 0 = 0 := by omega
    exact hlz83_ _ 0 n1 (zr_wide (show 0 ≤ Int32.toInt 0 ∧ Int32.toInt 0 ≤ 0 from (by decide)) (by decide) (by decide)) hn1 j115_ j116_ j117_ j118_ (zhid (Nat.lt_succ_self _))
  · have b119_ : 1 ≤ Int32.toInt (M.1 124 3) ∧ Int32.toInt (M.1 124 3) ≤ 108 := zr_nle_l 1 c2_ b1_ hn1 (by decide)
    have b120_ : 0 ≤ Int32.toInt n1 ∧ Int32.toInt n1 ≤ 107 := zr_nle_r 107 c2_ hn1 b119_ (by decide)
    have d121_ : Int32.toInt (M.1 124 3) > Int32.toInt n1 := Int.not_le.mp ((not_congr (zi_le _ _)).mp c2_)
    refine pw_blk hT 4 (S' := (20, [some (pvR 124), some (pvI n1), some (pvI n2), some (pvI 0), some (pvI (M.1 124 3))], [], M)) rfl ⟨trivial, rfl, trivial, trivial, trivial⟩ ?_
    have hlz201_ : ∀ (nz201_ : Nat) (i3z201_ : Int32) (i4z201_ : Int32), (0 ≤ Int32.toInt i3z201_ ∧ Int32.toInt i3z201_ ≤ 9000000) → (1 ≤ Int32.toInt i4z201_ ∧ Int32.toInt i4z201_ ≤ 207) → (Int32.toInt i3z201_ ≤ 90000 * (Int32.toInt i4z201_ - Int32.toInt (M.1 124 3))) → (0 ≤ Int32.toInt i3z201_) → (Int32.toInt (M.1 124 3) ≤ Int32.toInt i4z201_) → (Int32.toInt i4z201_ ≤ Int32.toInt (M.1 124 3) + 99 ∨ Int32.toInt i3z201_ = 0) → (zhide ((208 - Int32.toInt i4z201_).toNat < nz201_)) → PW 28 d (20, [some (pvR 124), some (pvI n1), some (pvI n2), some (pvI i3z201_), some (pvI i4z201_)], [], M) (fun r X => (∃ x : Int32, r = some (pvI x) ∧ 0 ≤ Int32.toInt x ∧ Int32.toInt x ≤ 9000000) ∧ X = M) := by
      intro nz201_
      induction nz201_ with
      | zero => intro i3z201_ i4z201_ h3z201_ h4z201_ j0z201_ j1z201_ j2z201_ j3z201_ hmz201_; exact absurd (zshow hmz201_) (Nat.not_lt_zero _)
      | succ nz201_ ihz201_ =>
        intro i3z201_ i4z201_ h3z201_ h4z201_ j0z201_ j1z201_ j2z201_ j3z201_ hmz201_
        refine pw_blk hT 2 (S' := (23, [some (pvR 124), some (pvI n1), some (pvI n2), some (pvI i3z201_), some (pvI i4z201_)], [pvI n2, pvI i4z201_], M)) rfl ⟨trivial, trivial, trivial⟩ ?_
        refine pw_ic hT (c := n2 ≤ i4z201_) rfl rfl (fun c202_ => ?_) (fun c202_ => ?_)
        · have b203_ : 0 ≤ Int32.toInt n2 ∧ Int32.toInt n2 ≤ 207 := zr_le_l 207 c202_ hn2 h4z201_ (by decide)
          have d204_ : Int32.toInt n2 ≤ Int32.toInt i4z201_ := (zi_le _ _).mp c202_
          refine pw_blk hT 1 (S' := (56, [some (pvR 124), some (pvI n1), some (pvI n2), some (pvI i3z201_), some (pvI i4z201_)], [pvI i3z201_], M)) rfl ⟨trivial, trivial⟩ ?_
          exact pw_ret hT rfl (r := some (pvI i3z201_)) (M' := M) ⟨rfl, rfl⟩ ⟨⟨_, rfl, h3z201_⟩, rfl⟩
        · have b205_ : 2 ≤ Int32.toInt n2 ∧ Int32.toInt n2 ≤ 200000 := zr_nle_l 2 c202_ hn2 h4z201_ (by decide)
          have d206_ : Int32.toInt n2 > Int32.toInt i4z201_ := Int.not_le.mp ((not_congr (zi_le _ _)).mp c202_)
          refine pw_blk hT 4 (S' := (33, [some (pvR 124), some (pvI n1), some (pvI n2), some (pvI i3z201_), some (pvI i4z201_)], [pvR 124, pvI (M.1 124 3), pvI i4z201_], M)) rfl ⟨trivial, trivial, rfl, trivial, trivial⟩ ?_
          refine pw_callGp hT (as := [pvR 124]) (lo1 := [some (pvR 124)]) (d1 := d) (rest := [pvI (M.1 124 3), pvI i4z201_]) rfl rfl rfl rfl rfl (fun _ => rfl) (Nat.zero_le _) rfl rfl rfl (sf_X10_lastNow_124 M hok d) (fun x207_ b209_ => ?_)
          obtain ⟨q213_, b212_⟩ : (Int32.toInt ((M.1 124 3) + x207_) = Int32.toInt (M.1 124 3) + Int32.toInt x207_) ∧ (1 ≤ Int32.toInt ((M.1 124 3) + x207_) ∧ Int32.toInt ((M.1 124 3) + x207_) ≤ 207) := zadd_r (M.1 124 3) x207_ 1 207 b119_ b209_ (by decide) (by decide) (by decide) (by decide)
          refine pw_blk hT 1 (S' := (37, [some (pvR 124), some (pvI n1), some (pvI n2), some (pvI i3z201_), some (pvI i4z201_)], [pvI ((M.1 124 3) + x207_), pvI i4z201_], M)) rfl ⟨trivial, trivial⟩ ?_
          refine pw_ic hT (c := ((M.1 124 3) + x207_) ≤ i4z201_) rfl rfl (fun c214_ => ?_) (fun c214_ => ?_)
          · have d215_ : Int32.toInt ((M.1 124 3) + x207_) ≤ Int32.toInt i4z201_ := (zi_le _ _).mp c214_
            refine pw_blk hT 1 (S' := (56, [some (pvR 124), some (pvI n1), some (pvI n2), some (pvI i3z201_), some (pvI i4z201_)], [pvI i3z201_], M)) rfl ⟨trivial, trivial⟩ ?_
            exact pw_ret hT rfl (r := some (pvI i3z201_)) (M' := M) ⟨rfl, rfl⟩ ⟨⟨_, rfl, h3z201_⟩, rfl⟩
          · have b216_ : 2 ≤ Int32.toInt ((M.1 124 3) + x207_) ∧ Int32.toInt ((M.1 124 3) + x207_) ≤ 207 := zr_nle_l 2 c214_ b212_ h4z201_ (by decide)
            have b217_ : 1 ≤ Int32.toInt i4z201_ ∧ Int32.toInt i4z201_ ≤ 206 := zr_nle_r 206 c214_ h4z201_ b216_ (by decide)
            have d218_ : Int32.toInt ((M.1 124 3) + x207_) > Int32.toInt i4z201_ := Int.not_le.mp ((not_congr (zi_le _ _)).mp c214_)
            refine pw_blk hT 3 (S' := (44, [some (pvR 124), some (pvI n1), some (pvI n2), some (pvI i3z201_), some (pvI i4z201_)], [pvI i4z201_, pvR 124, pvI i3z201_], M)) rfl ⟨trivial, trivial, trivial, trivial⟩ ?_
            refine pw_callGp hT (as := [pvR 124, pvI i4z201_]) (lo1 := [some (pvR 124), some (pvI i4z201_), none, none]) (d1 := d) (rest := [pvI i3z201_]) rfl rfl rfl rfl rfl (fun _ => rfl) (Nat.zero_le _) rfl rfl rfl (sf_X10_harmAt_124_x M hok i4z201_ (zr_wide b217_ (by decide) (by decide)) d) (fun x219_ b221_ => ?_)
            obtain ⟨q225_, b224_⟩ : (Int32.toInt (i3z201_ + x219_) = Int32.toInt i3z201_ + Int32.toInt x219_) ∧ (0 ≤ Int32.toInt (i3z201_ + x219_) ∧ Int32.toInt (i3z201_ + x219_) ≤ 9084700) := zadd_r i3z201_ x219_ 0 9084700 h3z201_ b221_ (by decide) (by decide) (by decide) (by decide)
            obtain ⟨q227_, b226_⟩ : (Int32.toInt (i4z201_ + 1) = Int32.toInt i4z201_ + 1) ∧ (2 ≤ Int32.toInt (i4z201_ + 1) ∧ Int32.toInt (i4z201_ + 1) ≤ 207) := zadd_k i4z201_ 1 1 2 207 b217_ (by decide) (by decide) (by decide) (by decide) (by decide)
            refine pw_blk hT 4 (S' := (20, [some (pvR 124), some (pvI n1), some (pvI n2), some (pvI (i3z201_ + x219_)), some (pvI (i4z201_ + 1))], [], M)) rfl ⟨trivial, trivial, trivial, trivial, trivial⟩ ?_
            have j228_ : Int32.toInt (i3z201_ + x219_) ≤ 90000 * (Int32.toInt (i4z201_ + 1) - Int32.toInt (M.1 124 3)) := by omega
            have j229_ : 0 ≤ Int32.toInt (i3z201_ + x219_) := by omega
            have j230_ : Int32.toInt (M.1 124 3) ≤ Int32.toInt (i4z201_ + 1) := by omega
            have j231_ : Int32.toInt (i4z201_ + 1) ≤ Int32.toInt (M.1 124 3) + 99 ∨ Int32.toInt (i3z201_ + x219_) = 0 := by omega
            exact ihz201_ (i3z201_ + x219_) (i4z201_ + 1) (by have u0 := b224_; omega) (zr_wide b226_ (by decide) (by decide)) j228_ j229_ j230_ j231_ (zhid (pvms_up (zshow hmz201_) h4z201_ q227_ (by decide) (by decide)))
    have u232_ : Int32.toInt 0 = 0 := by decide
    have j233_ : Int32.toInt 0 ≤ 90000 * (Int32.toInt (M.1 124 3) - Int32.toInt (M.1 124 3)) := by omega
    have j234_ : 0 ≤ Int32.toInt 0 := by omega
    have j235_ : Int32.toInt (M.1 124 3) ≤ Int32.toInt (M.1 124 3) := by omega
    have j236_ : Int32.toInt (M.1 124 3) ≤ Int32.toInt (M.1 124 3) + 99 ∨ Int32.toInt 0 = 0 := by omega
    exact hlz201_ _ 0 (M.1 124 3) (zr_wide (show 0 ≤ Int32.toInt 0 ∧ Int32.toInt 0 ≤ 0 from (by decide)) (by decide) (by decide)) (zr_wide b119_ (by decide) (by decide)) j233_ j234_ j235_ j236_ (zhid (Nat.lt_succ_self _))
set_option maxHeartbeats 4000000 in
set_option maxRecDepth 10000 in
theorem sf_X10_harmTillEnd_124 (M : pvM) (hok : pvOk M) (d : Nat) : PW 30 d (0, [some (pvR 124)], [], M) (fun r X => (∃ x : Int32, r = some (pvI x) ∧ 0 ≤ Int32.toInt x ∧ Int32.toInt x ≤ 9000000) ∧ X = M) := by
  have hT : pvdom 30 = pvD_30 := rfl
  have b1_ : 0 ≤ Int32.toInt (M.1 124 1) ∧ Int32.toInt (M.1 124 1) ≤ 9999 := pvok_r hok 124 1 rfl
  have b2_ : 0 ≤ Int32.toInt (M.1 124 3) ∧ Int32.toInt (M.1 124 3) ≤ 108 := pvok_r hok 124 3 rfl
  refine pw_blk hT 6 (S' := (10, [some (pvR 124)], [pvR 124, pvI (M.1 124 3), pvI (M.1 124 1), pvR 124], M)) rfl ⟨trivial, trivial, rfl, trivial, rfl, trivial, trivial⟩ ?_
  refine pw_callGp hT (as := [pvR 124]) (lo1 := [some (pvR 124)]) (d1 := d) (rest := [pvI (M.1 124 3), pvI (M.1 124 1), pvR 124]) rfl rfl rfl rfl rfl (fun _ => rfl) (Nat.zero_le _) rfl rfl rfl (sf_X10_lastNow_124 M hok d) (fun x3_ b5_ => ?_)
  obtain ⟨q9_, b8_⟩ : (Int32.toInt ((M.1 124 3) + x3_) = Int32.toInt (M.1 124 3) + Int32.toInt x3_) ∧ (0 ≤ Int32.toInt ((M.1 124 3) + x3_) ∧ Int32.toInt ((M.1 124 3) + x3_) ≤ 207) := zadd_r (M.1 124 3) x3_ 0 207 b2_ b5_ (by decide) (by decide) (by decide) (by decide)
  refine pw_blk hT 1 (S' := (14, [some (pvR 124)], [pvI ((M.1 124 3) + x3_), pvI (M.1 124 1), pvR 124], M)) rfl ⟨trivial, trivial⟩ ?_
  refine pw_callGp hT (as := [pvR 124, pvI (M.1 124 1), pvI ((M.1 124 3) + x3_)]) (lo1 := [some (pvR 124), some (pvI (M.1 124 1)), some (pvI ((M.1 124 3) + x3_)), none, none]) (d1 := d) (rest := []) rfl rfl rfl rfl rfl (fun _ => rfl) (Nat.zero_le _) rfl rfl rfl (sf_X10_harmFrom_124_x_x M hok (M.1 124 1) ((M.1 124 3) + x3_) (zr_wide b1_ (by decide) (by decide)) (zr_wide b8_ (by decide) (by decide)) d) (fun x10_ b12_ => ?_)
  exact pw_ret hT rfl (r := some (pvI x10_)) (M' := M) ⟨rfl, rfl⟩ ⟨⟨_, rfl, b12_⟩, rfl⟩
def fpL_X10_costOfPath_124_x : List (Nat × Nat × Nat) := [(0, 143, 0)]
def fp_X10_costOfPath_124_x (q k : Nat) : Bool := pvfp fpL_X10_costOfPath_124_x q k
theorem fp_X10_costOfPath_124_x_fp_X10_goes_124_x_x_x (a b : Nat) (h : fp_X10_goes_124_x_x_x a b = true) : fp_X10_costOfPath_124_x a b = true := pvfp_sub (l1 := fpL_X10_goes_124_x_x_x) (l2 := fpL_X10_costOfPath_124_x) (by decide) a b h
theorem fp_X10_costOfPath_124_x_fp_X10_layOpen_124 (a b : Nat) (h : fp_X10_layOpen_124 a b = true) : fp_X10_costOfPath_124_x a b = true := pvfp_sub (l1 := fpL_X10_layOpen_124) (l2 := fpL_X10_costOfPath_124_x) (by decide) a b h
set_option maxHeartbeats 4000000 in
set_option maxRecDepth 10000 in
theorem sf_X10_costOfPath_124_x (M : pvM) (hok : pvOk M) (n1 : Int32) (hn1 : 0 ≤ Int32.toInt n1 ∧ Int32.toInt n1 ≤ 60) (d : Nat) : PW 14 d (0, [some (pvR 124), some (pvI n1), none], [], M) (fun r X => (∃ x : Int32, r = some (pvI x) ∧ 0 ≤ Int32.toInt x ∧ Int32.toInt x ≤ 9000000) ∧ pvOk X ∧ pvFr fp_X10_costOfPath_124_x M X) := by
  have hT : pvdom 14 = pvD_14 := rfl
  refine pw_blk hT 1 (S' := (1, [some (pvR 124), some (pvI n1), none], [pvR 124], M)) rfl ⟨trivial, trivial⟩ ?_
  refine pw_callV hT (as := [pvR 124]) (lo1 := [some (pvR 124), none]) (d1 := d) (rest := []) rfl rfl rfl rfl rfl (fun _ => rfl) (Nat.zero_le _) rfl rfl rfl (sf_X10_layOpen_124 M hok d) (fun M2_ o4_ g5_ => ?_)
  have f6_ : pvFr fp_X10_costOfPath_124_x M M2_ := pvfr_t g5_ pvfr_0 fp_X10_costOfPath_124_x_fp_X10_layOpen_124
  have b7_ : 0 ≤ Int32.toInt (M2_.1 124 35) ∧ Int32.toInt (M2_.1 124 35) ≤ 7 := pvok_r o4_ 124 35 rfl
  have b8_ : 0 ≤ Int32.toInt (M2_.1 124 1) ∧ Int32.toInt (M2_.1 124 1) ≤ 9999 := pvok_r o4_ 124 1 rfl
  obtain ⟨q10_, b9_⟩ : (Int32.toInt ((M2_.1 124 1) + n1) = Int32.toInt (M2_.1 124 1) + Int32.toInt n1) ∧ (0 ≤ Int32.toInt ((M2_.1 124 1) + n1) ∧ Int32.toInt ((M2_.1 124 1) + n1) ≤ 10059) := zadd_r (M2_.1 124 1) n1 0 10059 b8_ hn1 (by decide) (by decide) (by decide) (by decide)
  refine pw_blk hT 8 (S' := (16, [some (pvR 124), some (pvI n1), none], [pvI ((M2_.1 124 1) + n1), pvI (M2_.1 124 35), pvI 0, pvR 124], M2_)) rfl ⟨trivial, trivial, trivial, rfl, trivial, rfl, trivial, trivial, trivial⟩ ?_
  refine pw_callG hT (as := [pvR 124, pvI 0, pvI (M2_.1 124 35), pvI ((M2_.1 124 1) + n1)]) (lo1 := [some (pvR 124), some (pvI 0), some (pvI (M2_.1 124 35)), some (pvI ((M2_.1 124 1) + n1)), none, none, none, none, none]) (d1 := d) (rest := []) rfl rfl rfl rfl rfl (fun _ => rfl) (Nat.zero_le _) rfl rfl rfl (sf_X10_goes_124_x_x_x M2_ o4_ 0 (M2_.1 124 35) ((M2_.1 124 1) + n1) (zr_wide (show 0 ≤ Int32.toInt 0 ∧ Int32.toInt 0 ≤ 0 from (by decide)) (by decide) (by decide)) b7_ (zr_wide b9_ (by decide) (by decide)) d) (fun x11_ M12_ b13_ o14_ g15_ => ?_)
  have f16_ : pvFr fp_X10_costOfPath_124_x M M12_ := pvfr_t g15_ f6_ fp_X10_costOfPath_124_x_fp_X10_goes_124_x_x_x
  refine pw_blk hT 2 (S' := (21, [some (pvR 124), some (pvI n1), some (pvI x11_)], [pvR 124], M12_)) rfl ⟨trivial, trivial, trivial⟩ ?_
  refine pw_callGp hT (as := [pvR 124]) (lo1 := [some (pvR 124)]) (d1 := d) (rest := []) rfl rfl rfl rfl rfl (fun _ => rfl) (Nat.zero_le _) rfl rfl rfl (sf_X10_harmTillEnd_124 M12_ o14_ d) (fun x17_ b19_ => ?_)
  exact pw_ret hT rfl (r := some (pvI x17_)) (M' := M12_) ⟨rfl, rfl⟩ ⟨⟨_, rfl, b19_⟩, o14_, f16_⟩
def fpL_X10_begin_124_x : List (Nat × Nat × Nat) := [(0, 124, 4), (0, 124, 33), (0, 124, 36), (0, 141, 0), (0, 142, 0), (0, 143, 0), (0, 144, 0)]
def fp_X10_begin_124_x (q k : Nat) : Bool := pvfp fpL_X10_begin_124_x q k
theorem fp_X10_begin_124_x_fp_X10_costOfPath_124_x (a b : Nat) (h : fp_X10_costOfPath_124_x a b = true) : fp_X10_begin_124_x a b = true := pvfp_sub (l1 := fpL_X10_costOfPath_124_x) (l2 := fpL_X10_begin_124_x) (by decide) a b h
theorem fp_X10_begin_124_x_fp_X10_layRain_124 (a b : Nat) (h : fp_X10_layRain_124 a b = true) : fp_X10_begin_124_x a b = true := pvfp_sub (l1 := fpL_X10_layRain_124) (l2 := fpL_X10_begin_124_x) (by decide) a b h
theorem fp_X10_begin_124_x_fp_X10_layRound_124 (a b : Nat) (h : fp_X10_layRound_124 a b = true) : fp_X10_begin_124_x a b = true := pvfp_sub (l1 := fpL_X10_layRound_124) (l2 := fpL_X10_begin_124_x) (by decide) a b h
set_option maxHeartbeats 4000000 in
set_option maxRecDepth 10000 in
theorem sf_X10_begin_124_x (M : pvM) (hok : pvOk M) (n1 : Int32) (d : Nat) : PW 8 d (0, [some (pvR 124), some (pvI n1), none, none, none, none], [], M) (fun r X => (∃ x : Int32, r = some (pvI x) ∧ (-1) ≤ Int32.toInt x ∧ Int32.toInt x ≤ 2147483647) ∧ pvOk X ∧ pvFr fp_X10_begin_124_x M X ∧ X.1 124 3 = M.1 124 3) := by
  have hT : pvdom 8 = pvD_8 := rfl
  refine pw_blk hT 4 (S' := (4, [some (pvR 124), some (pvI n1), none, none, none, none], [pvI 1, pvI 0, pvI n1, pvR 124], M)) rfl ⟨trivial, trivial, trivial, trivial, trivial⟩ ?_
  refine pw_callT hT (as := [pvR 124, pvI n1, pvI 0, pvI 1]) (lo1 := [some (pvR 124), some (pvI n1), some (pvI 0), some (pvI 1)]) (d1 := d) (rest := []) rfl rfl rfl rfl rfl (fun _ => rfl) (Nat.zero_le _) rfl rfl rfl (sf_X10_in_124_x_x_x M hok n1 0 1 d) ?_
  by_cases c6_ : n1 < 0
  · refine pw_eqI (if_pos c6_) ?_
    have b7_ : (-2147483648) ≤ Int32.toInt n1 ∧ Int32.toInt n1 ≤ (-1) := zr_lt_l (-1) c6_ (zbnd n1) (show 0 ≤ Int32.toInt 0 ∧ Int32.toInt 0 ≤ 0 from (by decide)) (by decide)
    show PW 8 d (7, [some (pvR 124), some (pvI n1), none, none, none, none], [pvI 0], M) _
    refine pw_ifn hT (c := 0 = 0) rfl rfl (fun c8_ => absurd (by decide) c8_) (fun c8_ => ?_)
    refine pw_blk hT 1 (S' := (11, [some (pvR 124), some (pvI n1), none, none, none, none], [pvI (-1)], M)) rfl ⟨trivial, trivial⟩ ?_
    exact pw_ret hT rfl (r := some (pvI (-1))) (M' := M) ⟨rfl, rfl⟩ ⟨⟨_, rfl, (zr_wide (show (-1) ≤ Int32.toInt (-1) ∧ Int32.toInt (-1) ≤ (-1) from (by decide)) (by decide) (by decide))⟩, hok, pvfr_0, rfl⟩
  · refine pw_eqI (if_neg c6_) ?_
    have b9_ : 0 ≤ Int32.toInt n1 ∧ Int32.toInt n1 ≤ 2147483647 := zr_nlt_l 0 c6_ (zbnd n1) (show 0 ≤ Int32.toInt 0 ∧ Int32.toInt 0 ≤ 0 from (by decide)) (by decide)
    by_cases c10_ : 1 < n1
    · refine pw_eqI (if_pos c10_) ?_
      have b11_ : 2 ≤ Int32.toInt n1 ∧ Int32.toInt n1 ≤ 2147483647 := zr_lt_r 2 c10_ b9_ (show 1 ≤ Int32.toInt 1 ∧ Int32.toInt 1 ≤ 1 from (by decide)) (by decide)
      show PW 8 d (7, [some (pvR 124), some (pvI n1), none, none, none, none], [pvI 0], M) _
      refine pw_ifn hT (c := 0 = 0) rfl rfl (fun c12_ => absurd (by decide) c12_) (fun c12_ => ?_)
      refine pw_blk hT 1 (S' := (11, [some (pvR 124), some (pvI n1), none, none, none, none], [pvI (-1)], M)) rfl ⟨trivial, trivial⟩ ?_
      exact pw_ret hT rfl (r := some (pvI (-1))) (M' := M) ⟨rfl, rfl⟩ ⟨⟨_, rfl, (zr_wide (show (-1) ≤ Int32.toInt (-1) ∧ Int32.toInt (-1) ≤ (-1) from (by decide)) (by decide) (by decide))⟩, hok, pvfr_0, rfl⟩
    · refine pw_eqI (if_neg c10_) ?_
      have b13_ : 0 ≤ Int32.toInt n1 ∧ Int32.toInt n1 ≤ 1 := zr_nlt_r 1 c10_ b9_ (show 1 ≤ Int32.toInt 1 ∧ Int32.toInt 1 ≤ 1 from (by decide)) (by decide)
      show PW 8 d (7, [some (pvR 124), some (pvI n1), none, none, none, none], [pvI 1], M) _
      refine pw_ifn hT (c := 1 = 0) rfl rfl (fun c14_ => ?_) (fun c14_ => absurd c14_ (by decide))
      have b15_ : 0 ≤ Int32.toInt (M.1 124 3) ∧ Int32.toInt (M.1 124 3) ≤ 108 := pvok_r hok 124 3 rfl
      refine pw_blk hT 8 (S' := (23, [some (pvR 124), some (pvI n1), some (pvI (M.1 124 3)), some (pvI 0), some (pvI (-1)), none], [pvR 124], M)) rfl ⟨trivial, rfl, trivial, trivial, trivial, trivial, trivial, trivial, trivial⟩ ?_
      refine pw_callV hT (as := [pvR 124]) (lo1 := [some (pvR 124), none, none]) (d1 := d) (rest := []) rfl rfl rfl rfl rfl (fun _ => rfl) (Nat.zero_le _) rfl rfl rfl (sf_X10_layRain_124 M hok d) (fun M17_ o19_ g20_ => ?_)
      have f21_ : pvFr fp_X10_begin_124_x M M17_ := pvfr_t g20_ pvfr_0 fp_X10_begin_124_x_fp_X10_layRain_124
      refine pw_blk hT 1 (S' := (27, [some (pvR 124), some (pvI n1), some (pvI (M.1 124 3)), some (pvI 0), some (pvI (-1)), none], [pvR 124], M17_)) rfl ⟨trivial, trivial⟩ ?_
      refine pw_callV hT (as := [pvR 124]) (lo1 := [some (pvR 124), none]) (d1 := d) (rest := []) rfl rfl rfl rfl rfl (fun _ => rfl) (Nat.zero_le _) rfl rfl rfl (sf_X10_layRound_124 M17_ o19_ d) (fun M23_ o25_ g26_ => ?_)
      have f27_ : pvFr fp_X10_begin_124_x M M23_ := pvfr_t g26_ f21_ fp_X10_begin_124_x_fp_X10_layRound_124
      refine pw_blkw hT 3 (pc := 35) (lo := [some (pvR 124), some (pvI n1), some (pvI (M.1 124 3)), some (pvI 0), some (pvI (-1)), none]) (st := []) (M := pvu M23_ 124 3 0) rfl ⟨trivial, trivial, rfl, trivial⟩ (fun M28_ e29_ => ?_)
      have o30_ : pvOk M28_ := pvok_u2 e29_ o25_ rfl (zr_wide (show 0 ≤ Int32.toInt 0 ∧ Int32.toInt 0 ≤ 0 from (by decide)) (by decide) (by decide))
      have f31_ : pvFr fp_X10_begin_124_x M M28_ := pvfr_u e29_ f27_ rfl
      have hlz160_ : ∀ (nz160_ : Nat) (i3z160_ : Int32) (i4z160_ : Int32) (v5z160_ : Option pvV) (Mz160_ : pvM), (pvOk Mz160_) → (pvFr fp_X10_begin_124_x M Mz160_) → (0 ≤ Int32.toInt i3z160_ ∧ Int32.toInt i3z160_ ≤ 2147483647) → ((-1) ≤ Int32.toInt i4z160_ ∧ Int32.toInt i4z160_ ≤ 2147483647) → (zhide ((101 - Int32.toInt (Mz160_.1 124 3)).toNat < nz160_)) → PW 8 d (35, [some (pvR 124), some (pvI n1), some (pvI (M.1 124 3)), some (pvI i3z160_), some (pvI i4z160_), v5z160_], [], Mz160_) (fun r X => (∃ x : Int32, r = some (pvI x) ∧ (-1) ≤ Int32.toInt x ∧ Int32.toInt x ≤ 2147483647) ∧ pvOk X ∧ pvFr fp_X10_begin_124_x M X ∧ X.1 124 3 = M.1 124 3) := by
        intro nz160_
        induction nz160_ with
        | zero => intro i3z160_ i4z160_ v5z160_ Mz160_ oz160_ fz160_ h3z160_ h4z160_ hmz160_; exact absurd (zshow hmz160_) (Nat.not_lt_zero _)
        | succ nz160_ ihz160_ =>
          intro i3z160_ i4z160_ v5z160_ Mz160_ oz160_ fz160_ h3z160_ h4z160_ hmz160_
          have b161_ : 0 ≤ Int32.toInt (Mz160_.1 124 3) ∧ Int32.toInt (Mz160_.1 124 3) ≤ 108 := pvok_r oz160_ 124 3 rfl
          refine pw_blk hT 3 (S' := (41, [some (pvR 124), some (pvI n1), some (pvI (M.1 124 3)), some (pvI i3z160_), some (pvI i4z160_), v5z160_], [pvI 100, pvI (Mz160_.1 124 3)], Mz160_)) rfl ⟨trivial, rfl, trivial, trivial⟩ ?_
          refine pw_ic hT (c := 100 ≤ (Mz160_.1 124 3)) rfl rfl (fun c162_ => ?_) (fun c162_ => ?_)
          · have b163_ : 100 ≤ Int32.toInt (Mz160_.1 124 3) ∧ Int32.toInt (Mz160_.1 124 3) ≤ 108 := zr_le_r 100 c162_ b161_ (show 100 ≤ Int32.toInt 100 ∧ Int32.toInt 100 ≤ 100 from (by decide)) (by decide)
            refine pw_blkw hT 3 (pc := 88) (lo := [some (pvR 124), some (pvI n1), some (pvI (M.1 124 3)), some (pvI i3z160_), some (pvI i4z160_), v5z160_]) (st := []) (M := pvu Mz160_ 124 3 (M.1 124 3)) rfl ⟨trivial, trivial, rfl, trivial⟩ (fun M164_ e165_ => ?_)
            have o166_ : pvOk M164_ := pvok_u2 e165_ oz160_ rfl b15_
            have f167_ : pvFr fp_X10_begin_124_x M M164_ := pvfr_u e165_ fz160_ rfl
            refine pw_blk hT 1 (S' := (89, [some (pvR 124), some (pvI n1), some (pvI (M.1 124 3)), some (pvI i3z160_), some (pvI i4z160_), v5z160_], [pvI n1], M164_)) rfl ⟨trivial, trivial⟩ ?_
            refine pw_ifn hT (c := n1 = 0) rfl rfl (fun c168_ => ?_) (fun c168_ => ?_)
            · have b169_ : 1 ≤ Int32.toInt n1 ∧ Int32.toInt n1 ≤ 1 := (by have u0 := b13_; have u1 := (not_congr (zi_eq _ _)).mp c168_; have u2 := (show 0 ≤ Int32.toInt 0 ∧ Int32.toInt 0 ≤ 0 from (by decide)); omega)
              refine pw_blk hT 1 (S' := (98, [some (pvR 124), some (pvI n1), some (pvI (M.1 124 3)), some (pvI i3z160_), some (pvI i4z160_), v5z160_], [pvI i4z160_], M164_)) rfl ⟨trivial, trivial⟩ ?_
              exact pw_ret hT rfl (r := some (pvI i4z160_)) (M' := M164_) ⟨rfl, rfl⟩ ⟨⟨_, rfl, h4z160_⟩, o166_, f167_, (pvu_s e165_)⟩
            · have b170_ : 0 ≤ Int32.toInt n1 ∧ Int32.toInt n1 ≤ 0 := (by have u0 := b13_; have u1 := (zi_eq _ _).mp c168_; have u2 := (show 0 ≤ Int32.toInt 0 ∧ Int32.toInt 0 ≤ 0 from (by decide)); omega)
              refine pw_blk hT 2 (S' := (98, [some (pvR 124), some (pvI n1), some (pvI (M.1 124 3)), some (pvI i3z160_), some (pvI i4z160_), v5z160_], [pvI i3z160_], M164_)) rfl ⟨trivial, trivial, trivial⟩ ?_
              exact pw_ret hT rfl (r := some (pvI i3z160_)) (M' := M164_) ⟨rfl, rfl⟩ ⟨⟨_, rfl, (zr_wide h3z160_ (by decide) (by decide))⟩, o166_, f167_, (pvu_s e165_)⟩
          · have b171_ : 0 ≤ Int32.toInt (Mz160_.1 124 3) ∧ Int32.toInt (Mz160_.1 124 3) ≤ 99 := zr_nle_r 99 c162_ b161_ (show 100 ≤ Int32.toInt 100 ∧ Int32.toInt 100 ≤ 100 from (by decide)) (by decide)
            refine pw_blk hT 2 (S' := (46, [some (pvR 124), some (pvI n1), some (pvI (M.1 124 3)), some (pvI i3z160_), some (pvI i4z160_), v5z160_], [pvI 0, pvR 124], Mz160_)) rfl ⟨trivial, trivial, trivial⟩ ?_
            refine pw_callG hT (as := [pvR 124, pvI 0]) (lo1 := [some (pvR 124), some (pvI 0), none]) (d1 := d) (rest := []) rfl rfl rfl rfl rfl (fun _ => rfl) (Nat.zero_le _) rfl rfl rfl (sf_X10_costOfPath_124_x Mz160_ oz160_ 0 (zr_wide (show 0 ≤ Int32.toInt 0 ∧ Int32.toInt 0 ≤ 0 from (by decide)) (by decide) (by decide)) d) (fun x172_ M173_ b174_ o175_ g176_ => ?_)
            have f177_ : pvFr fp_X10_begin_124_x M M173_ := pvfr_t g176_ fz160_ fp_X10_begin_124_x_fp_X10_costOfPath_124_x
            refine pw_blk hT 3 (S' := (55, [some (pvR 124), some (pvI n1), some (pvI (M.1 124 3)), some (pvI i3z160_), some (pvI i4z160_), some (pvI x172_)], [pvI i4z160_, pvI x172_], M173_)) rfl ⟨trivial, trivial, trivial, trivial⟩ ?_
            refine pw_ic hT (c := i4z160_ < x172_) rfl rfl (fun c178_ => ?_) (fun c178_ => ?_)
            · have b179_ : (-1) ≤ Int32.toInt i4z160_ ∧ Int32.toInt i4z160_ ≤ 8999999 := zr_lt_l 8999999 c178_ h4z160_ b174_ (by decide)
              have d180_ : Int32.toInt i4z160_ < Int32.toInt x172_ := (zi_lt _ _).mp c178_
              have e181_ : (M173_.1 124 3) = (Mz160_.1 124 3) := (g176_ 124 3 rfl)
              have b182_ : 0 ≤ Int32.toInt (M173_.1 124 3) ∧ Int32.toInt (M173_.1 124 3) ≤ 99 := (by rw [e181_]; exact b171_)
              obtain ⟨q184_, b183_⟩ : (Int32.toInt ((M173_.1 124 3) + 1) = Int32.toInt (M173_.1 124 3) + 1) ∧ (1 ≤ Int32.toInt ((M173_.1 124 3) + 1) ∧ Int32.toInt ((M173_.1 124 3) + 1) ≤ 100) := zadd_k (M173_.1 124 3) 1 1 1 100 b182_ (by decide) (by decide) (by decide) (by decide) (by decide)
              refine pw_blkw hT 11 (pc := 80) (lo := [some (pvR 124), some (pvI n1), some (pvI (M.1 124 3)), some (pvI (M173_.1 124 3)), some (pvI x172_), some (pvI x172_)]) (st := []) (M := pvu M173_ 124 3 ((M173_.1 124 3) + 1)) rfl ⟨trivial, rfl, trivial, trivial, trivial, trivial, trivial, rfl, trivial, trivial, rfl, trivial⟩ (fun M185_ e186_ => ?_)
              have o187_ : pvOk M185_ := pvok_u2 e186_ o175_ rfl (zr_wide b183_ (by decide) (by decide))
              have f188_ : pvFr fp_X10_begin_124_x M M185_ := pvfr_u e186_ f177_ rfl
              refine pw_blk hT 1 (S' := (35, [some (pvR 124), some (pvI n1), some (pvI (M.1 124 3)), some (pvI (M173_.1 124 3)), some (pvI x172_), some (pvI x172_)], [], M185_)) rfl ⟨trivial, trivial⟩ ?_
              exact ihz160_ (M173_.1 124 3) x172_ (some (pvI x172_)) M185_ o187_ f188_ (zr_wide b182_ (by decide) (by decide)) (zr_wide b174_ (by decide) (by decide)) (zhid (by have hm0 := zshow hmz160_; have z1 : Int32.toInt (M185_.1 124 3) = Int32.toInt ((M173_.1 124 3) + 1) := congrArg Int32.toInt (pvu_s e186_); have z2 : Int32.toInt (M173_.1 124 3) = Int32.toInt (Mz160_.1 124 3) := congrArg Int32.toInt (g176_ 124 3 rfl); omega))
            · have b189_ : 0 ≤ Int32.toInt i4z160_ ∧ Int32.toInt i4z160_ ≤ 2147483647 := zr_nlt_l 0 c178_ h4z160_ b174_ (by decide)
              have d190_ : Int32.toInt i4z160_ ≥ Int32.toInt x172_ := Int.not_lt.mp ((not_congr (zi_lt _ _)).mp c178_)
              have e191_ : (M173_.1 124 3) = (Mz160_.1 124 3) := (g176_ 124 3 rfl)
              have b192_ : 0 ≤ Int32.toInt (M173_.1 124 3) ∧ Int32.toInt (M173_.1 124 3) ≤ 99 := (by rw [e191_]; exact b171_)
              obtain ⟨q194_, b193_⟩ : (Int32.toInt ((M173_.1 124 3) + 1) = Int32.toInt (M173_.1 124 3) + 1) ∧ (1 ≤ Int32.toInt ((M173_.1 124 3) + 1) ∧ Int32.toInt ((M173_.1 124 3) + 1) ≤ 100) := zadd_k (M173_.1 124 3) 1 1 1 100 b192_ (by decide) (by decide) (by decide) (by decide) (by decide)
              refine pw_blkw hT 7 (pc := 80) (lo := [some (pvR 124), some (pvI n1), some (pvI (M.1 124 3)), some (pvI i3z160_), some (pvI i4z160_), some (pvI x172_)]) (st := []) (M := pvu M173_ 124 3 ((M173_.1 124 3) + 1)) rfl ⟨trivial, trivial, trivial, rfl, trivial, trivial, rfl, trivial⟩ (fun M195_ e196_ => ?_)
              have o197_ : pvOk M195_ := pvok_u2 e196_ o175_ rfl (zr_wide b193_ (by decide) (by decide))
              have f198_ : pvFr fp_X10_begin_124_x M M195_ := pvfr_u e196_ f177_ rfl
              refine pw_blk hT 1 (S' := (35, [some (pvR 124), some (pvI n1), some (pvI (M.1 124 3)), some (pvI i3z160_), some (pvI i4z160_), some (pvI x172_)], [], M195_)) rfl ⟨trivial, trivial⟩ ?_
              exact ihz160_ i3z160_ i4z160_ (some (pvI x172_)) M195_ o197_ f198_ h3z160_ (zr_wide b189_ (by decide) (by decide)) (zhid (by have hm0 := zshow hmz160_; have z1 : Int32.toInt (M195_.1 124 3) = Int32.toInt ((M173_.1 124 3) + 1) := congrArg Int32.toInt (pvu_s e196_); have z2 : Int32.toInt (M173_.1 124 3) = Int32.toInt (Mz160_.1 124 3) := congrArg Int32.toInt (g176_ 124 3 rfl); omega))
      exact hlz160_ _ 0 (-1) none M28_ o30_ f31_ (zr_wide (show 0 ≤ Int32.toInt 0 ∧ Int32.toInt 0 ≤ 0 from (by decide)) (by decide) (by decide)) (zr_wide (show (-1) ≤ Int32.toInt (-1) ∧ Int32.toInt (-1) ≤ (-1) from (by decide)) (by decide) (by decide)) (zhid (Nat.lt_succ_self _))
set_option maxHeartbeats 4000000 in
set_option maxRecDepth 10000 in
theorem sf_X10_openSet_124 (M : pvM) (hok : pvOk M) (d : Nat) : PW 61 d (0, [some (pvR 124), none, none], [], M) (fun r X => (∃ x : Int32, r = some (pvI x) ∧ True) ∧ X = M) := by
  have hT : pvdom 61 = pvD_61 := rfl
  refine pw_blk hT 4 (S' := (4, [some (pvR 124), some (pvI 0), some (pvI 0)], [], M)) rfl ⟨trivial, trivial, trivial, trivial, trivial⟩ ?_
  have hlz46_ : ∀ (nz46_ : Nat) (i1z46_ : Int32) (i2z46_ : Int32), (0 ≤ Int32.toInt i2z46_ ∧ Int32.toInt i2z46_ ≤ 7) → (zhide ((8 - Int32.toInt i2z46_).toNat < nz46_)) → PW 61 d (4, [some (pvR 124), some (pvI i1z46_), some (pvI i2z46_)], [], M) (fun r X => (∃ x : Int32, r = some (pvI x) ∧ True) ∧ X = M) := by
    intro nz46_
    induction nz46_ with
    | zero => intro i1z46_ i2z46_ h2z46_ hmz46_; exact absurd (zshow hmz46_) (Nat.not_lt_zero _)
    | succ nz46_ ihz46_ =>
      intro i1z46_ i2z46_ h2z46_ hmz46_
      have b47_ : 0 ≤ Int32.toInt (M.1 124 0) ∧ Int32.toInt (M.1 124 0) ≤ 7 := pvok_r hok 124 0 rfl
      refine pw_blk hT 3 (S' := (9, [some (pvR 124), some (pvI i1z46_), some (pvI i2z46_)], [pvI (M.1 124 0), pvI i2z46_], M)) rfl ⟨trivial, trivial, rfl, trivial⟩ ?_
      refine pw_ic hT (c := (M.1 124 0) ≤ i2z46_) rfl rfl (fun c48_ => ?_) (fun c48_ => ?_)
      · have d49_ : Int32.toInt (M.1 124 0) ≤ Int32.toInt i2z46_ := (zi_le _ _).mp c48_
        refine pw_blk hT 1 (S' := (38, [some (pvR 124), some (pvI i1z46_), some (pvI i2z46_)], [pvI i1z46_], M)) rfl ⟨trivial, trivial⟩ ?_
        exact pw_ret hT rfl (r := some (pvI i1z46_)) (M' := M) ⟨rfl, rfl⟩ ⟨⟨_, rfl, trivial⟩, rfl⟩
      · have b50_ : 1 ≤ Int32.toInt (M.1 124 0) ∧ Int32.toInt (M.1 124 0) ≤ 7 := zr_nle_l 1 c48_ b47_ h2z46_ (by decide)
        have b51_ : 0 ≤ Int32.toInt i2z46_ ∧ Int32.toInt i2z46_ ≤ 6 := zr_nle_r 6 c48_ h2z46_ b50_ (by decide)
        have d52_ : Int32.toInt (M.1 124 0) > Int32.toInt i2z46_ := Int.not_le.mp ((not_congr (zi_le _ _)).mp c48_)
        have b53_ : 0 ≤ Int32.toInt (M.1 131 (Int32.toNatClampNeg i2z46_)) ∧ Int32.toInt (M.1 131 (Int32.toNatClampNeg i2z46_)) ≤ 1 := pvok_r hok 131 (Int32.toNatClampNeg i2z46_) rfl
        refine pw_blk hT 5 (S' := (19, [some (pvR 124), some (pvI i1z46_), some (pvI i2z46_)], [pvI (M.1 131 (Int32.toNatClampNeg i2z46_)), pvI i1z46_], M)) rfl ⟨trivial, trivial, rfl, trivial, ⟨rfl, (zr_in (n := 7) b51_ (by decide) (by decide))⟩, trivial⟩ ?_
        refine pw_if hT (c := (M.1 131 (Int32.toNatClampNeg i2z46_)) = 0) rfl rfl (fun c54_ => ?_) (fun c54_ => ?_)
        · have b55_ : 0 ≤ Int32.toInt (M.1 131 (Int32.toNatClampNeg i2z46_)) ∧ Int32.toInt (M.1 131 (Int32.toNatClampNeg i2z46_)) ≤ 0 := (by have u0 := b53_; have u1 := (zi_eq _ _).mp c54_; have u2 := (show 0 ≤ Int32.toInt 0 ∧ Int32.toInt 0 ≤ 0 from (by decide)); omega)
          obtain ⟨q57_, b56_⟩ : (Int32.toInt (i2z46_ + 1) = Int32.toInt i2z46_ + 1) ∧ (1 ≤ Int32.toInt (i2z46_ + 1) ∧ Int32.toInt (i2z46_ + 1) ≤ 7) := zadd_k i2z46_ 1 1 1 7 b51_ (by decide) (by decide) (by decide) (by decide) (by decide)
          refine pw_blk hT 7 (S' := (4, [some (pvR 124), some (pvI (i1z46_ ||| (1 <<< (i2z46_ &&& 31)))), some (pvI (i2z46_ + 1))], [], M)) rfl ⟨trivial, trivial, trivial, trivial, trivial, trivial, trivial, trivial⟩ ?_
          exact ihz46_ (i1z46_ ||| (1 <<< (i2z46_ &&& 31))) (i2z46_ + 1) (zr_wide b56_ (by decide) (by decide)) (zhid (pvms_up (zshow hmz46_) h2z46_ q57_ (by decide) (by decide)))
        · have b58_ : 1 ≤ Int32.toInt (M.1 131 (Int32.toNatClampNeg i2z46_)) ∧ Int32.toInt (M.1 131 (Int32.toNatClampNeg i2z46_)) ≤ 1 := (by have u0 := b53_; have u1 := (not_congr (zi_eq _ _)).mp c54_; have u2 := (show 0 ≤ Int32.toInt 0 ∧ Int32.toInt 0 ≤ 0 from (by decide)); omega)
          obtain ⟨q60_, b59_⟩ : (Int32.toInt (i2z46_ + 1) = Int32.toInt i2z46_ + 1) ∧ (1 ≤ Int32.toInt (i2z46_ + 1) ∧ Int32.toInt (i2z46_ + 1) ≤ 7) := zadd_k i2z46_ 1 1 1 7 b51_ (by decide) (by decide) (by decide) (by decide) (by decide)
          refine pw_blk hT 6 (S' := (4, [some (pvR 124), some (pvI (i1z46_ ||| 0)), some (pvI (i2z46_ + 1))], [], M)) rfl ⟨trivial, trivial, trivial, trivial, trivial, trivial, trivial⟩ ?_
          exact ihz46_ (i1z46_ ||| 0) (i2z46_ + 1) (zr_wide b59_ (by decide) (by decide)) (zhid (pvms_up (zshow hmz46_) h2z46_ q60_ (by decide) (by decide)))
  exact hlz46_ _ 0 0 (zr_wide (show 0 ≤ Int32.toInt 0 ∧ Int32.toInt 0 ≤ 0 from (by decide)) (by decide) (by decide)) (zhid (Nat.lt_succ_self _))
def fpL_X10_layOrder_124_x_x : List (Nat × Nat × Nat) := [(0, 144, 0)]
def fp_X10_layOrder_124_x_x (q k : Nat) : Bool := pvfp fpL_X10_layOrder_124_x_x q k
theorem sf_X10_layOrder_124_x_x (M : pvM) (hok : pvOk M) (n1 : Int32) (n2 : Int32) (h2 : 0 ≤ Int32.toInt n2 ∧ Int32.toInt n2 ≤ 5040) (d : Nat) : PW 49 d (0, [some (pvR 124), some (pvI n1), some (pvI n2), none, none, none, none, none, none], [], M) (fun r X => (∃ x : Int32, r = some (pvI x) ∧ (0 ≤ Int32.toInt x ∧ Int32.toInt x ≤ 1) ∧ (Int32.toInt x ≤ 0 ∨ Int32.toInt n2 < 5040)) ∧ pvOk X ∧ pvFr fp_X10_layOrder_124_x_x M X) := sorry
set_option maxHeartbeats 4000000 in
set_option maxRecDepth 10000 in
theorem sf_X10_has_124_x_x (M : pvM) (hok : pvOk M) (n1 : Int32) (n2 : Int32) (d : Nat) : PW 31 d (0, [some (pvR 124), some (pvI n1), some (pvI n2)], [], M) (fun r X => r = some (pvI ((if ((n1 >>> (n2 &&& 31)) &&& 1) = 1 then 1 else 0))) ∧ X = M) := by
  have hT : pvdom 31 = pvD_31 := rfl
  have b1_ : 0 ≤ Int32.toInt ((n1 >>> (n2 &&& 31)) &&& 1) ∧ Int32.toInt ((n1 >>> (n2 &&& 31)) &&& 1) ≤ 1 := (pvand1 (n1 >>> (n2 &&& 31)))
  refine pw_blk hT 6 (S' := (6, [some (pvR 124), some (pvI n1), some (pvI n2)], [pvI 1, pvI ((n1 >>> (n2 &&& 31)) &&& 1)], M)) rfl ⟨trivial, trivial, trivial, trivial, trivial, trivial, trivial⟩ ?_
  refine pw_icn hT (c := ((n1 >>> (n2 &&& 31)) &&& 1) = 1) rfl rfl (fun c2_ => ?_) (fun c2_ => ?_)
  · have b3_ : 0 ≤ Int32.toInt ((n1 >>> (n2 &&& 31)) &&& 1) ∧ Int32.toInt ((n1 >>> (n2 &&& 31)) &&& 1) ≤ 0 := (by have u0 := b1_; have u1 := (not_congr (zi_eq _ _)).mp c2_; have u2 := (show 1 ≤ Int32.toInt 1 ∧ Int32.toInt 1 ≤ 1 from (by decide)); omega)
    refine pw_blk hT 1 (S' := (14, [some (pvR 124), some (pvI n1), some (pvI n2)], [pvI 0], M)) rfl ⟨trivial, trivial⟩ ?_
    exact pw_ret hT rfl (r := some (pvI 0)) (M' := M) ⟨Or.inl rfl, rfl, rfl⟩ ⟨(by rw [if_neg c2_]), rfl⟩
  · have b4_ : 1 ≤ Int32.toInt ((n1 >>> (n2 &&& 31)) &&& 1) ∧ Int32.toInt ((n1 >>> (n2 &&& 31)) &&& 1) ≤ 1 := (by have u0 := b1_; have u1 := (zi_eq _ _).mp c2_; have u2 := (show 1 ≤ Int32.toInt 1 ∧ Int32.toInt 1 ≤ 1 from (by decide)); omega)
    refine pw_blk hT 2 (S' := (14, [some (pvR 124), some (pvI n1), some (pvI n2)], [pvI 1], M)) rfl ⟨trivial, trivial, trivial⟩ ?_
    exact pw_ret hT rfl (r := some (pvI 1)) (M' := M) ⟨Or.inr rfl, rfl, rfl⟩ ⟨(by rw [if_pos c2_]), rfl⟩
def fpL_X10_best_124_x : List (Nat × Nat × Nat) := [(0, 124, 33), (0, 124, 36), (0, 141, 0), (0, 142, 0), (0, 143, 0), (0, 144, 0), (0, 146, 0)]
def fp_X10_best_124_x (q k : Nat) : Bool := pvfp fpL_X10_best_124_x q k
theorem fp_X10_best_124_x_fp_X10_costOfPath_124_x (a b : Nat) (h : fp_X10_costOfPath_124_x a b = true) : fp_X10_best_124_x a b = true := pvfp_sub (l1 := fpL_X10_costOfPath_124_x) (l2 := fpL_X10_best_124_x) (by decide) a b h
theorem fp_X10_best_124_x_fp_X10_layOrder_124_x_x (a b : Nat) (h : fp_X10_layOrder_124_x_x a b = true) : fp_X10_best_124_x a b = true := pvfp_sub (l1 := fpL_X10_layOrder_124_x_x) (l2 := fpL_X10_best_124_x) (by decide) a b h
theorem fp_X10_best_124_x_fp_X10_layRain_124 (a b : Nat) (h : fp_X10_layRain_124 a b = true) : fp_X10_best_124_x a b = true := pvfp_sub (l1 := fpL_X10_layRain_124) (l2 := fpL_X10_best_124_x) (by decide) a b h
set_option maxHeartbeats 4000000 in
set_option maxRecDepth 10000 in
theorem sf_X10_best_124_x (M : pvM) (hok : pvOk M) (n1 : Int32) (d : Nat) : PW 10 d (0, [some (pvR 124), some (pvI n1), none, none, none, none, none], [], M) (fun r X => (∃ x : Int32, r = some (pvI x) ∧ (-9) ≤ Int32.toInt x ∧ Int32.toInt x ≤ 9000000) ∧ pvOk X ∧ pvFr fp_X10_best_124_x M X) := by
  have hT : pvdom 10 = pvD_10 := rfl
  refine pw_blk hT 4 (S' := (4, [some (pvR 124), some (pvI n1), none, none, none, none, none], [pvI 4, pvI (-1), pvI n1, pvR 124], M)) rfl ⟨trivial, trivial, trivial, trivial, trivial⟩ ?_
  refine pw_callT hT (as := [pvR 124, pvI n1, pvI (-1), pvI 4]) (lo1 := [some (pvR 124), some (pvI n1), some (pvI (-1)), some (pvI 4)]) (d1 := d) (rest := []) rfl rfl rfl rfl rfl (fun _ => rfl) (Nat.zero_le _) rfl rfl rfl (sf_X10_in_124_x_x_x M hok n1 (-1) 4 d) ?_
  by_cases c6_ : n1 < (-1)
  · refine pw_eqI (if_pos c6_) ?_
    have b7_ : (-2147483648) ≤ Int32.toInt n1 ∧ Int32.toInt n1 ≤ (-2) := zr_lt_l (-2) c6_ (zbnd n1) (show (-1) ≤ Int32.toInt (-1) ∧ Int32.toInt (-1) ≤ (-1) from (by decide)) (by decide)
    show PW 10 d (7, [some (pvR 124), some (pvI n1), none, none, none, none, none], [pvI 0], M) _
    refine pw_ifn hT (c := 0 = 0) rfl rfl (fun c8_ => absurd (by decide) c8_) (fun c8_ => ?_)
    refine pw_blk hT 1 (S' := (11, [some (pvR 124), some (pvI n1), none, none, none, none, none], [pvI (-1)], M)) rfl ⟨trivial, trivial⟩ ?_
    exact pw_ret hT rfl (r := some (pvI (-1))) (M' := M) ⟨rfl, rfl⟩ ⟨⟨_, rfl, (zr_wide (show (-1) ≤ Int32.toInt (-1) ∧ Int32.toInt (-1) ≤ (-1) from (by decide)) (by decide) (by decide))⟩, hok, pvfr_0⟩
  · refine pw_eqI (if_neg c6_) ?_
    have b9_ : (-1) ≤ Int32.toInt n1 ∧ Int32.toInt n1 ≤ 2147483647 := zr_nlt_l (-1) c6_ (zbnd n1) (show (-1) ≤ Int32.toInt (-1) ∧ Int32.toInt (-1) ≤ (-1) from (by decide)) (by decide)
    by_cases c10_ : 4 < n1
    · refine pw_eqI (if_pos c10_) ?_
      have b11_ : 5 ≤ Int32.toInt n1 ∧ Int32.toInt n1 ≤ 2147483647 := zr_lt_r 5 c10_ b9_ (show 4 ≤ Int32.toInt 4 ∧ Int32.toInt 4 ≤ 4 from (by decide)) (by decide)
      show PW 10 d (7, [some (pvR 124), some (pvI n1), none, none, none, none, none], [pvI 0], M) _
      refine pw_ifn hT (c := 0 = 0) rfl rfl (fun c12_ => absurd (by decide) c12_) (fun c12_ => ?_)
      refine pw_blk hT 1 (S' := (11, [some (pvR 124), some (pvI n1), none, none, none, none, none], [pvI (-1)], M)) rfl ⟨trivial, trivial⟩ ?_
      exact pw_ret hT rfl (r := some (pvI (-1))) (M' := M) ⟨rfl, rfl⟩ ⟨⟨_, rfl, (zr_wide (show (-1) ≤ Int32.toInt (-1) ∧ Int32.toInt (-1) ≤ (-1) from (by decide)) (by decide) (by decide))⟩, hok, pvfr_0⟩
    · refine pw_eqI (if_neg c10_) ?_
      have b13_ : (-1) ≤ Int32.toInt n1 ∧ Int32.toInt n1 ≤ 4 := zr_nlt_r 4 c10_ b9_ (show 4 ≤ Int32.toInt 4 ∧ Int32.toInt 4 ≤ 4 from (by decide)) (by decide)
      show PW 10 d (7, [some (pvR 124), some (pvI n1), none, none, none, none, none], [pvI 1], M) _
      refine pw_ifn hT (c := 1 = 0) rfl rfl (fun c14_ => ?_) (fun c14_ => absurd c14_ (by decide))
      refine pw_blk hT 1 (S' := (13, [some (pvR 124), some (pvI n1), none, none, none, none, none], [pvR 124], M)) rfl ⟨trivial, trivial⟩ ?_
      refine pw_callGp hT (as := [pvR 124]) (lo1 := [some (pvR 124), none, none]) (d1 := d) (rest := []) rfl rfl rfl rfl rfl (fun _ => rfl) (Nat.zero_le _) rfl rfl rfl (sf_X10_openSet_124 M hok d) (fun x15_ b17_ => ?_)
      refine pw_blkw hT 4 (pc := 22) (lo := [some (pvR 124), some (pvI n1), some (pvI x15_), none, none, none, none]) (st := []) (M := pvu M 124 35 0) rfl ⟨trivial, trivial, trivial, rfl, trivial⟩ (fun M20_ e21_ => ?_)
      have o22_ : pvOk M20_ := pvok_u2 e21_ hok rfl (zr_wide (show 0 ≤ Int32.toInt 0 ∧ Int32.toInt 0 ≤ 0 from (by decide)) (by decide) (by decide))
      have f23_ : pvFr fp_X10_best_124_x M M20_ := pvfr_u e21_ pvfr_0 rfl
      refine pw_blk hT 2 (S' := (24, [some (pvR 124), some (pvI n1), some (pvI x15_), some (pvI 0), none, none, none], [], M20_)) rfl ⟨trivial, trivial, trivial⟩ ?_
      have hlz2867_ : ∀ (nz2867_ : Nat) (i3z2867_ : Int32) (Mz2867_ : pvM), (pvOk Mz2867_) → (pvFr fp_X10_best_124_x M Mz2867_) → (0 ≤ Int32.toInt i3z2867_ ∧ Int32.toInt i3z2867_ ≤ 7) → (Int32.toInt (Mz2867_.1 124 35) ≤ Int32.toInt i3z2867_) → (zhide ((8 - Int32.toInt i3z2867_).toNat < nz2867_)) → PW 10 d (24, [some (pvR 124), some (pvI n1), some (pvI x15_), some (pvI i3z2867_), none, none, none], [], Mz2867_) (fun r X => (∃ x : Int32, r = some (pvI x) ∧ (-9) ≤ Int32.toInt x ∧ Int32.toInt x ≤ 9000000) ∧ pvOk X ∧ pvFr fp_X10_best_124_x M X) := by
        intro nz2867_
        induction nz2867_ with
        | zero => intro i3z2867_ Mz2867_ oz2867_ fz2867_ h3z2867_ j0z2867_ hmz2867_; exact absurd (zshow hmz2867_) (Nat.not_lt_zero _)
        | succ nz2867_ ihz2867_ =>
          intro i3z2867_ Mz2867_ oz2867_ fz2867_ h3z2867_ j0z2867_ hmz2867_
          have b2868_ : 0 ≤ Int32.toInt (Mz2867_.1 124 35) ∧ Int32.toInt (Mz2867_.1 124 35) ≤ 7 := pvok_r oz2867_ 124 35 rfl
          have b2869_ : 0 ≤ Int32.toInt (Mz2867_.1 124 0) ∧ Int32.toInt (Mz2867_.1 124 0) ≤ 7 := pvok_r oz2867_ 124 0 rfl
          refine pw_blk hT 3 (S' := (29, [some (pvR 124), some (pvI n1), some (pvI x15_), some (pvI i3z2867_), none, none, none], [pvI (Mz2867_.1 124 0), pvI i3z2867_], Mz2867_)) rfl ⟨trivial, trivial, rfl, trivial⟩ ?_
          refine pw_ic hT (c := (Mz2867_.1 124 0) ≤ i3z2867_) rfl rfl (fun c2870_ => ?_) (fun c2870_ => ?_)
          · have d2871_ : Int32.toInt (Mz2867_.1 124 0) ≤ Int32.toInt i3z2867_ := (zi_le _ _).mp c2870_
            refine pw_blk hT 3 (S' := (66, [some (pvR 124), some (pvI n1), some (pvI x15_), some (pvI i3z2867_), none, none, none], [pvI 5, pvI (Mz2867_.1 124 35)], Mz2867_)) rfl ⟨trivial, rfl, trivial, trivial⟩ ?_
            refine pw_ic hT (c := (Mz2867_.1 124 35) ≤ 5) rfl rfl (fun c2872_ => ?_) (fun c2872_ => ?_)
            · have b2873_ : 0 ≤ Int32.toInt (Mz2867_.1 124 35) ∧ Int32.toInt (Mz2867_.1 124 35) ≤ 5 := zr_le_l 5 c2872_ b2868_ (show 5 ≤ Int32.toInt 5 ∧ Int32.toInt 5 ≤ 5 from (by decide)) (by decide)
              refine pw_blk hT 1 (S' := (73, [some (pvR 124), some (pvI n1), some (pvI x15_), some (pvI i3z2867_), none, none, none], [pvR 124], Mz2867_)) rfl ⟨trivial, trivial⟩ ?_
              refine pw_callV hT (as := [pvR 124]) (lo1 := [some (pvR 124), none, none]) (d1 := d) (rest := []) rfl rfl rfl rfl rfl (fun _ => rfl) (Nat.zero_le _) rfl rfl rfl (sf_X10_layRain_124 Mz2867_ oz2867_ d) (fun M2875_ o2877_ g2878_ => ?_)
              have f2879_ : pvFr fp_X10_best_124_x M M2875_ := pvfr_t g2878_ fz2867_ fp_X10_best_124_x_fp_X10_layRain_124
              refine pw_blk hT 4 (S' := (81, [some (pvR 124), some (pvI n1), some (pvI x15_), some (pvI (-1)), some (pvI 0), none, none], [], M2875_)) rfl ⟨trivial, trivial, trivial, trivial, trivial⟩ ?_
              have e2880_ : (M2875_.1 124 35) = (Mz2867_.1 124 35) := (g2878_ 124 35 rfl)
              have b2881_ : 0 ≤ Int32.toInt (M2875_.1 124 35) ∧ Int32.toInt (M2875_.1 124 35) ≤ 5 := (by rw [e2880_]; exact b2873_)
              have d2882_ : Int32.toInt (M2875_.1 124 35) = Int32.toInt (Mz2867_.1 124 35) := congrArg Int32.toInt e2880_
              have hlz3391_ : ∀ (nz3391_ : Nat) (i3z3391_ : Int32) (i4z3391_ : Int32) (v5z3391_ : Option pvV) (v6z3391_ : Option pvV) (Mz3391_ : pvM), (pvOk Mz3391_) → (pvFr fp_X10_best_124_x M Mz3391_) → (Mz3391_.1 124 35 = M2875_.1 124 35) → ((-1) ≤ Int32.toInt i3z3391_ ∧ Int32.toInt i3z3391_ ≤ 9000000) → (0 ≤ Int32.toInt i4z3391_ ∧ Int32.toInt i4z3391_ ≤ 5040) → (zhide ((5041 - Int32.toInt i4z3391_).toNat < nz3391_)) → PW 10 d (81, [some (pvR 124), some (pvI n1), some (pvI x15_), some (pvI i3z3391_), some (pvI i4z3391_), v5z3391_, v6z3391_], [], Mz3391_) (fun r X => (∃ x : Int32, r = some (pvI x) ∧ (-9) ≤ Int32.toInt x ∧ Int32.toInt x ≤ 9000000) ∧ pvOk X ∧ pvFr fp_X10_best_124_x M X) := by
                intro nz3391_
                induction nz3391_ with
                | zero => intro i3z3391_ i4z3391_ v5z3391_ v6z3391_ Mz3391_ oz3391_ fz3391_ k124_35z3391_ h3z3391_ h4z3391_ hmz3391_; exact absurd (zshow hmz3391_) (Nat.not_lt_zero _)
                | succ nz3391_ ihz3391_ =>
                  intro i3z3391_ i4z3391_ v5z3391_ v6z3391_ Mz3391_ oz3391_ fz3391_ k124_35z3391_ h3z3391_ h4z3391_ hmz3391_
                  refine pw_blk hT 3 (S' := (85, [some (pvR 124), some (pvI n1), some (pvI x15_), some (pvI i3z3391_), some (pvI i4z3391_), v5z3391_, v6z3391_], [pvI i4z3391_, pvI x15_, pvR 124], Mz3391_)) rfl ⟨trivial, trivial, trivial, trivial⟩ ?_
                  refine pw_callG hT (as := [pvR 124, pvI x15_, pvI i4z3391_]) (lo1 := [some (pvR 124), some (pvI x15_), some (pvI i4z3391_), none, none, none, none, none, none]) (d1 := d) (rest := []) rfl rfl rfl rfl rfl (fun _ => rfl) (Nat.zero_le _) rfl rfl rfl (sf_X10_layOrder_124_x_x Mz3391_ oz3391_ x15_ i4z3391_ (show 0 ≤ Int32.toInt i4z3391_ ∧ Int32.toInt i4z3391_ ≤ 5040 from (by omega)) d) (fun x3392_ M3393_ b3394_ o3395_ g3396_ => ?_)
                  have f3397_ : pvFr fp_X10_best_124_x M M3393_ := pvfr_t g3396_ fz3391_ fp_X10_best_124_x_fp_X10_layOrder_124_x_x
                  obtain ⟨b3398_, d3399_⟩ := b3394_
                  refine pw_if hT (c := x3392_ = 0) rfl rfl (fun c3400_ => ?_) (fun c3400_ => ?_)
                  · have b3401_ : 0 ≤ Int32.toInt x3392_ ∧ Int32.toInt x3392_ ≤ 0 := (by have u0 := b3398_; have u1 := (zi_eq _ _).mp c3400_; have u2 := (show 0 ≤ Int32.toInt 0 ∧ Int32.toInt 0 ≤ 0 from (by decide)); omega)
                    refine pw_blk hT 1 (S' := (151, [some (pvR 124), some (pvI n1), some (pvI x15_), some (pvI i3z3391_), some (pvI i4z3391_), v5z3391_, v6z3391_], [pvI n1], M3393_)) rfl ⟨trivial, trivial⟩ ?_
                    refine pw_if hT (c := 0 ≤ n1) rfl rfl (fun c3402_ => ?_) (fun c3402_ => ?_)
                    · have b3403_ : 0 ≤ Int32.toInt n1 ∧ Int32.toInt n1 ≤ 4 := zr_le_r 0 c3402_ b13_ (show 0 ≤ Int32.toInt 0 ∧ Int32.toInt 0 ≤ 0 from (by decide)) (by decide)
                      have e3404_ : (M3393_.1 124 35) = (M2875_.1 124 35) := ((g3396_ 124 35 rfl).trans (k124_35z3391_))
                      have b3405_ : 0 ≤ Int32.toInt (M3393_.1 124 35) ∧ Int32.toInt (M3393_.1 124 35) ≤ 5 := (by rw [e3404_]; exact b2881_)
                      have d3406_ : Int32.toInt (M3393_.1 124 35) = Int32.toInt (M2875_.1 124 35) := congrArg Int32.toInt e3404_
                      refine pw_blk hT 3 (S' := (163, [some (pvR 124), some (pvI n1), some (pvI x15_), some (pvI i3z3391_), some (pvI i4z3391_), v5z3391_, v6z3391_], [pvI (M3393_.1 124 35), pvI n1], M3393_)) rfl ⟨trivial, trivial, rfl, trivial⟩ ?_
                      refine pw_ic hT (c := (M3393_.1 124 35) ≤ n1) rfl rfl (fun c3407_ => ?_) (fun c3407_ => ?_)
                      · have b3408_ : 0 ≤ Int32.toInt (M3393_.1 124 35) ∧ Int32.toInt (M3393_.1 124 35) ≤ 4 := zr_le_l 4 c3407_ b3405_ b3403_ (by decide)
                        have d3409_ : Int32.toInt (M3393_.1 124 35) ≤ Int32.toInt n1 := (zi_le _ _).mp c3407_
                        refine pw_blk hT 1 (S' := (177, [some (pvR 124), some (pvI n1), some (pvI x15_), some (pvI i3z3391_), some (pvI i4z3391_), v5z3391_, v6z3391_], [pvI (-5)], M3393_)) rfl ⟨trivial, trivial⟩ ?_
                        exact pw_ret hT rfl (r := some (pvI (-5))) (M' := M3393_) ⟨rfl, rfl⟩ ⟨⟨_, rfl, (zr_wide (show (-5) ≤ Int32.toInt (-5) ∧ Int32.toInt (-5) ≤ (-5) from (by decide)) (by decide) (by decide))⟩, o3395_, f3397_⟩
                      · have b3410_ : 1 ≤ Int32.toInt (M3393_.1 124 35) ∧ Int32.toInt (M3393_.1 124 35) ≤ 5 := zr_nle_l 1 c3407_ b3405_ b3403_ (by decide)
                        have d3411_ : Int32.toInt (M3393_.1 124 35) > Int32.toInt n1 := Int.not_le.mp ((not_congr (zi_le _ _)).mp c3407_)
                        have b3412_ : 0 ≤ Int32.toInt (M3393_.1 146 (Int32.toNatClampNeg n1)) ∧ Int32.toInt (M3393_.1 146 (Int32.toNatClampNeg n1)) ≤ 6 := pvok_r o3395_ 146 (Int32.toNatClampNeg n1) rfl
                        refine pw_blk hT 5 (S' := (177, [some (pvR 124), some (pvI n1), some (pvI x15_), some (pvI i3z3391_), some (pvI i4z3391_), v5z3391_, v6z3391_], [pvI (M3393_.1 146 (Int32.toNatClampNeg n1))], M3393_)) rfl ⟨trivial, rfl, trivial, ⟨rfl, (zr_in (n := 7) b3403_ (by decide) (by decide))⟩, trivial, trivial⟩ ?_
                        exact pw_ret hT rfl (r := some (pvI (M3393_.1 146 (Int32.toNatClampNeg n1)))) (M' := M3393_) ⟨rfl, rfl⟩ ⟨⟨_, rfl, (zr_wide b3412_ (by decide) (by decide))⟩, o3395_, f3397_⟩
                    · have b3413_ : (-1) ≤ Int32.toInt n1 ∧ Int32.toInt n1 ≤ (-1) := zr_nle_r (-1) c3402_ b13_ (show 0 ≤ Int32.toInt 0 ∧ Int32.toInt 0 ≤ 0 from (by decide)) (by decide)
                      refine pw_blk hT 2 (S' := (177, [some (pvR 124), some (pvI n1), some (pvI x15_), some (pvI i3z3391_), some (pvI i4z3391_), v5z3391_, v6z3391_], [pvI i3z3391_], M3393_)) rfl ⟨trivial, trivial, trivial⟩ ?_
                      exact pw_ret hT rfl (r := some (pvI i3z3391_)) (M' := M3393_) ⟨rfl, rfl⟩ ⟨⟨_, rfl, (zr_wide h3z3391_ (by decide) (by decide))⟩, o3395_, f3397_⟩
                  · have b3414_ : 1 ≤ Int32.toInt x3392_ ∧ Int32.toInt x3392_ ≤ 1 := (by have u0 := b3398_; have u1 := (not_congr (zi_eq _ _)).mp c3400_; have u2 := (show 0 ≤ Int32.toInt 0 ∧ Int32.toInt 0 ≤ 0 from (by decide)); omega)
                    refine pw_blk hT 2 (S' := (93, [some (pvR 124), some (pvI n1), some (pvI x15_), some (pvI i3z3391_), some (pvI i4z3391_), v5z3391_, v6z3391_], [pvI 0, pvR 124], M3393_)) rfl ⟨trivial, trivial, trivial⟩ ?_
                    refine pw_callG hT (as := [pvR 124, pvI 0]) (lo1 := [some (pvR 124), some (pvI 0), none]) (d1 := d) (rest := []) rfl rfl rfl rfl rfl (fun _ => rfl) (Nat.zero_le _) rfl rfl rfl (sf_X10_costOfPath_124_x M3393_ o3395_ 0 (zr_wide (show 0 ≤ Int32.toInt 0 ∧ Int32.toInt 0 ≤ 0 from (by decide)) (by decide) (by decide)) d) (fun x3415_ M3416_ b3417_ o3418_ g3419_ => ?_)
                    have f3420_ : pvFr fp_X10_best_124_x M M3416_ := pvfr_t g3419_ f3397_ fp_X10_best_124_x_fp_X10_costOfPath_124_x
                    refine pw_blk hT 2 (S' := (99, [some (pvR 124), some (pvI n1), some (pvI x15_), some (pvI i3z3391_), some (pvI i4z3391_), some (pvI x3415_), v6z3391_], [pvI i3z3391_], M3416_)) rfl ⟨trivial, trivial, trivial⟩ ?_
                    refine pw_if hT (c := i3z3391_ < 0) rfl rfl (fun c3421_ => ?_) (fun c3421_ => ?_)
                    · have b3422_ : (-1) ≤ Int32.toInt i3z3391_ ∧ Int32.toInt i3z3391_ ≤ (-1) := zr_lt_l (-1) c3421_ h3z3391_ (show 0 ≤ Int32.toInt 0 ∧ Int32.toInt 0 ≤ 0 from (by decide)) (by decide)
                      refine pw_blk hT 4 (S' := (117, [some (pvR 124), some (pvI n1), some (pvI x15_), some (pvI x3415_), some (pvI i4z3391_), some (pvI x3415_), some (pvI 0)], [], M3416_)) rfl ⟨trivial, trivial, trivial, trivial, trivial⟩ ?_
                      have e3423_ : (M3416_.1 124 35) = (M2875_.1 124 35) := (((g3419_ 124 35 rfl).trans (g3396_ 124 35 rfl)).trans (k124_35z3391_))
                      have b3424_ : 0 ≤ Int32.toInt (M3416_.1 124 35) ∧ Int32.toInt (M3416_.1 124 35) ≤ 5 := (by rw [e3423_]; exact b2881_)
                      have d3425_ : Int32.toInt (M3416_.1 124 35) = Int32.toInt (M2875_.1 124 35) := congrArg Int32.toInt e3423_
                      have hlz3474_ : ∀ (nz3474_ : Nat) (i6z3474_ : Int32) (Mz3474_ : pvM), (pvOk Mz3474_) → (pvFr fp_X10_best_124_x M Mz3474_) → (Mz3474_.1 124 35 = M3416_.1 124 35) → (0 ≤ Int32.toInt i6z3474_ ∧ Int32.toInt i6z3474_ ≤ 7) → (zhide ((8 - Int32.toInt i6z3474_).toNat < nz3474_)) → PW 10 d (117, [some (pvR 124), some (pvI n1), some (pvI x15_), some (pvI x3415_), some (pvI i4z3391_), some (pvI x3415_), some (pvI i6z3474_)], [], Mz3474_) (fun r X => (∃ x : Int32, r = some (pvI x) ∧ (-9) ≤ Int32.toInt x ∧ Int32.toInt x ≤ 9000000) ∧ pvOk X ∧ pvFr fp_X10_best_124_x M X) := by
                        intro nz3474_
                        induction nz3474_ with
                        | zero => intro i6z3474_ Mz3474_ oz3474_ fz3474_ k124_35z3474_ h6z3474_ hmz3474_; exact absurd (zshow hmz3474_) (Nat.not_lt_zero _)
                        | succ nz3474_ ihz3474_ =>
                          intro i6z3474_ Mz3474_ oz3474_ fz3474_ k124_35z3474_ h6z3474_ hmz3474_
                          refine pw_blk hT 2 (S' := (121, [some (pvR 124), some (pvI n1), some (pvI x15_), some (pvI x3415_), some (pvI i4z3391_), some (pvI x3415_), some (pvI i6z3474_)], [pvI 7, pvI i6z3474_], Mz3474_)) rfl ⟨trivial, trivial, trivial⟩ ?_
                          refine pw_ic hT (c := 7 ≤ i6z3474_) rfl rfl (fun c3475_ => ?_) (fun c3475_ => ?_)
                          · have b3476_ : 7 ≤ Int32.toInt i6z3474_ ∧ Int32.toInt i6z3474_ ≤ 7 := zr_le_r 7 c3475_ h6z3474_ (show 7 ≤ Int32.toInt 7 ∧ Int32.toInt 7 ≤ 7 from (by decide)) (by decide)
                            obtain ⟨q3478_, b3477_⟩ : (Int32.toInt (i4z3391_ + 1) = Int32.toInt i4z3391_ + 1) ∧ (1 ≤ Int32.toInt (i4z3391_ + 1) ∧ Int32.toInt (i4z3391_ + 1) ≤ 5041) := zadd_k i4z3391_ 1 1 1 5041 h4z3391_ (by decide) (by decide) (by decide) (by decide) (by decide)
                            refine pw_blk hT 2 (S' := (81, [some (pvR 124), some (pvI n1), some (pvI x15_), some (pvI x3415_), some (pvI (i4z3391_ + 1)), some (pvI x3415_), some (pvI i6z3474_)], [], Mz3474_)) rfl ⟨trivial, trivial, trivial⟩ ?_
                            exact ihz3391_ x3415_ (i4z3391_ + 1) (some (pvI x3415_)) (some (pvI i6z3474_)) Mz3474_ oz3474_ fz3474_ ((((k124_35z3474_).trans (g3419_ 124 35 rfl)).trans (g3396_ 124 35 rfl)).trans (k124_35z3391_)) (zr_wide b3417_ (by decide) (by decide)) (by have u0 := b3477_; omega) (zhid (pvms_up (zshow hmz3391_) h4z3391_ q3478_ (by decide) (by decide)))
                          · have b3479_ : 0 ≤ Int32.toInt i6z3474_ ∧ Int32.toInt i6z3474_ ≤ 6 := zr_nle_r 6 c3475_ h6z3474_ (show 7 ≤ Int32.toInt 7 ∧ Int32.toInt 7 ≤ 7 from (by decide)) (by decide)
                            have b3480_ : 0 ≤ Int32.toInt (Mz3474_.1 144 (Int32.toNatClampNeg i6z3474_)) ∧ Int32.toInt (Mz3474_.1 144 (Int32.toNatClampNeg i6z3474_)) ≤ 6 := pvok_r oz3474_ 144 (Int32.toNatClampNeg i6z3474_) rfl
                            refine pw_blkw hT 8 (pc := 138) (lo := [some (pvR 124), some (pvI n1), some (pvI x15_), some (pvI x3415_), some (pvI i4z3391_), some (pvI x3415_), some (pvI i6z3474_)]) (st := []) (M := pvu Mz3474_ 146 (Int32.toNatClampNeg i6z3474_) (Mz3474_.1 144 (Int32.toNatClampNeg i6z3474_))) rfl ⟨trivial, rfl, trivial, trivial, rfl, trivial, ⟨rfl, (zr_in (n := 7) b3479_ (by decide) (by decide))⟩, ⟨rfl, (zr_in (n := 7) b3479_ (by decide) (by decide))⟩, trivial⟩ (fun M3481_ e3482_ => ?_)
                            have o3483_ : pvOk M3481_ := pvok_u2 e3482_ oz3474_ rfl b3480_
                            have f3484_ : pvFr fp_X10_best_124_x M M3481_ := pvfr_u e3482_ fz3474_ rfl
                            obtain ⟨q3486_, b3485_⟩ : (Int32.toInt (i6z3474_ + 1) = Int32.toInt i6z3474_ + 1) ∧ (1 ≤ Int32.toInt (i6z3474_ + 1) ∧ Int32.toInt (i6z3474_ + 1) ≤ 7) := zadd_k i6z3474_ 1 1 1 7 b3479_ (by decide) (by decide) (by decide) (by decide) (by decide)
                            refine pw_blk hT 2 (S' := (117, [some (pvR 124), some (pvI n1), some (pvI x15_), some (pvI x3415_), some (pvI i4z3391_), some (pvI x3415_), some (pvI (i6z3474_ + 1))], [], M3481_)) rfl ⟨trivial, trivial, trivial⟩ ?_
                            exact ihz3474_ (i6z3474_ + 1) M3481_ o3483_ f3484_ ((pvu_n e3482_ 124 35 (Or.inl (by decide))).trans (k124_35z3474_)) (zr_wide b3485_ (by decide) (by decide)) (zhid (pvms_up (zshow hmz3474_) h6z3474_ q3486_ (by decide) (by decide)))
                      exact hlz3474_ _ 0 M3416_ o3418_ f3420_ rfl (zr_wide (show 0 ≤ Int32.toInt 0 ∧ Int32.toInt 0 ≤ 0 from (by decide)) (by decide) (by decide)) (zhid (Nat.lt_succ_self _))
                    · have b3487_ : 0 ≤ Int32.toInt i3z3391_ ∧ Int32.toInt i3z3391_ ≤ 9000000 := zr_nlt_l 0 c3421_ h3z3391_ (show 0 ≤ Int32.toInt 0 ∧ Int32.toInt 0 ≤ 0 from (by decide)) (by decide)
                      refine pw_blk hT 2 (S' := (105, [some (pvR 124), some (pvI n1), some (pvI x15_), some (pvI i3z3391_), some (pvI i4z3391_), some (pvI x3415_), v6z3391_], [pvI i3z3391_, pvI x3415_], M3416_)) rfl ⟨trivial, trivial, trivial⟩ ?_
                      refine pw_ic hT (c := x3415_ < i3z3391_) rfl rfl (fun c3488_ => ?_) (fun c3488_ => ?_)
                      · have b3489_ : 0 ≤ Int32.toInt x3415_ ∧ Int32.toInt x3415_ ≤ 8999999 := zr_lt_l 8999999 c3488_ b3417_ b3487_ (by decide)
                        have b3490_ : 1 ≤ Int32.toInt i3z3391_ ∧ Int32.toInt i3z3391_ ≤ 9000000 := zr_lt_r 1 c3488_ b3487_ b3489_ (by decide)
                        have d3491_ : Int32.toInt x3415_ < Int32.toInt i3z3391_ := (zi_lt _ _).mp c3488_
                        refine pw_blk hT 4 (S' := (117, [some (pvR 124), some (pvI n1), some (pvI x15_), some (pvI x3415_), some (pvI i4z3391_), some (pvI x3415_), some (pvI 0)], [], M3416_)) rfl ⟨trivial, trivial, trivial, trivial, trivial⟩ ?_
                        have e3492_ : (M3416_.1 124 35) = (M2875_.1 124 35) := (((g3419_ 124 35 rfl).trans (g3396_ 124 35 rfl)).trans (k124_35z3391_))
                        have b3493_ : 0 ≤ Int32.toInt (M3416_.1 124 35) ∧ Int32.toInt (M3416_.1 124 35) ≤ 5 := (by rw [e3492_]; exact b2881_)
                        have d3494_ : Int32.toInt (M3416_.1 124 35) = Int32.toInt (M2875_.1 124 35) := congrArg Int32.toInt e3492_
                        have hlz3543_ : ∀ (nz3543_ : Nat) (i6z3543_ : Int32) (Mz3543_ : pvM), (pvOk Mz3543_) → (pvFr fp_X10_best_124_x M Mz3543_) → (Mz3543_.1 124 35 = M3416_.1 124 35) → (0 ≤ Int32.toInt i6z3543_ ∧ Int32.toInt i6z3543_ ≤ 7) → (zhide ((8 - Int32.toInt i6z3543_).toNat < nz3543_)) → PW 10 d (117, [some (pvR 124), some (pvI n1), some (pvI x15_), some (pvI x3415_), some (pvI i4z3391_), some (pvI x3415_), some (pvI i6z3543_)], [], Mz3543_) (fun r X => (∃ x : Int32, r = some (pvI x) ∧ (-9) ≤ Int32.toInt x ∧ Int32.toInt x ≤ 9000000) ∧ pvOk X ∧ pvFr fp_X10_best_124_x M X) := by
                          intro nz3543_
                          induction nz3543_ with
                          | zero => intro i6z3543_ Mz3543_ oz3543_ fz3543_ k124_35z3543_ h6z3543_ hmz3543_; exact absurd (zshow hmz3543_) (Nat.not_lt_zero _)
                          | succ nz3543_ ihz3543_ =>
                            intro i6z3543_ Mz3543_ oz3543_ fz3543_ k124_35z3543_ h6z3543_ hmz3543_
                            refine pw_blk hT 2 (S' := (121, [some (pvR 124), some (pvI n1), some (pvI x15_), some (pvI x3415_), some (pvI i4z3391_), some (pvI x3415_), some (pvI i6z3543_)], [pvI 7, pvI i6z3543_], Mz3543_)) rfl ⟨trivial, trivial, trivial⟩ ?_
                            refine pw_ic hT (c := 7 ≤ i6z3543_) rfl rfl (fun c3544_ => ?_) (fun c3544_ => ?_)
                            · have b3545_ : 7 ≤ Int32.toInt i6z3543_ ∧ Int32.toInt i6z3543_ ≤ 7 := zr_le_r 7 c3544_ h6z3543_ (show 7 ≤ Int32.toInt 7 ∧ Int32.toInt 7 ≤ 7 from (by decide)) (by decide)
                              obtain ⟨q3547_, b3546_⟩ : (Int32.toInt (i4z3391_ + 1) = Int32.toInt i4z3391_ + 1) ∧ (1 ≤ Int32.toInt (i4z3391_ + 1) ∧ Int32.toInt (i4z3391_ + 1) ≤ 5041) := zadd_k i4z3391_ 1 1 1 5041 h4z3391_ (by decide) (by decide) (by decide) (by decide) (by decide)
                              refine pw_blk hT 2 (S' := (81, [some (pvR 124), some (pvI n1), some (pvI x15_), some (pvI x3415_), some (pvI (i4z3391_ + 1)), some (pvI x3415_), some (pvI i6z3543_)], [], Mz3543_)) rfl ⟨trivial, trivial, trivial⟩ ?_
                              exact ihz3391_ x3415_ (i4z3391_ + 1) (some (pvI x3415_)) (some (pvI i6z3543_)) Mz3543_ oz3543_ fz3543_ ((((k124_35z3543_).trans (g3419_ 124 35 rfl)).trans (g3396_ 124 35 rfl)).trans (k124_35z3391_)) (zr_wide b3489_ (by decide) (by decide)) (by have u0 := b3546_; omega) (zhid (pvms_up (zshow hmz3391_) h4z3391_ q3547_ (by decide) (by decide)))
                            · have b3548_ : 0 ≤ Int32.toInt i6z3543_ ∧ Int32.toInt i6z3543_ ≤ 6 := zr_nle_r 6 c3544_ h6z3543_ (show 7 ≤ Int32.toInt 7 ∧ Int32.toInt 7 ≤ 7 from (by decide)) (by decide)
                              have b3549_ : 0 ≤ Int32.toInt (Mz3543_.1 144 (Int32.toNatClampNeg i6z3543_)) ∧ Int32.toInt (Mz3543_.1 144 (Int32.toNatClampNeg i6z3543_)) ≤ 6 := pvok_r oz3543_ 144 (Int32.toNatClampNeg i6z3543_) rfl
                              refine pw_blkw hT 8 (pc := 138) (lo := [some (pvR 124), some (pvI n1), some (pvI x15_), some (pvI x3415_), some (pvI i4z3391_), some (pvI x3415_), some (pvI i6z3543_)]) (st := []) (M := pvu Mz3543_ 146 (Int32.toNatClampNeg i6z3543_) (Mz3543_.1 144 (Int32.toNatClampNeg i6z3543_))) rfl ⟨trivial, rfl, trivial, trivial, rfl, trivial, ⟨rfl, (zr_in (n := 7) b3548_ (by decide) (by decide))⟩, ⟨rfl, (zr_in (n := 7) b3548_ (by decide) (by decide))⟩, trivial⟩ (fun M3550_ e3551_ => ?_)
                              have o3552_ : pvOk M3550_ := pvok_u2 e3551_ oz3543_ rfl b3549_
                              have f3553_ : pvFr fp_X10_best_124_x M M3550_ := pvfr_u e3551_ fz3543_ rfl
                              obtain ⟨q3555_, b3554_⟩ : (Int32.toInt (i6z3543_ + 1) = Int32.toInt i6z3543_ + 1) ∧ (1 ≤ Int32.toInt (i6z3543_ + 1) ∧ Int32.toInt (i6z3543_ + 1) ≤ 7) := zadd_k i6z3543_ 1 1 1 7 b3548_ (by decide) (by decide) (by decide) (by decide) (by decide)
                              refine pw_blk hT 2 (S' := (117, [some (pvR 124), some (pvI n1), some (pvI x15_), some (pvI x3415_), some (pvI i4z3391_), some (pvI x3415_), some (pvI (i6z3543_ + 1))], [], M3550_)) rfl ⟨trivial, trivial, trivial⟩ ?_
                              exact ihz3543_ (i6z3543_ + 1) M3550_ o3552_ f3553_ ((pvu_n e3551_ 124 35 (Or.inl (by decide))).trans (k124_35z3543_)) (zr_wide b3554_ (by decide) (by decide)) (zhid (pvms_up (zshow hmz3543_) h6z3543_ q3555_ (by decide) (by decide)))
                        exact hlz3543_ _ 0 M3416_ o3418_ f3420_ rfl (zr_wide (show 0 ≤ Int32.toInt 0 ∧ Int32.toInt 0 ≤ 0 from (by decide)) (by decide) (by decide)) (zhid (Nat.lt_succ_self _))
                      · have d3556_ : Int32.toInt x3415_ ≥ Int32.toInt i3z3391_ := Int.not_lt.mp ((not_congr (zi_lt _ _)).mp c3488_)
                        obtain ⟨q3558_, b3557_⟩ : (Int32.toInt (i4z3391_ + 1) = Int32.toInt i4z3391_ + 1) ∧ (1 ≤ Int32.toInt (i4z3391_ + 1) ∧ Int32.toInt (i4z3391_ + 1) ≤ 5041) := zadd_k i4z3391_ 1 1 1 5041 h4z3391_ (by decide) (by decide) (by decide) (by decide) (by decide)
                        refine pw_blk hT 3 (S' := (81, [some (pvR 124), some (pvI n1), some (pvI x15_), some (pvI i3z3391_), some (pvI (i4z3391_ + 1)), some (pvI x3415_), v6z3391_], [], M3416_)) rfl ⟨trivial, trivial, trivial, trivial⟩ ?_
                        exact ihz3391_ i3z3391_ (i4z3391_ + 1) (some (pvI x3415_)) v6z3391_ M3416_ o3418_ f3420_ (((g3419_ 124 35 rfl).trans (g3396_ 124 35 rfl)).trans (k124_35z3391_)) (zr_wide b3487_ (by decide) (by decide)) (by have u0 := b3557_; omega) (zhid (pvms_up (zshow hmz3391_) h4z3391_ q3558_ (by decide) (by decide)))
              exact hlz3391_ _ (-1) 0 none none M2875_ o2877_ f2879_ rfl (zr_wide (show (-1) ≤ Int32.toInt (-1) ∧ Int32.toInt (-1) ≤ (-1) from (by decide)) (by decide) (by decide)) (zr_wide (show 0 ≤ Int32.toInt 0 ∧ Int32.toInt 0 ≤ 0 from (by decide)) (by decide) (by decide)) (zhid (Nat.lt_succ_self _))
            · have b3559_ : 6 ≤ Int32.toInt (Mz2867_.1 124 35) ∧ Int32.toInt (Mz2867_.1 124 35) ≤ 7 := zr_nle_l 6 c2872_ b2868_ (show 5 ≤ Int32.toInt 5 ∧ Int32.toInt 5 ≤ 5 from (by decide)) (by decide)
              refine pw_blk hT 1 (S' := (71, [some (pvR 124), some (pvI n1), some (pvI x15_), some (pvI i3z2867_), none, none, none], [pvI (-9)], Mz2867_)) rfl ⟨trivial, trivial⟩ ?_
              exact pw_ret hT rfl (r := some (pvI (-9))) (M' := Mz2867_) ⟨rfl, rfl⟩ ⟨⟨_, rfl, (zr_wide (show (-9) ≤ Int32.toInt (-9) ∧ Int32.toInt (-9) ≤ (-9) from (by decide)) (by decide) (by decide))⟩, oz2867_, fz2867_⟩
          · have b3560_ : 1 ≤ Int32.toInt (Mz2867_.1 124 0) ∧ Int32.toInt (Mz2867_.1 124 0) ≤ 7 := zr_nle_l 1 c2870_ b2869_ h3z2867_ (by decide)
            have b3561_ : 0 ≤ Int32.toInt i3z2867_ ∧ Int32.toInt i3z2867_ ≤ 6 := zr_nle_r 6 c2870_ h3z2867_ b3560_ (by decide)
            have d3562_ : Int32.toInt (Mz2867_.1 124 0) > Int32.toInt i3z2867_ := Int.not_le.mp ((not_congr (zi_le _ _)).mp c2870_)
            refine pw_blk hT 6 (S' := (40, [some (pvR 124), some (pvI n1), some (pvI x15_), some (pvI i3z2867_), none, none, none], [pvI i3z2867_, pvI x15_, pvR 124, pvI (Mz2867_.1 124 35), pvR 124], Mz2867_)) rfl ⟨trivial, trivial, rfl, trivial, trivial, trivial, trivial⟩ ?_
            refine pw_callT hT (as := [pvR 124, pvI x15_, pvI i3z2867_]) (lo1 := [some (pvR 124), some (pvI x15_), some (pvI i3z2867_)]) (d1 := d) (rest := [pvI (Mz2867_.1 124 35), pvR 124]) rfl rfl rfl rfl rfl (fun _ => rfl) (Nat.zero_le _) rfl rfl rfl (sf_X10_has_124_x_x Mz2867_ oz2867_ x15_ i3z2867_ d) ?_
            by_cases c3568_ : ((x15_ >>> (i3z2867_ &&& 31)) &&& 1) = 1
            · refine pw_eqI (if_pos c3568_) ?_
              have b3569_ : 1 ≤ Int32.toInt ((x15_ >>> (i3z2867_ &&& 31)) &&& 1) ∧ Int32.toInt ((x15_ >>> (i3z2867_ &&& 31)) &&& 1) ≤ 1 := (by have u0 := (zbnd ((x15_ >>> (i3z2867_ &&& 31)) &&& 1)); have u1 := (zi_eq _ _).mp c3568_; have u2 := (show 1 ≤ Int32.toInt 1 ∧ Int32.toInt 1 ≤ 1 from (by decide)); omega)
              show PW 10 d (43, [some (pvR 124), some (pvI n1), some (pvI x15_), some (pvI i3z2867_), none, none, none], [pvI 1, pvI (Mz2867_.1 124 35), pvR 124], Mz2867_) _
              refine pw_if hT (c := 1 = 0) rfl rfl (fun c3570_ => absurd c3570_ (by decide)) (fun c3570_ => ?_)
              obtain ⟨q3572_, b3571_⟩ : (Int32.toInt ((Mz2867_.1 124 35) + 1) = Int32.toInt (Mz2867_.1 124 35) + 1) ∧ (1 ≤ Int32.toInt ((Mz2867_.1 124 35) + 1) ∧ Int32.toInt ((Mz2867_.1 124 35) + 1) ≤ 8) := zadd_k (Mz2867_.1 124 35) 1 1 1 8 b2868_ (by decide) (by decide) (by decide) (by decide) (by decide)
              refine pw_blkw hT 4 (pc := 55) (lo := [some (pvR 124), some (pvI n1), some (pvI x15_), some (pvI i3z2867_), none, none, none]) (st := []) (M := pvu Mz2867_ 124 35 ((Mz2867_.1 124 35) + 1)) rfl ⟨trivial, trivial, trivial, rfl, trivial⟩ (fun M3573_ e3574_ => ?_)
              have o3575_ : pvOk M3573_ := pvok_u2 e3574_ oz2867_ rfl (by have u0 := b3571_; omega)
              have f3576_ : pvFr fp_X10_best_124_x M M3573_ := pvfr_u e3574_ fz2867_ rfl
              obtain ⟨q3578_, b3577_⟩ : (Int32.toInt (i3z2867_ + 1) = Int32.toInt i3z2867_ + 1) ∧ (1 ≤ Int32.toInt (i3z2867_ + 1) ∧ Int32.toInt (i3z2867_ + 1) ≤ 7) := zadd_k i3z2867_ 1 1 1 7 b3561_ (by decide) (by decide) (by decide) (by decide) (by decide)
              refine pw_blk hT 2 (S' := (24, [some (pvR 124), some (pvI n1), some (pvI x15_), some (pvI (i3z2867_ + 1)), none, none, none], [], M3573_)) rfl ⟨trivial, trivial, trivial⟩ ?_
              have j3579_ : Int32.toInt (M3573_.1 124 35) ≤ Int32.toInt (i3z2867_ + 1) := by have y01 : Int32.toInt (M3573_.1 124 35) = Int32.toInt ((Mz2867_.1 124 35) + 1) := congrArg Int32.toInt (pvu_s e3574_); omega
              exact ihz2867_ (i3z2867_ + 1) M3573_ o3575_ f3576_ (zr_wide b3577_ (by decide) (by decide)) j3579_ (zhid (by have hm0 := zshow hmz2867_; have y01 : Int32.toInt (M3573_.1 124 35) = Int32.toInt ((Mz2867_.1 124 35) + 1) := congrArg Int32.toInt (pvu_s e3574_); omega))
            · refine pw_eqI (if_neg c3568_) ?_
              show PW 10 d (43, [some (pvR 124), some (pvI n1), some (pvI x15_), some (pvI i3z2867_), none, none, none], [pvI 0, pvI (Mz2867_.1 124 35), pvR 124], Mz2867_) _
              refine pw_if hT (c := 0 = 0) rfl rfl (fun c3580_ => ?_) (fun c3580_ => absurd (by decide) c3580_)
              obtain ⟨q3582_, b3581_⟩ : (Int32.toInt ((Mz2867_.1 124 35) + 0) = Int32.toInt (Mz2867_.1 124 35) + 0) ∧ (0 ≤ Int32.toInt ((Mz2867_.1 124 35) + 0) ∧ Int32.toInt ((Mz2867_.1 124 35) + 0) ≤ 7) := zadd_k (Mz2867_.1 124 35) 0 0 0 7 b2868_ (by decide) (by decide) (by decide) (by decide) (by decide)
              refine pw_blkw hT 3 (pc := 55) (lo := [some (pvR 124), some (pvI n1), some (pvI x15_), some (pvI i3z2867_), none, none, none]) (st := []) (M := pvu Mz2867_ 124 35 ((Mz2867_.1 124 35) + 0)) rfl ⟨trivial, trivial, rfl, trivial⟩ (fun M3583_ e3584_ => ?_)
              have o3585_ : pvOk M3583_ := pvok_u2 e3584_ oz2867_ rfl b3581_
              have f3586_ : pvFr fp_X10_best_124_x M M3583_ := pvfr_u e3584_ fz2867_ rfl
              obtain ⟨q3588_, b3587_⟩ : (Int32.toInt (i3z2867_ + 1) = Int32.toInt i3z2867_ + 1) ∧ (1 ≤ Int32.toInt (i3z2867_ + 1) ∧ Int32.toInt (i3z2867_ + 1) ≤ 7) := zadd_k i3z2867_ 1 1 1 7 b3561_ (by decide) (by decide) (by decide) (by decide) (by decide)
              refine pw_blk hT 2 (S' := (24, [some (pvR 124), some (pvI n1), some (pvI x15_), some (pvI (i3z2867_ + 1)), none, none, none], [], M3583_)) rfl ⟨trivial, trivial, trivial⟩ ?_
              have j3589_ : Int32.toInt (M3583_.1 124 35) ≤ Int32.toInt (i3z2867_ + 1) := by have y01 : Int32.toInt (M3583_.1 124 35) = Int32.toInt ((Mz2867_.1 124 35) + 0) := congrArg Int32.toInt (pvu_s e3584_); omega
              exact ihz2867_ (i3z2867_ + 1) M3583_ o3585_ f3586_ (zr_wide b3587_ (by decide) (by decide)) j3589_ (zhid (by have hm0 := zshow hmz2867_; have y01 : Int32.toInt (M3583_.1 124 35) = Int32.toInt ((Mz2867_.1 124 35) + 0) := congrArg Int32.toInt (pvu_s e3584_); omega))
      have u3590_ : Int32.toInt 0 = 0 := by decide
      have j3591_ : Int32.toInt (M20_.1 124 35) ≤ Int32.toInt 0 := by have y01 : Int32.toInt (M20_.1 124 35) = Int32.toInt 0 := congrArg Int32.toInt (pvu_s e21_); have y03 : Int32.toInt 0 = 0 := (by decide); omega
      exact hlz2867_ _ 0 M20_ o22_ f23_ (zr_wide (show 0 ≤ Int32.toInt 0 ∧ Int32.toInt 0 ≤ 0 from (by decide)) (by decide) (by decide)) j3591_ (zhid (Nat.lt_succ_self _))
