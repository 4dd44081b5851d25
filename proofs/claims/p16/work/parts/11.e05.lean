set_option maxHeartbeats 4000000 in
set_option maxRecDepth 10000 in
theorem se_X10_hasOther_124_x_x (M : pvM) (hok : pvOk M) (n1 : Int32) (n2 : Int32) (hn1 : 0 ≤ Int32.toInt n1 ∧ Int32.toInt n1 ≤ 6) (hn2 : 0 ≤ Int32.toInt n2 ∧ Int32.toInt n2 ≤ 200000) (d : Nat) : PW 32 d (0, [some (pvR 124), some (pvI n1), some (pvI n2), none], [], M) (fun r X => (∃ x : Int32, r = some (pvI x) ∧ (0 ≤ Int32.toInt x ∧ Int32.toInt x ≤ 1) ∧ yJO M n1 n2 x) ∧ X = M) := by
  have hT : pvdom 32 = pvD_32 := rfl
  refine pw_blk hT 2 (S' := (2, [some (pvR 124), some (pvI n1), some (pvI n2), some (pvI 0)], [], M)) rfl ⟨trivial, trivial, trivial⟩ ?_
  have hlz96_ : ∀ (nz96_ : Nat) (i3z96_ : Int32), (0 ≤ Int32.toInt i3z96_ ∧ Int32.toInt i3z96_ ≤ 7) → (yJI M n1 n2 i3z96_) → (zhide ((8 - Int32.toInt i3z96_).toNat < nz96_)) → PW 32 d (2, [some (pvR 124), some (pvI n1), some (pvI n2), some (pvI i3z96_)], [], M) (fun r X => (∃ x : Int32, r = some (pvI x) ∧ (0 ≤ Int32.toInt x ∧ Int32.toInt x ≤ 1) ∧ yJO M n1 n2 x) ∧ X = M) := by
    intro nz96_
    induction nz96_ with
    | zero => intro i3z96_ h3z96_ j0z96_ hmz96_; exact absurd (zshow hmz96_) (Nat.not_lt_zero _)
    | succ nz96_ ihz96_ =>
      intro i3z96_ h3z96_ j0z96_ hmz96_
      have b97_ : 0 ≤ Int32.toInt (M.1 124 0) ∧ Int32.toInt (M.1 124 0) ≤ 7 := pvok_r hok 124 0 rfl
      refine pw_blk hT 3 (S' := (7, [some (pvR 124), some (pvI n1), some (pvI n2), some (pvI i3z96_)], [pvI (M.1 124 0), pvI i3z96_], M)) rfl ⟨trivial, trivial, rfl, trivial⟩ ?_
      refine pw_ic hT (c := (M.1 124 0) ≤ i3z96_) rfl rfl (fun c98_ => ?_) (fun c98_ => ?_)
      · have d99_ : Int32.toInt (M.1 124 0) ≤ Int32.toInt i3z96_ := (zi_le _ _).mp c98_
        refine pw_blk hT 1 (S' := (43, [some (pvR 124), some (pvI n1), some (pvI n2), some (pvI i3z96_)], [pvI 0], M)) rfl ⟨trivial, trivial⟩ ?_
        exact pw_ret hT rfl (r := some (pvI 0)) (M' := M) ⟨Or.inl rfl, rfl, rfl⟩ ⟨⟨_, rfl, (zr_wide (show 0 ≤ Int32.toInt 0 ∧ Int32.toInt 0 ≤ 0 from (by decide)) (by decide) (by decide)), (yJO_n j0z96_ (by omega))⟩, rfl⟩
      · have b100_ : 1 ≤ Int32.toInt (M.1 124 0) ∧ Int32.toInt (M.1 124 0) ≤ 7 := zr_nle_l 1 c98_ b97_ h3z96_ (by decide)
        have b101_ : 0 ≤ Int32.toInt i3z96_ ∧ Int32.toInt i3z96_ ≤ 6 := zr_nle_r 6 c98_ h3z96_ b100_ (by decide)
        have d102_ : Int32.toInt (M.1 124 0) > Int32.toInt i3z96_ := Int.not_le.mp ((not_congr (zi_le _ _)).mp c98_)
        refine pw_blk hT 2 (S' := (12, [some (pvR 124), some (pvI n1), some (pvI n2), some (pvI i3z96_)], [pvI n1, pvI i3z96_], M)) rfl ⟨trivial, trivial, trivial⟩ ?_
        refine pw_ic hT (c := i3z96_ = n1) rfl rfl (fun c103_ => ?_) (fun c103_ => ?_)
        · have d104_ : Int32.toInt i3z96_ = Int32.toInt n1 := (zi_eq _ _).mp c103_
          obtain ⟨q106_, b105_⟩ : (Int32.toInt (i3z96_ + 1) = Int32.toInt i3z96_ + 1) ∧ (1 ≤ Int32.toInt (i3z96_ + 1) ∧ Int32.toInt (i3z96_ + 1) ≤ 7) := zadd_k i3z96_ 1 1 1 7 b101_ (by decide) (by decide) (by decide) (by decide) (by decide)
          refine pw_blk hT 2 (S' := (2, [some (pvR 124), some (pvI n1), some (pvI n2), some (pvI (i3z96_ + 1))], [], M)) rfl ⟨trivial, trivial, trivial⟩ ?_
          have j107_ : yJI M n1 n2 (i3z96_ + 1) := (yJI_s j0z96_ (by have u := b101_; omega) (by omega) (by omega) (Or.inl c103_))
          exact ihz96_ (i3z96_ + 1) (zr_wide b105_ (by decide) (by decide)) j107_ (zhid (pvms_up (zshow hmz96_) h3z96_ q106_ (by decide) (by decide)))
        · have b108_ : 0 ≤ Int32.toInt (M.1 125 (Int32.toNatClampNeg i3z96_)) ∧ Int32.toInt (M.1 125 (Int32.toNatClampNeg i3z96_)) ≤ 6 := pvok_r hok 125 (Int32.toNatClampNeg i3z96_) rfl
          refine pw_blk hT 5 (S' := (22, [some (pvR 124), some (pvI n1), some (pvI n2), some (pvI i3z96_)], [pvI 4, pvI (M.1 125 (Int32.toNatClampNeg i3z96_))], M)) rfl ⟨trivial, rfl, trivial, ⟨rfl, (zr_in (n := 7) b101_ (by decide) (by decide))⟩, trivial, trivial⟩ ?_
          refine pw_icn hT (c := (M.1 125 (Int32.toNatClampNeg i3z96_)) = 4) rfl rfl (fun c109_ => ?_) (fun c109_ => ?_)
          · obtain ⟨q111_, b110_⟩ : (Int32.toInt (i3z96_ + 1) = Int32.toInt i3z96_ + 1) ∧ (1 ≤ Int32.toInt (i3z96_ + 1) ∧ Int32.toInt (i3z96_ + 1) ≤ 7) := zadd_k i3z96_ 1 1 1 7 b101_ (by decide) (by decide) (by decide) (by decide) (by decide)
            refine pw_blk hT 2 (S' := (2, [some (pvR 124), some (pvI n1), some (pvI n2), some (pvI (i3z96_ + 1))], [], M)) rfl ⟨trivial, trivial, trivial⟩ ?_
            have j112_ : yJI M n1 n2 (i3z96_ + 1) := (yJI_s j0z96_ (by have u := b101_; omega) (by omega) (by omega) (Or.inr (Or.inl c109_)))
            exact ihz96_ (i3z96_ + 1) (zr_wide b110_ (by decide) (by decide)) j112_ (zhid (pvms_up (zshow hmz96_) h3z96_ q111_ (by decide) (by decide)))
          · have b113_ : 4 ≤ Int32.toInt (M.1 125 (Int32.toNatClampNeg i3z96_)) ∧ Int32.toInt (M.1 125 (Int32.toNatClampNeg i3z96_)) ≤ 4 := (by have u0 := b108_; have u1 := (zi_eq _ _).mp c109_; have u2 := (show 4 ≤ Int32.toInt 4 ∧ Int32.toInt 4 ≤ 4 from (by decide)); omega)
            refine pw_blk hT 3 (S' := (28, [some (pvR 124), some (pvI n1), some (pvI n2), some (pvI i3z96_)], [pvI n2, pvI i3z96_, pvR 124], M)) rfl ⟨trivial, trivial, trivial, trivial⟩ ?_
            refine pw_callT hT (as := [pvR 124, pvI i3z96_, pvI n2]) (lo1 := [some (pvR 124), some (pvI i3z96_), some (pvI n2)]) (d1 := d) (rest := []) rfl rfl rfl rfl rfl (fun _ => rfl) (Nat.zero_le _) rfl rfl rfl (sf_X10_isOpenAt_124_x_x M hok i3z96_ n2 b101_ d) ?_
            have b119_ : (-1) ≤ Int32.toInt (M.1 143 (Int32.toNatClampNeg i3z96_)) ∧ Int32.toInt (M.1 143 (Int32.toNatClampNeg i3z96_)) ≤ 99999 := pvok_r hok 143 (Int32.toNatClampNeg i3z96_) rfl
            by_cases c120_ : (M.1 143 (Int32.toNatClampNeg i3z96_)) ≤ n2
            · refine pw_eqI (if_pos c120_) ?_
              have d121_ : Int32.toInt (M.1 143 (Int32.toNatClampNeg i3z96_)) ≤ Int32.toInt n2 := (zi_le _ _).mp c120_
              show PW 32 d (31, [some (pvR 124), some (pvI n1), some (pvI n2), some (pvI i3z96_)], [pvI 0], M) _
              refine pw_if hT (c := 0 = 0) rfl rfl (fun c122_ => ?_) (fun c122_ => absurd (by decide) c122_)
              obtain ⟨q124_, b123_⟩ : (Int32.toInt (i3z96_ + 1) = Int32.toInt i3z96_ + 1) ∧ (1 ≤ Int32.toInt (i3z96_ + 1) ∧ Int32.toInt (i3z96_ + 1) ≤ 7) := zadd_k i3z96_ 1 1 1 7 b101_ (by decide) (by decide) (by decide) (by decide) (by decide)
              refine pw_blk hT 2 (S' := (2, [some (pvR 124), some (pvI n1), some (pvI n2), some (pvI (i3z96_ + 1))], [], M)) rfl ⟨trivial, trivial, trivial⟩ ?_
              have j125_ : yJI M n1 n2 (i3z96_ + 1) := (yJI_s j0z96_ (by have u := b101_; omega) (by omega) (by omega) (Or.inr (Or.inr c120_)))
              exact ihz96_ (i3z96_ + 1) (zr_wide b123_ (by decide) (by decide)) j125_ (zhid (pvms_up (zshow hmz96_) h3z96_ q124_ (by decide) (by decide)))
            · refine pw_eqI (if_neg c120_) ?_
              have b126_ : 1 ≤ Int32.toInt (M.1 143 (Int32.toNatClampNeg i3z96_)) ∧ Int32.toInt (M.1 143 (Int32.toNatClampNeg i3z96_)) ≤ 99999 := zr_nle_l 1 c120_ b119_ hn2 (by decide)
              have b127_ : 0 ≤ Int32.toInt n2 ∧ Int32.toInt n2 ≤ 99998 := zr_nle_r 99998 c120_ hn2 b126_ (by decide)
              have d128_ : Int32.toInt (M.1 143 (Int32.toNatClampNeg i3z96_)) > Int32.toInt n2 := Int.not_le.mp ((not_congr (zi_le _ _)).mp c120_)
              show PW 32 d (31, [some (pvR 124), some (pvI n1), some (pvI n2), some (pvI i3z96_)], [pvI 1], M) _
              refine pw_if hT (c := 1 = 0) rfl rfl (fun c129_ => absurd c129_ (by decide)) (fun c129_ => ?_)
              refine pw_blk hT 1 (S' := (35, [some (pvR 124), some (pvI n1), some (pvI n2), some (pvI i3z96_)], [pvI 1], M)) rfl ⟨trivial, trivial⟩ ?_
              exact pw_ret hT rfl (r := some (pvI 1)) (M' := M) ⟨Or.inr rfl, rfl, rfl⟩ ⟨⟨_, rfl, (zr_wide (show 1 ≤ Int32.toInt 1 ∧ Int32.toInt 1 ≤ 1 from (by decide)) (by decide) (by decide)), (yJO_y (by have u := b101_; omega) hn1.1 (by omega) c103_ c109_ c120_)⟩, rfl⟩
  have u130_ : Int32.toInt 0 = 0 := by decide
  have j131_ : yJI M n1 n2 0 := (yJI_0 hok hn2.1)
  exact hlz96_ _ 0 (zr_wide (show 0 ≤ Int32.toInt 0 ∧ Int32.toInt 0 ≤ 0 from (by decide)) (by decide) (by decide)) j131_ (zhid (Nat.lt_succ_self _))
set_option maxHeartbeats 4000000 in
set_option maxRecDepth 10000 in
theorem se_X10_harm_124_x_x (M : pvM) (hok : pvOk M) (n1 : Int32) (n2 : Int32) (hn1 : 0 ≤ Int32.toInt n1 ∧ Int32.toInt n1 ≤ 6) (hn2 : 0 ≤ Int32.toInt n2 ∧ Int32.toInt n2 ≤ 200000) (d : Nat) : PW 26 d (0, [some (pvR 124), some (pvI n1), some (pvI n2), none, none], [], M) (fun r X => (∃ x : Int32, r = some (pvI x) ∧ (0 ≤ Int32.toInt x ∧ Int32.toInt x ≤ 12009) ∧ yHm M n1 n2 x) ∧ X = M) := by
  have hT : pvdom 26 = pvD_26 := rfl
  have b1_ : 0 ≤ Int32.toInt (M.1 124 3) ∧ Int32.toInt (M.1 124 3) ≤ 108 := pvok_r hok 124 3 rfl
  obtain ⟨q3_, b2_⟩ : (Int32.toInt (n2 - (M.1 124 3)) = Int32.toInt n2 - Int32.toInt (M.1 124 3)) ∧ ((-108) ≤ Int32.toInt (n2 - (M.1 124 3)) ∧ Int32.toInt (n2 - (M.1 124 3)) ≤ 200000) := zsub_r n2 (M.1 124 3) (-108) 200000 hn2 b1_ (by decide) (by decide) (by decide) (by decide)
  refine pw_blk hT 6 (S' := (8, [some (pvR 124), some (pvI n1), some (pvI n2), some (pvI (n2 - (M.1 124 3))), none], [pvI (n2 - (M.1 124 3))], M)) rfl ⟨trivial, trivial, rfl, trivial, trivial, trivial, trivial⟩ ?_
  refine pw_if hT (c := (n2 - (M.1 124 3)) < 0) rfl rfl (fun c4_ => ?_) (fun c4_ => ?_)
  · have b5_ : (-108) ≤ Int32.toInt (n2 - (M.1 124 3)) ∧ Int32.toInt (n2 - (M.1 124 3)) ≤ (-1) := zr_lt_l (-1) c4_ b2_ (show 0 ≤ Int32.toInt 0 ∧ Int32.toInt 0 ≤ 0 from (by decide)) (by decide)
    refine pw_blk hT 1 (S' := (29, [some (pvR 124), some (pvI n1), some (pvI n2), some (pvI (n2 - (M.1 124 3))), none], [pvI 0], M)) rfl ⟨trivial, trivial⟩ ?_
    exact pw_ret hT rfl (r := some (pvI 0)) (M' := M) ⟨rfl, rfl⟩ ⟨⟨_, rfl, (zr_wide (show 0 ≤ Int32.toInt 0 ∧ Int32.toInt 0 ≤ 0 from (by decide)) (by decide) (by decide)), (yHm_z (l := 0) hok hn2 (Or.inl c4_))⟩, rfl⟩
  · have b6_ : 0 ≤ Int32.toInt (n2 - (M.1 124 3)) ∧ Int32.toInt (n2 - (M.1 124 3)) ≤ 200000 := zr_nlt_l 0 c4_ b2_ (show 0 ≤ Int32.toInt 0 ∧ Int32.toInt 0 ≤ 0 from (by decide)) (by decide)
    refine pw_blk hT 2 (S' := (13, [some (pvR 124), some (pvI n1), some (pvI n2), some (pvI (n2 - (M.1 124 3))), none], [pvR 124, pvI (n2 - (M.1 124 3))], M)) rfl ⟨trivial, trivial, trivial⟩ ?_
    refine pw_callGp hT (as := [pvR 124]) (lo1 := [some (pvR 124)]) (d1 := d) (rest := [pvI (n2 - (M.1 124 3))]) rfl rfl rfl rfl rfl (fun _ => rfl) (Nat.zero_le _) rfl rfl rfl (se_X10_lastNow_124 M hok d) (fun x7_ b9_ => ?_)
    obtain ⟨b12_, d13_⟩ := b9_
    refine pw_ic hT (c := x7_ ≤ (n2 - (M.1 124 3))) rfl rfl (fun c14_ => ?_) (fun c14_ => ?_)
    · have d15_ : Int32.toInt x7_ ≤ Int32.toInt (n2 - (M.1 124 3)) := (zi_le _ _).mp c14_
      refine pw_blk hT 1 (S' := (29, [some (pvR 124), some (pvI n1), some (pvI n2), some (pvI (n2 - (M.1 124 3))), none], [pvI 0], M)) rfl ⟨trivial, trivial⟩ ?_
      exact pw_ret hT rfl (r := some (pvI 0)) (M' := M) ⟨rfl, rfl⟩ ⟨⟨_, rfl, (zr_wide (show 0 ≤ Int32.toInt 0 ∧ Int32.toInt 0 ≤ 0 from (by decide)) (by decide) (by decide)), (yHm_z hok hn2 (Or.inr (Or.inl ⟨d13_, c14_⟩)))⟩, rfl⟩
    · have b16_ : 1 ≤ Int32.toInt x7_ ∧ Int32.toInt x7_ ≤ 99 := zr_nle_l 1 c14_ b12_ b6_ (by decide)
      have b17_ : 0 ≤ Int32.toInt (n2 - (M.1 124 3)) ∧ Int32.toInt (n2 - (M.1 124 3)) ≤ 98 := zr_nle_r 98 c14_ b6_ b16_ (by decide)
      have d18_ : Int32.toInt x7_ > Int32.toInt (n2 - (M.1 124 3)) := Int.not_le.mp ((not_congr (zi_le _ _)).mp c14_)
      refine pw_blk hT 3 (S' := (22, [some (pvR 124), some (pvI n1), some (pvI n2), some (pvI (n2 - (M.1 124 3))), none], [pvI n2, pvI n1, pvR 124], M)) rfl ⟨trivial, trivial, trivial, trivial⟩ ?_
      refine pw_callT hT (as := [pvR 124, pvI n1, pvI n2]) (lo1 := [some (pvR 124), some (pvI n1), some (pvI n2)]) (d1 := d) (rest := []) rfl rfl rfl rfl rfl (fun _ => rfl) (Nat.zero_le _) rfl rfl rfl (sf_X10_isOpenAt_124_x_x M hok n1 n2 hn1 d) ?_
      have b24_ : (-1) ≤ Int32.toInt (M.1 143 (Int32.toNatClampNeg n1)) ∧ Int32.toInt (M.1 143 (Int32.toNatClampNeg n1)) ≤ 99999 := pvok_r hok 143 (Int32.toNatClampNeg n1) rfl
      by_cases c25_ : (M.1 143 (Int32.toNatClampNeg n1)) ≤ n2
      · refine pw_eqI (if_pos c25_) ?_
        have d26_ : Int32.toInt (M.1 143 (Int32.toNatClampNeg n1)) ≤ Int32.toInt n2 := (zi_le _ _).mp c25_
        show PW 26 d (25, [some (pvR 124), some (pvI n1), some (pvI n2), some (pvI (n2 - (M.1 124 3))), none], [pvI 0], M) _
        refine pw_ifn hT (c := 0 = 0) rfl rfl (fun c27_ => absurd (by decide) c27_) (fun c27_ => ?_)
        refine pw_blk hT 1 (S' := (29, [some (pvR 124), some (pvI n1), some (pvI n2), some (pvI (n2 - (M.1 124 3))), none], [pvI 0], M)) rfl ⟨trivial, trivial⟩ ?_
        exact pw_ret hT rfl (r := some (pvI 0)) (M' := M) ⟨rfl, rfl⟩ ⟨⟨_, rfl, (zr_wide (show 0 ≤ Int32.toInt 0 ∧ Int32.toInt 0 ≤ 0 from (by decide)) (by decide) (by decide)), (yHm_z (l := 0) hok hn2 (Or.inr (Or.inr c25_)))⟩, rfl⟩
      · refine pw_eqI (if_neg c25_) ?_
        have b28_ : 1 ≤ Int32.toInt (M.1 143 (Int32.toNatClampNeg n1)) ∧ Int32.toInt (M.1 143 (Int32.toNatClampNeg n1)) ≤ 99999 := zr_nle_l 1 c25_ b24_ hn2 (by decide)
        have b29_ : 0 ≤ Int32.toInt n2 ∧ Int32.toInt n2 ≤ 99998 := zr_nle_r 99998 c25_ hn2 b28_ (by decide)
        have d30_ : Int32.toInt (M.1 143 (Int32.toNatClampNeg n1)) > Int32.toInt n2 := Int.not_le.mp ((not_congr (zi_le _ _)).mp c25_)
        show PW 26 d (25, [some (pvR 124), some (pvI n1), some (pvI n2), some (pvI (n2 - (M.1 124 3))), none], [pvI 1], M) _
        refine pw_ifn hT (c := 1 = 0) rfl rfl (fun c31_ => ?_) (fun c31_ => absurd c31_ (by decide))
        have q32_ : Int32.toInt (99 * n1) = 99 * Int32.toInt n1 := by have u0 : Int32.toInt 99 = 99 := (by decide); have u1 := hn1; have u2 := zmul 99 n1 (by rw [u0]; omega) (by rw [u0]; omega); rw [u0] at u2; omega
        have b33_ : 0 ≤ Int32.toInt (99 * n1) ∧ Int32.toInt (99 * n1) ≤ 594 := (by have u1 := hn1; omega)
        obtain ⟨q35_, b34_⟩ : (Int32.toInt ((99 * n1) + (n2 - (M.1 124 3))) = Int32.toInt (99 * n1) + Int32.toInt (n2 - (M.1 124 3))) ∧ (0 ≤ Int32.toInt ((99 * n1) + (n2 - (M.1 124 3))) ∧ Int32.toInt ((99 * n1) + (n2 - (M.1 124 3))) ≤ 692) := zadd_r (99 * n1) (n2 - (M.1 124 3)) 0 692 b33_ b17_ (by decide) (by decide) (by decide) (by decide)
        have b36_ : 0 ≤ Int32.toInt (M.1 142 (Int32.toNatClampNeg ((99 * n1) + (n2 - (M.1 124 3))))) ∧ Int32.toInt (M.1 142 (Int32.toNatClampNeg ((99 * n1) + (n2 - (M.1 124 3))))) ≤ 6000 := pvok_r hok 142 (Int32.toNatClampNeg ((99 * n1) + (n2 - (M.1 124 3)))) rfl
        have b37_ : 0 ≤ Int32.toInt (M.1 125 (Int32.toNatClampNeg n1)) ∧ Int32.toInt (M.1 125 (Int32.toNatClampNeg n1)) ≤ 6 := pvok_r hok 125 (Int32.toNatClampNeg n1) rfl
        refine pw_blk hT 13 (S' := (49, [some (pvR 124), some (pvI n1), some (pvI n2), some (pvI (n2 - (M.1 124 3))), some (pvI (M.1 142 (Int32.toNatClampNeg ((99 * n1) + (n2 - (M.1 124 3))))))], [pvI (M.1 125 (Int32.toNatClampNeg n1))], M)) rfl ⟨trivial, rfl, trivial, trivial, trivial, trivial, trivial, ⟨rfl, (zr_in (n := 693) b34_ (by decide) (by decide))⟩, trivial, trivial, rfl, trivial, ⟨rfl, (zr_in (n := 7) hn1 (by decide) (by decide))⟩, trivial⟩ ?_
        refine pw_sw hT rfl rfl ?_
        refine And.intro (fun c38_ => ?_) (fun c38_ => ?_)
        · show PW 26 d (84, [some (pvR 124), some (pvI n1), some (pvI n2), some (pvI (n2 - (M.1 124 3))), some (pvI (M.1 142 (Int32.toNatClampNeg ((99 * n1) + (n2 - (M.1 124 3))))))], [], M) _
          have b39_ : 2 ≤ Int32.toInt (M.1 125 (Int32.toNatClampNeg n1)) ∧ Int32.toInt (M.1 125 (Int32.toNatClampNeg n1)) ≤ 2 := (by have u0 := b37_; have u1 := (zi_eq _ _).mp c38_; have u2 := (show 2 ≤ Int32.toInt 2 ∧ Int32.toInt 2 ≤ 2 from (by decide)); omega)
          have q40_ : Int32.toInt ((M.1 142 (Int32.toNatClampNeg ((99 * n1) + (n2 - (M.1 124 3))))) / 2) = Int32.toInt (M.1 142 (Int32.toNatClampNeg ((99 * n1) + (n2 - (M.1 124 3))))) / 2 := by have u0 := b36_; have u := zdiv_p (M.1 142 (Int32.toNatClampNeg ((99 * n1) + (n2 - (M.1 124 3))))) 2 (by omega) (by decide) (by decide); have e0 : nI 2 = (2 : Int32) := rfl; rw [e0] at u; omega
          have b41_ : 0 ≤ Int32.toInt ((M.1 142 (Int32.toNatClampNeg ((99 * n1) + (n2 - (M.1 124 3))))) / 2) ∧ Int32.toInt ((M.1 142 (Int32.toNatClampNeg ((99 * n1) + (n2 - (M.1 124 3))))) / 2) ≤ 3000 := (by have u0 := b36_; omega)
          refine pw_blk hT 3 (S' := (88, [some (pvR 124), some (pvI n1), some (pvI n2), some (pvI (n2 - (M.1 124 3))), some (pvI (M.1 142 (Int32.toNatClampNeg ((99 * n1) + (n2 - (M.1 124 3))))))], [pvI ((M.1 142 (Int32.toNatClampNeg ((99 * n1) + (n2 - (M.1 124 3))))) / 2)], M)) rfl ⟨trivial, trivial, (by decide), trivial⟩ ?_
          exact pw_ret hT rfl (r := some (pvI ((M.1 142 (Int32.toNatClampNeg ((99 * n1) + (n2 - (M.1 124 3))))) / 2))) (M' := M) ⟨rfl, rfl⟩ ⟨⟨_, rfl, (zr_wide b41_ (by decide) (by decide)), (yHm_i (i := ((99 * n1) + (n2 - (M.1 124 3)))) hok hn1 hn2 c4_ d13_ (by have u := b16_; omega) c14_ c25_ (by omega) (yx_2 c38_ (by omega)))⟩, rfl⟩
        · refine And.intro (fun c42_ => ?_) (fun c42_ => ?_)
          · show PW 26 d (89, [some (pvR 124), some (pvI n1), some (pvI n2), some (pvI (n2 - (M.1 124 3))), some (pvI (M.1 142 (Int32.toNatClampNeg ((99 * n1) + (n2 - (M.1 124 3))))))], [], M) _
            have b43_ : 3 ≤ Int32.toInt (M.1 125 (Int32.toNatClampNeg n1)) ∧ Int32.toInt (M.1 125 (Int32.toNatClampNeg n1)) ≤ 3 := (by have u0 := b37_; have u1 := (zi_eq _ _).mp c42_; have u2 := (show 3 ≤ Int32.toInt 3 ∧ Int32.toInt 3 ≤ 3 from (by decide)); omega)
            have q44_ : Int32.toInt (2 * (M.1 142 (Int32.toNatClampNeg ((99 * n1) + (n2 - (M.1 124 3)))))) = 2 * Int32.toInt (M.1 142 (Int32.toNatClampNeg ((99 * n1) + (n2 - (M.1 124 3))))) := by have u0 : Int32.toInt 2 = 2 := (by decide); have u1 := b36_; have u2 := zmul 2 (M.1 142 (Int32.toNatClampNeg ((99 * n1) + (n2 - (M.1 124 3))))) (by rw [u0]; omega) (by rw [u0]; omega); rw [u0] at u2; omega
            have b45_ : 0 ≤ Int32.toInt (2 * (M.1 142 (Int32.toNatClampNeg ((99 * n1) + (n2 - (M.1 124 3)))))) ∧ Int32.toInt (2 * (M.1 142 (Int32.toNatClampNeg ((99 * n1) + (n2 - (M.1 124 3)))))) ≤ 12000 := (by have u1 := b36_; omega)
            refine pw_blk hT 3 (S' := (93, [some (pvR 124), some (pvI n1), some (pvI n2), some (pvI (n2 - (M.1 124 3))), some (pvI (M.1 142 (Int32.toNatClampNeg ((99 * n1) + (n2 - (M.1 124 3))))))], [pvI (2 * (M.1 142 (Int32.toNatClampNeg ((99 * n1) + (n2 - (M.1 124 3))))))], M)) rfl ⟨trivial, trivial, trivial, trivial⟩ ?_
            exact pw_ret hT rfl (r := some (pvI (2 * (M.1 142 (Int32.toNatClampNeg ((99 * n1) + (n2 - (M.1 124 3)))))))) (M' := M) ⟨rfl, rfl⟩ ⟨⟨_, rfl, (zr_wide b45_ (by decide) (by decide)), (yHm_i (i := ((99 * n1) + (n2 - (M.1 124 3)))) hok hn1 hn2 c4_ d13_ (by have u := b16_; omega) c14_ c25_ (by omega) (yx_3 c42_ (by omega)))⟩, rfl⟩
          · refine And.intro (fun c46_ => ?_) (fun c46_ => ?_)
            · show PW 26 d (94, [some (pvR 124), some (pvI n1), some (pvI n2), some (pvI (n2 - (M.1 124 3))), some (pvI (M.1 142 (Int32.toNatClampNeg ((99 * n1) + (n2 - (M.1 124 3))))))], [], M) _
              have b47_ : 4 ≤ Int32.toInt (M.1 125 (Int32.toNatClampNeg n1)) ∧ Int32.toInt (M.1 125 (Int32.toNatClampNeg n1)) ≤ 4 := (by have u0 := b37_; have u1 := (zi_eq _ _).mp c46_; have u2 := (show 4 ≤ Int32.toInt 4 ∧ Int32.toInt 4 ≤ 4 from (by decide)); omega)
              refine pw_blk hT 3 (S' := (97, [some (pvR 124), some (pvI n1), some (pvI n2), some (pvI (n2 - (M.1 124 3))), some (pvI (M.1 142 (Int32.toNatClampNeg ((99 * n1) + (n2 - (M.1 124 3))))))], [pvI n2, pvI n1, pvR 124], M)) rfl ⟨trivial, trivial, trivial, trivial⟩ ?_
              refine pw_callGp hT (as := [pvR 124, pvI n1, pvI n2]) (lo1 := [some (pvR 124), some (pvI n1), some (pvI n2), none]) (d1 := d) (rest := []) rfl rfl rfl rfl rfl (fun _ => rfl) (Nat.zero_le _) rfl rfl rfl (se_X10_hasOther_124_x_x M hok n1 n2 hn1 (zr_wide b29_ (by decide) (by decide)) d) (fun x48_ b50_ => ?_)
              obtain ⟨b53_, d54_⟩ := b50_
              refine pw_if hT (c := x48_ = 0) rfl rfl (fun c55_ => ?_) (fun c55_ => ?_)
              · have b56_ : 0 ≤ Int32.toInt x48_ ∧ Int32.toInt x48_ ≤ 0 := (by have u0 := b53_; have u1 := (zi_eq _ _).mp c55_; have u2 := (show 0 ≤ Int32.toInt 0 ∧ Int32.toInt 0 ≤ 0 from (by decide)); omega)
                refine pw_blk hT 1 (S' := (117, [some (pvR 124), some (pvI n1), some (pvI n2), some (pvI (n2 - (M.1 124 3))), some (pvI (M.1 142 (Int32.toNatClampNeg ((99 * n1) + (n2 - (M.1 124 3))))))], [pvI (M.1 142 (Int32.toNatClampNeg ((99 * n1) + (n2 - (M.1 124 3)))))], M)) rfl ⟨trivial, trivial⟩ ?_
                exact pw_ret hT rfl (r := some (pvI (M.1 142 (Int32.toNatClampNeg ((99 * n1) + (n2 - (M.1 124 3))))))) (M' := M) ⟨rfl, rfl⟩ ⟨⟨_, rfl, (zr_wide b36_ (by decide) (by decide)), (yHm_i (i := ((99 * n1) + (n2 - (M.1 124 3)))) hok hn1 hn2 c4_ d13_ (by have u := b16_; omega) c14_ c25_ (by omega) (yx_4n c46_ (yJO_0 d54_ c55_) rfl))⟩, rfl⟩
              · have b57_ : 1 ≤ Int32.toInt x48_ ∧ Int32.toInt x48_ ≤ 1 := (by have u0 := b53_; have u1 := (not_congr (zi_eq _ _)).mp c55_; have u2 := (show 0 ≤ Int32.toInt 0 ∧ Int32.toInt 0 ≤ 0 from (by decide)); omega)
                have b58_ : 0 ≤ Int32.toInt (M.1 126 (Int32.toNatClampNeg n1)) ∧ Int32.toInt (M.1 126 (Int32.toNatClampNeg n1)) ≤ 9 := pvok_r hok 126 (Int32.toNatClampNeg n1) rfl
                obtain ⟨q60_, b59_⟩ : (Int32.toInt ((M.1 142 (Int32.toNatClampNeg ((99 * n1) + (n2 - (M.1 124 3))))) + (M.1 126 (Int32.toNatClampNeg n1))) = Int32.toInt (M.1 142 (Int32.toNatClampNeg ((99 * n1) + (n2 - (M.1 124 3))))) + Int32.toInt (M.1 126 (Int32.toNatClampNeg n1))) ∧ (0 ≤ Int32.toInt ((M.1 142 (Int32.toNatClampNeg ((99 * n1) + (n2 - (M.1 124 3))))) + (M.1 126 (Int32.toNatClampNeg n1))) ∧ Int32.toInt ((M.1 142 (Int32.toNatClampNeg ((99 * n1) + (n2 - (M.1 124 3))))) + (M.1 126 (Int32.toNatClampNeg n1))) ≤ 6009) := zadd_r (M.1 142 (Int32.toNatClampNeg ((99 * n1) + (n2 - (M.1 124 3))))) (M.1 126 (Int32.toNatClampNeg n1)) 0 6009 b36_ b58_ (by decide) (by decide) (by decide) (by decide)
                refine pw_blk hT 7 (S' := (117, [some (pvR 124), some (pvI n1), some (pvI n2), some (pvI (n2 - (M.1 124 3))), some (pvI (M.1 142 (Int32.toNatClampNeg ((99 * n1) + (n2 - (M.1 124 3))))))], [pvI ((M.1 142 (Int32.toNatClampNeg ((99 * n1) + (n2 - (M.1 124 3))))) + (M.1 126 (Int32.toNatClampNeg n1)))], M)) rfl ⟨trivial, trivial, rfl, trivial, ⟨rfl, (zr_in (n := 7) hn1 (by decide) (by decide))⟩, trivial, trivial, trivial⟩ ?_
                exact pw_ret hT rfl (r := some (pvI ((M.1 142 (Int32.toNatClampNeg ((99 * n1) + (n2 - (M.1 124 3))))) + (M.1 126 (Int32.toNatClampNeg n1))))) (M' := M) ⟨rfl, rfl⟩ ⟨⟨_, rfl, (zr_wide b59_ (by decide) (by decide)), (yHm_i (i := ((99 * n1) + (n2 - (M.1 124 3)))) hok hn1 hn2 c4_ d13_ (by have u := b16_; omega) c14_ c25_ (by omega) (yx_4y c46_ (yJO_1 d54_ c55_) (by omega)))⟩, rfl⟩
            · refine And.intro (fun c61_ => ?_) (fun c61_ => ?_)
              · show PW 26 d (118, [some (pvR 124), some (pvI n1), some (pvI n2), some (pvI (n2 - (M.1 124 3))), some (pvI (M.1 142 (Int32.toNatClampNeg ((99 * n1) + (n2 - (M.1 124 3))))))], [], M) _
                have b62_ : 5 ≤ Int32.toInt (M.1 125 (Int32.toNatClampNeg n1)) ∧ Int32.toInt (M.1 125 (Int32.toNatClampNeg n1)) ≤ 5 := (by have u0 := b37_; have u1 := (zi_eq _ _).mp c61_; have u2 := (show 5 ≤ Int32.toInt 5 ∧ Int32.toInt 5 ≤ 5 from (by decide)); omega)
                have b63_ : 0 ≤ Int32.toInt (M.1 124 4) ∧ Int32.toInt (M.1 124 4) ≤ 4 := pvok_r hok 124 4 rfl
                have b64_ : 0 ≤ Int32.toInt (M.1 126 (Int32.toNatClampNeg n1)) ∧ Int32.toInt (M.1 126 (Int32.toNatClampNeg n1)) ≤ 9 := pvok_r hok 126 (Int32.toNatClampNeg n1) rfl
                have b65_ : 0 ≤ Int32.toInt ((M.1 126 (Int32.toNatClampNeg n1)) - (M.1 126 (Int32.toNatClampNeg n1)) / 4 * 4) ∧ Int32.toInt ((M.1 126 (Int32.toNatClampNeg n1)) - (M.1 126 (Int32.toNatClampNeg n1)) / 4 * 4) ≤ 3 := (by have u0 := b64_; have u := zrem_p (M.1 126 (Int32.toNatClampNeg n1)) 4 (by omega) (by decide) (by decide); have e0 : nI 4 = (4 : Int32) := rfl; rw [e0] at u; omega)
                refine pw_blk hT 8 (S' := (130, [some (pvR 124), some (pvI n1), some (pvI n2), some (pvI (n2 - (M.1 124 3))), some (pvI (M.1 142 (Int32.toNatClampNeg ((99 * n1) + (n2 - (M.1 124 3))))))], [pvI ((M.1 126 (Int32.toNatClampNeg n1)) - (M.1 126 (Int32.toNatClampNeg n1)) / 4 * 4), pvI (M.1 124 4)], M)) rfl ⟨trivial, rfl, trivial, rfl, trivial, ⟨rfl, (zr_in (n := 7) hn1 (by decide) (by decide))⟩, trivial, (by decide), trivial⟩ ?_
                refine pw_icn hT (c := (M.1 124 4) = ((M.1 126 (Int32.toNatClampNeg n1)) - (M.1 126 (Int32.toNatClampNeg n1)) / 4 * 4)) rfl rfl (fun c66_ => ?_) (fun c66_ => ?_)
                · refine pw_blk hT 1 (S' := (141, [some (pvR 124), some (pvI n1), some (pvI n2), some (pvI (n2 - (M.1 124 3))), some (pvI (M.1 142 (Int32.toNatClampNeg ((99 * n1) + (n2 - (M.1 124 3))))))], [pvI 0], M)) rfl ⟨trivial, trivial⟩ ?_
                  exact pw_ret hT rfl (r := some (pvI 0)) (M' := M) ⟨rfl, rfl⟩ ⟨⟨_, rfl, (zr_wide (show 0 ≤ Int32.toInt 0 ∧ Int32.toInt 0 ≤ 0 from (by decide)) (by decide) (by decide)), (yHm_i (i := ((99 * n1) + (n2 - (M.1 124 3)))) hok hn1 hn2 c4_ d13_ (by have u := b16_; omega) c14_ c25_ (by omega) (yx_5n c61_ c66_ (by decide)))⟩, rfl⟩
                · have b67_ : 0 ≤ Int32.toInt (M.1 124 4) ∧ Int32.toInt (M.1 124 4) ≤ 3 := (by have u0 := b63_; have u1 := (zi_eq _ _).mp c66_; have u2 := b65_; omega)
                  have d68_ : Int32.toInt (M.1 124 4) = Int32.toInt ((M.1 126 (Int32.toNatClampNeg n1)) - (M.1 126 (Int32.toNatClampNeg n1)) / 4 * 4) := (zi_eq _ _).mp c66_
                  have q69_ : Int32.toInt ((M.1 142 (Int32.toNatClampNeg ((99 * n1) + (n2 - (M.1 124 3))))) / 2) = Int32.toInt (M.1 142 (Int32.toNatClampNeg ((99 * n1) + (n2 - (M.1 124 3))))) / 2 := by have u0 := b36_; have u := zdiv_p (M.1 142 (Int32.toNatClampNeg ((99 * n1) + (n2 - (M.1 124 3))))) 2 (by omega) (by decide) (by decide); have e0 : nI 2 = (2 : Int32) := rfl; rw [e0] at u; omega
                  have b70_ : 0 ≤ Int32.toInt ((M.1 142 (Int32.toNatClampNeg ((99 * n1) + (n2 - (M.1 124 3))))) / 2) ∧ Int32.toInt ((M.1 142 (Int32.toNatClampNeg ((99 * n1) + (n2 - (M.1 124 3))))) / 2) ≤ 3000 := (by have u0 := b36_; omega)
                  refine pw_blk hT 4 (S' := (141, [some (pvR 124), some (pvI n1), some (pvI n2), some (pvI (n2 - (M.1 124 3))), some (pvI (M.1 142 (Int32.toNatClampNeg ((99 * n1) + (n2 - (M.1 124 3))))))], [pvI ((M.1 142 (Int32.toNatClampNeg ((99 * n1) + (n2 - (M.1 124 3))))) / 2)], M)) rfl ⟨trivial, trivial, (by decide), trivial, trivial⟩ ?_
                  exact pw_ret hT rfl (r := some (pvI ((M.1 142 (Int32.toNatClampNeg ((99 * n1) + (n2 - (M.1 124 3))))) / 2))) (M' := M) ⟨rfl, rfl⟩ ⟨⟨_, rfl, (zr_wide b70_ (by decide) (by decide)), (yHm_i (i := ((99 * n1) + (n2 - (M.1 124 3)))) hok hn1 hn2 c4_ d13_ (by have u := b16_; omega) c14_ c25_ (by omega) (yx_5y c61_ c66_ (by omega)))⟩, rfl⟩
              · refine And.intro (fun c71_ => ?_) (fun c71_ => ?_)
                · show PW 26 d (142, [some (pvR 124), some (pvI n1), some (pvI n2), some (pvI (n2 - (M.1 124 3))), some (pvI (M.1 142 (Int32.toNatClampNeg ((99 * n1) + (n2 - (M.1 124 3))))))], [], M) _
                  have b72_ : 6 ≤ Int32.toInt (M.1 125 (Int32.toNatClampNeg n1)) ∧ Int32.toInt (M.1 125 (Int32.toNatClampNeg n1)) ≤ 6 := (by have u0 := b37_; have u1 := (zi_eq _ _).mp c71_; have u2 := (show 6 ≤ Int32.toInt 6 ∧ Int32.toInt 6 ≤ 6 from (by decide)); omega)
                  have q73_ : Int32.toInt (2 * (M.1 142 (Int32.toNatClampNeg ((99 * n1) + (n2 - (M.1 124 3)))))) = 2 * Int32.toInt (M.1 142 (Int32.toNatClampNeg ((99 * n1) + (n2 - (M.1 124 3))))) := by have u0 : Int32.toInt 2 = 2 := (by decide); have u1 := b36_; have u2 := zmul 2 (M.1 142 (Int32.toNatClampNeg ((99 * n1) + (n2 - (M.1 124 3))))) (by rw [u0]; omega) (by rw [u0]; omega); rw [u0] at u2; omega
                  have b74_ : 0 ≤ Int32.toInt (2 * (M.1 142 (Int32.toNatClampNeg ((99 * n1) + (n2 - (M.1 124 3)))))) ∧ Int32.toInt (2 * (M.1 142 (Int32.toNatClampNeg ((99 * n1) + (n2 - (M.1 124 3)))))) ≤ 12000 := (by have u1 := b36_; omega)
                  have q75_ : Int32.toInt (4 * n1) = 4 * Int32.toInt n1 := by have u0 : Int32.toInt 4 = 4 := (by decide); have u1 := hn1; have u2 := zmul 4 n1 (by rw [u0]; omega) (by rw [u0]; omega); rw [u0] at u2; omega
                  have b76_ : 0 ≤ Int32.toInt (4 * n1) ∧ Int32.toInt (4 * n1) ≤ 24 := (by have u1 := hn1; omega)
                  have b77_ : 0 ≤ Int32.toInt (n2 - n2 / 4 * 4) ∧ Int32.toInt (n2 - n2 / 4 * 4) ≤ 3 := (by have u0 := b29_; have u := zrem_p n2 4 (by omega) (by decide) (by decide); have e0 : nI 4 = (4 : Int32) := rfl; rw [e0] at u; omega)
                  obtain ⟨q79_, b78_⟩ : (Int32.toInt ((4 * n1) + (n2 - n2 / 4 * 4)) = Int32.toInt (4 * n1) + Int32.toInt (n2 - n2 / 4 * 4)) ∧ (0 ≤ Int32.toInt ((4 * n1) + (n2 - n2 / 4 * 4)) ∧ Int32.toInt ((4 * n1) + (n2 - n2 / 4 * 4)) ≤ 27) := zadd_r (4 * n1) (n2 - n2 / 4 * 4) 0 27 b76_ b77_ (by decide) (by decide) (by decide) (by decide)
                  have b80_ : 0 ≤ Int32.toInt (M.1 130 (Int32.toNatClampNeg ((4 * n1) + (n2 - n2 / 4 * 4)))) ∧ Int32.toInt (M.1 130 (Int32.toNatClampNeg ((4 * n1) + (n2 - n2 / 4 * 4)))) ≤ 9 := pvok_r hok 130 (Int32.toNatClampNeg ((4 * n1) + (n2 - n2 / 4 * 4))) rfl
                  obtain ⟨q82_, b81_⟩ : (Int32.toInt ((2 * (M.1 142 (Int32.toNatClampNeg ((99 * n1) + (n2 - (M.1 124 3)))))) + (M.1 130 (Int32.toNatClampNeg ((4 * n1) + (n2 - n2 / 4 * 4))))) = Int32.toInt (2 * (M.1 142 (Int32.toNatClampNeg ((99 * n1) + (n2 - (M.1 124 3)))))) + Int32.toInt (M.1 130 (Int32.toNatClampNeg ((4 * n1) + (n2 - n2 / 4 * 4))))) ∧ (0 ≤ Int32.toInt ((2 * (M.1 142 (Int32.toNatClampNeg ((99 * n1) + (n2 - (M.1 124 3)))))) + (M.1 130 (Int32.toNatClampNeg ((4 * n1) + (n2 - n2 / 4 * 4))))) ∧ Int32.toInt ((2 * (M.1 142 (Int32.toNatClampNeg ((99 * n1) + (n2 - (M.1 124 3)))))) + (M.1 130 (Int32.toNatClampNeg ((4 * n1) + (n2 - n2 / 4 * 4))))) ≤ 12009) := zadd_r (2 * (M.1 142 (Int32.toNatClampNeg ((99 * n1) + (n2 - (M.1 124 3)))))) (M.1 130 (Int32.toNatClampNeg ((4 * n1) + (n2 - n2 / 4 * 4)))) 0 12009 b74_ b80_ (by decide) (by decide) (by decide) (by decide)
                  refine pw_blk hT 14 (S' := (159, [some (pvR 124), some (pvI n1), some (pvI n2), some (pvI (n2 - (M.1 124 3))), some (pvI (M.1 142 (Int32.toNatClampNeg ((99 * n1) + (n2 - (M.1 124 3))))))], [pvI ((2 * (M.1 142 (Int32.toNatClampNeg ((99 * n1) + (n2 - (M.1 124 3)))))) + (M.1 130 (Int32.toNatClampNeg ((4 * n1) + (n2 - n2 / 4 * 4)))))], M)) rfl ⟨trivial, trivial, trivial, trivial, rfl, trivial, trivial, trivial, trivial, trivial, (by decide), trivial, ⟨rfl, (zr_in (n := 28) b78_ (by decide) (by decide))⟩, trivial, trivial⟩ ?_
                  exact pw_ret hT rfl (r := some (pvI ((2 * (M.1 142 (Int32.toNatClampNeg ((99 * n1) + (n2 - (M.1 124 3)))))) + (M.1 130 (Int32.toNatClampNeg ((4 * n1) + (n2 - n2 / 4 * 4))))))) (M' := M) ⟨rfl, rfl⟩ ⟨⟨_, rfl, b81_, (yHm_i (i := ((99 * n1) + (n2 - (M.1 124 3)))) hok hn1 hn2 c4_ d13_ (by have u := b16_; omega) c14_ c25_ (by omega) (yx_6 c71_ (by have v := yr0_i (M := M) (n1 := n1) (n2 := n2) (i := ((4 * n1) + (n2 - n2 / 4 * 4))) hn1.1 hn2.1 (by have r4 := yrem4 hn2.1; omega); omega)))⟩, rfl⟩
                · have b83_ : 0 ≤ Int32.toInt (M.1 125 (Int32.toNatClampNeg n1)) ∧ Int32.toInt (M.1 125 (Int32.toNatClampNeg n1)) ≤ 1 := (by have u0 := b37_; have u9 := (show _ ∧ _ from ⟨(not_congr (zi_eq _ _)).mp c71_, (show 6 ≤ Int32.toInt 6 ∧ Int32.toInt 6 ≤ 6 from (by decide))⟩); have v1 := (not_congr (zi_eq _ _)).mp c61_; have w1 : (5 : Int32).toInt = 5 := (by decide); have v2 := (not_congr (zi_eq _ _)).mp c46_; have w2 : (4 : Int32).toInt = 4 := (by decide); have v3 := (not_congr (zi_eq _ _)).mp c42_; have w3 : (3 : Int32).toInt = 3 := (by decide); have v4 := (not_congr (zi_eq _ _)).mp c38_; have w4 : (2 : Int32).toInt = 2 := (by decide); omega)
                  show PW 26 d (160, [some (pvR 124), some (pvI n1), some (pvI n2), some (pvI (n2 - (M.1 124 3))), some (pvI (M.1 142 (Int32.toNatClampNeg ((99 * n1) + (n2 - (M.1 124 3))))))], [], M) _
                  refine pw_blk hT 1 (S' := (162, [some (pvR 124), some (pvI n1), some (pvI n2), some (pvI (n2 - (M.1 124 3))), some (pvI (M.1 142 (Int32.toNatClampNeg ((99 * n1) + (n2 - (M.1 124 3))))))], [pvI (M.1 142 (Int32.toNatClampNeg ((99 * n1) + (n2 - (M.1 124 3)))))], M)) rfl ⟨trivial, trivial⟩ ?_
                  exact pw_ret hT rfl (r := some (pvI (M.1 142 (Int32.toNatClampNeg ((99 * n1) + (n2 - (M.1 124 3))))))) (M' := M) ⟨rfl, rfl⟩ ⟨⟨_, rfl, (zr_wide b36_ (by decide) (by decide)), (yHm_i (i := ((99 * n1) + (n2 - (M.1 124 3)))) hok hn1 hn2 c4_ d13_ (by have u := b16_; omega) c14_ c25_ (by omega) (yx_o c38_ c42_ c46_ c61_ c71_ rfl))⟩, rfl⟩
set_option maxHeartbeats 4000000 in
set_option maxRecDepth 10000 in
theorem se_X10_harmAt_124_x (M : pvM) (hok : pvOk M) (n1 : Int32) (hn1 : 0 ≤ Int32.toInt n1 ∧ Int32.toInt n1 ≤ 200000) (d : Nat) : PW 27 d (0, [some (pvR 124), some (pvI n1), none, none], [], M) (fun r X => (∃ x : Int32, r = some (pvI x) ∧ (0 ≤ Int32.toInt x ∧ Int32.toInt x ≤ 84700) ∧ yHt M n1 x) ∧ X = M) := by
  have hT : pvdom 27 = pvD_27 := rfl
  refine pw_blk hT 4 (S' := (4, [some (pvR 124), some (pvI n1), some (pvI 0), some (pvI 0)], [], M)) rfl ⟨trivial, trivial, trivial, trivial, trivial⟩ ?_
  have hlz53_ : ∀ (nz53_ : Nat) (i2z53_ : Int32) (i3z53_ : Int32), (0 ≤ Int32.toInt i2z53_ ∧ Int32.toInt i2z53_ ≤ 84700) → (0 ≤ Int32.toInt i3z53_ ∧ Int32.toInt i3z53_ ≤ 7) → (Int32.toInt i2z53_ ≤ 12100 * Int32.toInt i3z53_) → (0 ≤ Int32.toInt i2z53_) → (yTI2 M n1 i2z53_ i3z53_) → (zhide ((8 - Int32.toInt i3z53_).toNat < nz53_)) → PW 27 d (4, [some (pvR 124), some (pvI n1), some (pvI i2z53_), some (pvI i3z53_)], [], M) (fun r X => (∃ x : Int32, r = some (pvI x) ∧ (0 ≤ Int32.toInt x ∧ Int32.toInt x ≤ 84700) ∧ yHt M n1 x) ∧ X = M) := by
    intro nz53_
    induction nz53_ with
    | zero => intro i2z53_ i3z53_ h2z53_ h3z53_ j0z53_ j1z53_ j2z53_ hmz53_; exact absurd (zshow hmz53_) (Nat.not_lt_zero _)
    | succ nz53_ ihz53_ =>
      intro i2z53_ i3z53_ h2z53_ h3z53_ j0z53_ j1z53_ j2z53_ hmz53_
      have b54_ : 0 ≤ Int32.toInt (M.1 124 0) ∧ Int32.toInt (M.1 124 0) ≤ 7 := pvok_r hok 124 0 rfl
      refine pw_blk hT 3 (S' := (9, [some (pvR 124), some (pvI n1), some (pvI i2z53_), some (pvI i3z53_)], [pvI (M.1 124 0), pvI i3z53_], M)) rfl ⟨trivial, trivial, rfl, trivial⟩ ?_
      refine pw_ic hT (c := (M.1 124 0) ≤ i3z53_) rfl rfl (fun c55_ => ?_) (fun c55_ => ?_)
      · have d56_ : Int32.toInt (M.1 124 0) ≤ Int32.toInt i3z53_ := (zi_le _ _).mp c55_
        refine pw_blk hT 1 (S' := (28, [some (pvR 124), some (pvI n1), some (pvI i2z53_), some (pvI i3z53_)], [pvI i2z53_], M)) rfl ⟨trivial, trivial⟩ ?_
        exact pw_ret hT rfl (r := some (pvI i2z53_)) (M' := M) ⟨rfl, rfl⟩ ⟨⟨_, rfl, h2z53_, (yTI2_e j2z53_ (by omega))⟩, rfl⟩
      · have b57_ : 1 ≤ Int32.toInt (M.1 124 0) ∧ Int32.toInt (M.1 124 0) ≤ 7 := zr_nle_l 1 c55_ b54_ h3z53_ (by decide)
        have b58_ : 0 ≤ Int32.toInt i3z53_ ∧ Int32.toInt i3z53_ ≤ 6 := zr_nle_r 6 c55_ h3z53_ b57_ (by decide)
        have d59_ : Int32.toInt (M.1 124 0) > Int32.toInt i3z53_ := Int.not_le.mp ((not_congr (zi_le _ _)).mp c55_)
        refine pw_blk hT 4 (S' := (16, [some (pvR 124), some (pvI n1), some (pvI i2z53_), some (pvI i3z53_)], [pvI n1, pvI i3z53_, pvR 124, pvI i2z53_], M)) rfl ⟨trivial, trivial, trivial, trivial, trivial⟩ ?_
        refine pw_callGp hT (as := [pvR 124, pvI i3z53_, pvI n1]) (lo1 := [some (pvR 124), some (pvI i3z53_), some (pvI n1), none, none]) (d1 := d) (rest := [pvI i2z53_]) rfl rfl rfl rfl rfl (fun _ => rfl) (Nat.zero_le _) rfl rfl rfl (se_X10_harm_124_x_x M hok i3z53_ n1 b58_ hn1 d) (fun x60_ b62_ => ?_)
        obtain ⟨b65_, d66_⟩ := b62_
        obtain ⟨q68_, b67_⟩ : (Int32.toInt (i2z53_ + x60_) = Int32.toInt i2z53_ + Int32.toInt x60_) ∧ (0 ≤ Int32.toInt (i2z53_ + x60_) ∧ Int32.toInt (i2z53_ + x60_) ≤ 96709) := zadd_r i2z53_ x60_ 0 96709 h2z53_ b65_ (by decide) (by decide) (by decide) (by decide)
        obtain ⟨q70_, b69_⟩ : (Int32.toInt (i3z53_ + 1) = Int32.toInt i3z53_ + 1) ∧ (1 ≤ Int32.toInt (i3z53_ + 1) ∧ Int32.toInt (i3z53_ + 1) ≤ 7) := zadd_k i3z53_ 1 1 1 7 b58_ (by decide) (by decide) (by decide) (by decide) (by decide)
        refine pw_blk hT 4 (S' := (4, [some (pvR 124), some (pvI n1), some (pvI (i2z53_ + x60_)), some (pvI (i3z53_ + 1))], [], M)) rfl ⟨trivial, trivial, trivial, trivial, trivial⟩ ?_
        have j71_ : Int32.toInt (i2z53_ + x60_) ≤ 12100 * Int32.toInt (i3z53_ + 1) := by omega
        have j72_ : 0 ≤ Int32.toInt (i2z53_ + x60_) := by omega
        have j73_ : yTI2 M n1 (i2z53_ + x60_) (i3z53_ + 1) := (yTI2_s j2z53_ (by have u := b58_; omega) (by omega) (by omega) d66_ (by omega))
        exact ihz53_ (i2z53_ + x60_) (i3z53_ + 1) (by have u0 := b67_; omega) (zr_wide b69_ (by decide) (by decide)) j71_ j72_ j73_ (zhid (pvms_up (zshow hmz53_) h3z53_ q70_ (by decide) (by decide)))
  have u74_ : Int32.toInt 0 = 0 := by decide
  have j75_ : Int32.toInt 0 ≤ 12100 * Int32.toInt 0 := by omega
  have j76_ : 0 ≤ Int32.toInt 0 := by omega
  have j77_ : yTI2 M n1 0 0 := (yTI2_0 hok n1)
  exact hlz53_ _ 0 0 (zr_wide (show 0 ≤ Int32.toInt 0 ∧ Int32.toInt 0 ≤ 0 from (by decide)) (by decide) (by decide)) (zr_wide (show 0 ≤ Int32.toInt 0 ∧ Int32.toInt 0 ≤ 0 from (by decide)) (by decide) (by decide)) j75_ j76_ j77_ (zhid (Nat.lt_succ_self _))
set_option maxHeartbeats 4000000 in
set_option maxRecDepth 10000 in
theorem se_X10_harmFrom_124_x_x (M : pvM) (hok : pvOk M) (n1 : Int32) (n2 : Int32) (hn1 : 0 ≤ Int32.toInt n1 ∧ Int32.toInt n1 ≤ 200000) (hn2 : 0 ≤ Int32.toInt n2 ∧ Int32.toInt n2 ≤ 200000) (d : Nat) : PW 28 d (0, [some (pvR 124), some (pvI n1), some (pvI n2), none, none], [], M) (fun r X => (∃ x : Int32, r = some (pvI x) ∧ (0 ≤ Int32.toInt x ∧ Int32.toInt x ≤ 9000000) ∧ yHf M n1 n2 x) ∧ X = M) := by
  have hT : pvdom 28 = pvD_28 := rfl
  have b1_ : 0 ≤ Int32.toInt (M.1 124 3) ∧ Int32.toInt (M.1 124 3) ≤ 108 := pvok_r hok 124 3 rfl
  refine pw_blk hT 5 (S' := (7, [some (pvR 124), some (pvI n1), some (pvI n2), some (pvI 0), none], [pvI (M.1 124 3), pvI n1], M)) rfl ⟨trivial, trivial, trivial, trivial, rfl, trivial⟩ ?_
  refine pw_ic hT (c := (M.1 124 3) ≤ n1) rfl rfl (fun c2_ => ?_) (fun c2_ => ?_)
  · have d3_ : Int32.toInt (M.1 124 3) ≤ Int32.toInt n1 := (zi_le _ _).mp c2_
    refine pw_blk hT 2 (S' := (20, [some (pvR 124), some (pvI n1), some (pvI n2), some (pvI 0), some (pvI n1)], [], M)) rfl ⟨trivial, trivial, trivial⟩ ?_
    have hlz95_ : ∀ (nz95_ : Nat) (i3z95_ : Int32) (i4z95_ : Int32), (0 ≤ Int32.toInt i3z95_ ∧ Int32.toInt i3z95_ ≤ 9000000) → (0 ≤ Int32.toInt i4z95_ ∧ Int32.toInt i4z95_ ≤ 200000) → (Int32.toInt i3z95_ ≤ 90000 * (Int32.toInt i4z95_ - Int32.toInt (M.1 124 3))) → (0 ≤ Int32.toInt i3z95_) → (Int32.toInt (M.1 124 3) ≤ Int32.toInt i4z95_) → (Int32.toInt i4z95_ ≤ Int32.toInt (M.1 124 3) + 99 ∨ Int32.toInt i3z95_ = 0) → (yFI M n1 n2 i3z95_ i4z95_) → (zhide ((200001 - Int32.toInt i4z95_).toNat < nz95_)) → PW 28 d (20, [some (pvR 124), some (pvI n1), some (pvI n2), some (pvI i3z95_), some (pvI i4z95_)], [], M) (fun r X => (∃ x : Int32, r = some (pvI x) ∧ (0 ≤ Int32.toInt x ∧ Int32.toInt x ≤ 9000000) ∧ yHf M n1 n2 x) ∧ X = M) := by
      intro nz95_
      induction nz95_ with
      | zero => intro i3z95_ i4z95_ h3z95_ h4z95_ j0z95_ j1z95_ j2z95_ j3z95_ j4z95_ hmz95_; exact absurd (zshow hmz95_) (Nat.not_lt_zero _)
      | succ nz95_ ihz95_ =>
        intro i3z95_ i4z95_ h3z95_ h4z95_ j0z95_ j1z95_ j2z95_ j3z95_ j4z95_ hmz95_
        refine pw_blk hT 2 (S' := (23, [some (pvR 124), some (pvI n1), some (pvI n2), some (pvI i3z95_), some (pvI i4z95_)], [pvI n2, pvI i4z95_], M)) rfl ⟨trivial, trivial, trivial⟩ ?_
        refine pw_ic hT (c := n2 ≤ i4z95_) rfl rfl (fun c96_ => ?_) (fun c96_ => ?_)
        · have d97_ : Int32.toInt n2 ≤ Int32.toInt i4z95_ := (zi_le _ _).mp c96_
          refine pw_blk hT 1 (S' := (56, [some (pvR 124), some (pvI n1), some (pvI n2), some (pvI i3z95_), some (pvI i4z95_)], [pvI i3z95_], M)) rfl ⟨trivial, trivial⟩ ?_
          exact pw_ret hT rfl (r := some (pvI i3z95_)) (M' := M) ⟨rfl, rfl⟩ ⟨⟨_, rfl, h3z95_, (yFI_e (l := 0) j4z95_ (Or.inl (by omega)))⟩, rfl⟩
        · have b98_ : 1 ≤ Int32.toInt n2 ∧ Int32.toInt n2 ≤ 200000 := zr_nle_l 1 c96_ hn2 h4z95_ (by decide)
          have b99_ : 0 ≤ Int32.toInt i4z95_ ∧ Int32.toInt i4z95_ ≤ 199999 := zr_nle_r 199999 c96_ h4z95_ b98_ (by decide)
          have d100_ : Int32.toInt n2 > Int32.toInt i4z95_ := Int.not_le.mp ((not_congr (zi_le _ _)).mp c96_)
          refine pw_blk hT 4 (S' := (33, [some (pvR 124), some (pvI n1), some (pvI n2), some (pvI i3z95_), some (pvI i4z95_)], [pvR 124, pvI (M.1 124 3), pvI i4z95_], M)) rfl ⟨trivial, trivial, rfl, trivial, trivial⟩ ?_
          refine pw_callGp hT (as := [pvR 124]) (lo1 := [some (pvR 124)]) (d1 := d) (rest := [pvI (M.1 124 3), pvI i4z95_]) rfl rfl rfl rfl rfl (fun _ => rfl) (Nat.zero_le _) rfl rfl rfl (se_X10_lastNow_124 M hok d) (fun x101_ b103_ => ?_)
          obtain ⟨b106_, d107_⟩ := b103_
          obtain ⟨q109_, b108_⟩ : (Int32.toInt ((M.1 124 3) + x101_) = Int32.toInt (M.1 124 3) + Int32.toInt x101_) ∧ (0 ≤ Int32.toInt ((M.1 124 3) + x101_) ∧ Int32.toInt ((M.1 124 3) + x101_) ≤ 207) := zadd_r (M.1 124 3) x101_ 0 207 b1_ b106_ (by decide) (by decide) (by decide) (by decide)
          refine pw_blk hT 1 (S' := (37, [some (pvR 124), some (pvI n1), some (pvI n2), some (pvI i3z95_), some (pvI i4z95_)], [pvI ((M.1 124 3) + x101_), pvI i4z95_], M)) rfl ⟨trivial, trivial⟩ ?_
          refine pw_ic hT (c := ((M.1 124 3) + x101_) ≤ i4z95_) rfl rfl (fun c110_ => ?_) (fun c110_ => ?_)
          · have d111_ : Int32.toInt ((M.1 124 3) + x101_) ≤ Int32.toInt i4z95_ := (zi_le _ _).mp c110_
            refine pw_blk hT 1 (S' := (56, [some (pvR 124), some (pvI n1), some (pvI n2), some (pvI i3z95_), some (pvI i4z95_)], [pvI i3z95_], M)) rfl ⟨trivial, trivial⟩ ?_
            exact pw_ret hT rfl (r := some (pvI i3z95_)) (M' := M) ⟨rfl, rfl⟩ ⟨⟨_, rfl, h3z95_, (yFI_e j4z95_ (Or.inr ⟨d107_, by have v := (zi_le _ _).mp c110_; omega⟩))⟩, rfl⟩
          · have b112_ : 1 ≤ Int32.toInt ((M.1 124 3) + x101_) ∧ Int32.toInt ((M.1 124 3) + x101_) ≤ 207 := zr_nle_l 1 c110_ b108_ b99_ (by decide)
            have b113_ : 0 ≤ Int32.toInt i4z95_ ∧ Int32.toInt i4z95_ ≤ 206 := zr_nle_r 206 c110_ b99_ b112_ (by decide)
            have d114_ : Int32.toInt ((M.1 124 3) + x101_) > Int32.toInt i4z95_ := Int.not_le.mp ((not_congr (zi_le _ _)).mp c110_)
            refine pw_blk hT 3 (S' := (44, [some (pvR 124), some (pvI n1), some (pvI n2), some (pvI i3z95_), some (pvI i4z95_)], [pvI i4z95_, pvR 124, pvI i3z95_], M)) rfl ⟨trivial, trivial, trivial, trivial⟩ ?_
            refine pw_callGp hT (as := [pvR 124, pvI i4z95_]) (lo1 := [some (pvR 124), some (pvI i4z95_), none, none]) (d1 := d) (rest := [pvI i3z95_]) rfl rfl rfl rfl rfl (fun _ => rfl) (Nat.zero_le _) rfl rfl rfl (se_X10_harmAt_124_x M hok i4z95_ (zr_wide b113_ (by decide) (by decide)) d) (fun x115_ b117_ => ?_)
            obtain ⟨b120_, d121_⟩ := b117_
            obtain ⟨q123_, b122_⟩ : (Int32.toInt (i3z95_ + x115_) = Int32.toInt i3z95_ + Int32.toInt x115_) ∧ (0 ≤ Int32.toInt (i3z95_ + x115_) ∧ Int32.toInt (i3z95_ + x115_) ≤ 9084700) := zadd_r i3z95_ x115_ 0 9084700 h3z95_ b120_ (by decide) (by decide) (by decide) (by decide)
            obtain ⟨q125_, b124_⟩ : (Int32.toInt (i4z95_ + 1) = Int32.toInt i4z95_ + 1) ∧ (1 ≤ Int32.toInt (i4z95_ + 1) ∧ Int32.toInt (i4z95_ + 1) ≤ 207) := zadd_k i4z95_ 1 1 1 207 b113_ (by decide) (by decide) (by decide) (by decide) (by decide)
            refine pw_blk hT 4 (S' := (20, [some (pvR 124), some (pvI n1), some (pvI n2), some (pvI (i3z95_ + x115_)), some (pvI (i4z95_ + 1))], [], M)) rfl ⟨trivial, trivial, trivial, trivial, trivial⟩ ?_
            have j126_ : Int32.toInt (i3z95_ + x115_) ≤ 90000 * (Int32.toInt (i4z95_ + 1) - Int32.toInt (M.1 124 3)) := by omega
            have j127_ : 0 ≤ Int32.toInt (i3z95_ + x115_) := by omega
            have j128_ : Int32.toInt (M.1 124 3) ≤ Int32.toInt (i4z95_ + 1) := by omega
            have j129_ : Int32.toInt (i4z95_ + 1) ≤ Int32.toInt (M.1 124 3) + 99 ∨ Int32.toInt (i3z95_ + x115_) = 0 := by omega
            have j130_ : yFI M n1 n2 (i3z95_ + x115_) (i4z95_ + 1) := (yFI_s j4z95_ (by omega) (by omega) d121_ (by omega))
            exact ihz95_ (i3z95_ + x115_) (i4z95_ + 1) (by have u0 := b122_; omega) (zr_wide b124_ (by decide) (by decide)) j126_ j127_ j128_ j129_ j130_ (zhid (pvms_up (zshow hmz95_) h4z95_ q125_ (by decide) (by decide)))
    have u131_ : Int32.toInt 0 = 0 := by decide
    have j132_ : Int32.toInt 0 ≤ 90000 * (Int32.toInt n1 - Int32.toInt (M.1 124 3)) := by omega
    have j133_ : 0 ≤ Int32.toInt 0 := by omega
    have j134_ : Int32.toInt (M.1 124 3) ≤ Int32.toInt n1 := by omega
    have j135_ : Int32.toInt n1 ≤ Int32.toInt (M.1 124 3) + 99 ∨ Int32.toInt 0 = 0 := by omega
    have j136_ : yFI M n1 n2 0 n1 := (yFI_0 (by have v := (zi_le _ _).mp c2_; unfold yst; omega))
    exact hlz95_ _ 0 n1 (zr_wide (show 0 ≤ Int32.toInt 0 ∧ Int32.toInt 0 ≤ 0 from (by decide)) (by decide) (by decide)) hn1 j132_ j133_ j134_ j135_ j136_ (zhid (Nat.lt_succ_self _))
  · have b137_ : 1 ≤ Int32.toInt (M.1 124 3) ∧ Int32.toInt (M.1 124 3) ≤ 108 := zr_nle_l 1 c2_ b1_ hn1 (by decide)
    have b138_ : 0 ≤ Int32.toInt n1 ∧ Int32.toInt n1 ≤ 107 := zr_nle_r 107 c2_ hn1 b137_ (by decide)
    have d139_ : Int32.toInt (M.1 124 3) > Int32.toInt n1 := Int.not_le.mp ((not_congr (zi_le _ _)).mp c2_)
    refine pw_blk hT 4 (S' := (20, [some (pvR 124), some (pvI n1), some (pvI n2), some (pvI 0), some (pvI (M.1 124 3))], [], M)) rfl ⟨trivial, rfl, trivial, trivial, trivial⟩ ?_
    have hlz231_ : ∀ (nz231_ : Nat) (i3z231_ : Int32) (i4z231_ : Int32), (0 ≤ Int32.toInt i3z231_ ∧ Int32.toInt i3z231_ ≤ 9000000) → (1 ≤ Int32.toInt i4z231_ ∧ Int32.toInt i4z231_ ≤ 207) → (Int32.toInt i3z231_ ≤ 90000 * (Int32.toInt i4z231_ - Int32.toInt (M.1 124 3))) → (0 ≤ Int32.toInt i3z231_) → (Int32.toInt (M.1 124 3) ≤ Int32.toInt i4z231_) → (Int32.toInt i4z231_ ≤ Int32.toInt (M.1 124 3) + 99 ∨ Int32.toInt i3z231_ = 0) → (yFI M n1 n2 i3z231_ i4z231_) → (zhide ((208 - Int32.toInt i4z231_).toNat < nz231_)) → PW 28 d (20, [some (pvR 124), some (pvI n1), some (pvI n2), some (pvI i3z231_), some (pvI i4z231_)], [], M) (fun r X => (∃ x : Int32, r = some (pvI x) ∧ (0 ≤ Int32.toInt x ∧ Int32.toInt x ≤ 9000000) ∧ yHf M n1 n2 x) ∧ X = M) := by
      intro nz231_
      induction nz231_ with
      | zero => intro i3z231_ i4z231_ h3z231_ h4z231_ j0z231_ j1z231_ j2z231_ j3z231_ j4z231_ hmz231_; exact absurd (zshow hmz231_) (Nat.not_lt_zero _)
      | succ nz231_ ihz231_ =>
        intro i3z231_ i4z231_ h3z231_ h4z231_ j0z231_ j1z231_ j2z231_ j3z231_ j4z231_ hmz231_
        refine pw_blk hT 2 (S' := (23, [some (pvR 124), some (pvI n1), some (pvI n2), some (pvI i3z231_), some (pvI i4z231_)], [pvI n2, pvI i4z231_], M)) rfl ⟨trivial, trivial, trivial⟩ ?_
        refine pw_ic hT (c := n2 ≤ i4z231_) rfl rfl (fun c232_ => ?_) (fun c232_ => ?_)
        · have b233_ : 0 ≤ Int32.toInt n2 ∧ Int32.toInt n2 ≤ 207 := zr_le_l 207 c232_ hn2 h4z231_ (by decide)
          have d234_ : Int32.toInt n2 ≤ Int32.toInt i4z231_ := (zi_le _ _).mp c232_
          refine pw_blk hT 1 (S' := (56, [some (pvR 124), some (pvI n1), some (pvI n2), some (pvI i3z231_), some (pvI i4z231_)], [pvI i3z231_], M)) rfl ⟨trivial, trivial⟩ ?_
          exact pw_ret hT rfl (r := some (pvI i3z231_)) (M' := M) ⟨rfl, rfl⟩ ⟨⟨_, rfl, h3z231_, (yFI_e (l := 0) j4z231_ (Or.inl (by omega)))⟩, rfl⟩
        · have b235_ : 2 ≤ Int32.toInt n2 ∧ Int32.toInt n2 ≤ 200000 := zr_nle_l 2 c232_ hn2 h4z231_ (by decide)
          have d236_ : Int32.toInt n2 > Int32.toInt i4z231_ := Int.not_le.mp ((not_congr (zi_le _ _)).mp c232_)
          refine pw_blk hT 4 (S' := (33, [some (pvR 124), some (pvI n1), some (pvI n2), some (pvI i3z231_), some (pvI i4z231_)], [pvR 124, pvI (M.1 124 3), pvI i4z231_], M)) rfl ⟨trivial, trivial, rfl, trivial, trivial⟩ ?_
          refine pw_callGp hT (as := [pvR 124]) (lo1 := [some (pvR 124)]) (d1 := d) (rest := [pvI (M.1 124 3), pvI i4z231_]) rfl rfl rfl rfl rfl (fun _ => rfl) (Nat.zero_le _) rfl rfl rfl (se_X10_lastNow_124 M hok d) (fun x237_ b239_ => ?_)
          obtain ⟨b242_, d243_⟩ := b239_
          obtain ⟨q245_, b244_⟩ : (Int32.toInt ((M.1 124 3) + x237_) = Int32.toInt (M.1 124 3) + Int32.toInt x237_) ∧ (1 ≤ Int32.toInt ((M.1 124 3) + x237_) ∧ Int32.toInt ((M.1 124 3) + x237_) ≤ 207) := zadd_r (M.1 124 3) x237_ 1 207 b137_ b242_ (by decide) (by decide) (by decide) (by decide)
          refine pw_blk hT 1 (S' := (37, [some (pvR 124), some (pvI n1), some (pvI n2), some (pvI i3z231_), some (pvI i4z231_)], [pvI ((M.1 124 3) + x237_), pvI i4z231_], M)) rfl ⟨trivial, trivial⟩ ?_
          refine pw_ic hT (c := ((M.1 124 3) + x237_) ≤ i4z231_) rfl rfl (fun c246_ => ?_) (fun c246_ => ?_)
          · have d247_ : Int32.toInt ((M.1 124 3) + x237_) ≤ Int32.toInt i4z231_ := (zi_le _ _).mp c246_
            refine pw_blk hT 1 (S' := (56, [some (pvR 124), some (pvI n1), some (pvI n2), some (pvI i3z231_), some (pvI i4z231_)], [pvI i3z231_], M)) rfl ⟨trivial, trivial⟩ ?_
            exact pw_ret hT rfl (r := some (pvI i3z231_)) (M' := M) ⟨rfl, rfl⟩ ⟨⟨_, rfl, h3z231_, (yFI_e j4z231_ (Or.inr ⟨d243_, by have v := (zi_le _ _).mp c246_; omega⟩))⟩, rfl⟩
          · have b248_ : 2 ≤ Int32.toInt ((M.1 124 3) + x237_) ∧ Int32.toInt ((M.1 124 3) + x237_) ≤ 207 := zr_nle_l 2 c246_ b244_ h4z231_ (by decide)
            have b249_ : 1 ≤ Int32.toInt i4z231_ ∧ Int32.toInt i4z231_ ≤ 206 := zr_nle_r 206 c246_ h4z231_ b248_ (by decide)
            have d250_ : Int32.toInt ((M.1 124 3) + x237_) > Int32.toInt i4z231_ := Int.not_le.mp ((not_congr (zi_le _ _)).mp c246_)
            refine pw_blk hT 3 (S' := (44, [some (pvR 124), some (pvI n1), some (pvI n2), some (pvI i3z231_), some (pvI i4z231_)], [pvI i4z231_, pvR 124, pvI i3z231_], M)) rfl ⟨trivial, trivial, trivial, trivial⟩ ?_
            refine pw_callGp hT (as := [pvR 124, pvI i4z231_]) (lo1 := [some (pvR 124), some (pvI i4z231_), none, none]) (d1 := d) (rest := [pvI i3z231_]) rfl rfl rfl rfl rfl (fun _ => rfl) (Nat.zero_le _) rfl rfl rfl (se_X10_harmAt_124_x M hok i4z231_ (zr_wide b249_ (by decide) (by decide)) d) (fun x251_ b253_ => ?_)
            obtain ⟨b256_, d257_⟩ := b253_
            obtain ⟨q259_, b258_⟩ : (Int32.toInt (i3z231_ + x251_) = Int32.toInt i3z231_ + Int32.toInt x251_) ∧ (0 ≤ Int32.toInt (i3z231_ + x251_) ∧ Int32.toInt (i3z231_ + x251_) ≤ 9084700) := zadd_r i3z231_ x251_ 0 9084700 h3z231_ b256_ (by decide) (by decide) (by decide) (by decide)
            obtain ⟨q261_, b260_⟩ : (Int32.toInt (i4z231_ + 1) = Int32.toInt i4z231_ + 1) ∧ (2 ≤ Int32.toInt (i4z231_ + 1) ∧ Int32.toInt (i4z231_ + 1) ≤ 207) := zadd_k i4z231_ 1 1 2 207 b249_ (by decide) (by decide) (by decide) (by decide) (by decide)
            refine pw_blk hT 4 (S' := (20, [some (pvR 124), some (pvI n1), some (pvI n2), some (pvI (i3z231_ + x251_)), some (pvI (i4z231_ + 1))], [], M)) rfl ⟨trivial, trivial, trivial, trivial, trivial⟩ ?_
            have j262_ : Int32.toInt (i3z231_ + x251_) ≤ 90000 * (Int32.toInt (i4z231_ + 1) - Int32.toInt (M.1 124 3)) := by omega
            have j263_ : 0 ≤ Int32.toInt (i3z231_ + x251_) := by omega
            have j264_ : Int32.toInt (M.1 124 3) ≤ Int32.toInt (i4z231_ + 1) := by omega
            have j265_ : Int32.toInt (i4z231_ + 1) ≤ Int32.toInt (M.1 124 3) + 99 ∨ Int32.toInt (i3z231_ + x251_) = 0 := by omega
            have j266_ : yFI M n1 n2 (i3z231_ + x251_) (i4z231_ + 1) := (yFI_s j4z231_ (by omega) (by omega) d257_ (by omega))
            exact ihz231_ (i3z231_ + x251_) (i4z231_ + 1) (by have u0 := b258_; omega) (zr_wide b260_ (by decide) (by decide)) j262_ j263_ j264_ j265_ j266_ (zhid (pvms_up (zshow hmz231_) h4z231_ q261_ (by decide) (by decide)))
    have u267_ : Int32.toInt 0 = 0 := by decide
    have j268_ : Int32.toInt 0 ≤ 90000 * (Int32.toInt (M.1 124 3) - Int32.toInt (M.1 124 3)) := by omega
    have j269_ : 0 ≤ Int32.toInt 0 := by omega
    have j270_ : Int32.toInt (M.1 124 3) ≤ Int32.toInt (M.1 124 3) := by omega
    have j271_ : Int32.toInt (M.1 124 3) ≤ Int32.toInt (M.1 124 3) + 99 ∨ Int32.toInt 0 = 0 := by omega
    have j272_ : yFI M n1 n2 0 (M.1 124 3) := (yFI_0 (by have v := (not_congr (zi_le _ _)).mp c2_; unfold yst; omega))
    exact hlz231_ _ 0 (M.1 124 3) (zr_wide (show 0 ≤ Int32.toInt 0 ∧ Int32.toInt 0 ≤ 0 from (by decide)) (by decide) (by decide)) (zr_wide b137_ (by decide) (by decide)) j268_ j269_ j270_ j271_ j272_ (zhid (Nat.lt_succ_self _))
set_option maxHeartbeats 4000000 in
set_option maxRecDepth 10000 in
theorem se_X10_harmTillEnd_124 (M : pvM) (hok : pvOk M) (d : Nat) : PW 30 d (0, [some (pvR 124)], [], M) (fun r X => (∃ x : Int32, r = some (pvI x) ∧ (0 ≤ Int32.toInt x ∧ Int32.toInt x ≤ 9000000) ∧ yC0 M x) ∧ X = M) := by
  have hT : pvdom 30 = pvD_30 := rfl
  have b1_ : 0 ≤ Int32.toInt (M.1 124 1) ∧ Int32.toInt (M.1 124 1) ≤ 9999 := pvok_r hok 124 1 rfl
  have b2_ : 0 ≤ Int32.toInt (M.1 124 3) ∧ Int32.toInt (M.1 124 3) ≤ 108 := pvok_r hok 124 3 rfl
  refine pw_blk hT 6 (S' := (10, [some (pvR 124)], [pvR 124, pvI (M.1 124 3), pvI (M.1 124 1), pvR 124], M)) rfl ⟨trivial, trivial, rfl, trivial, rfl, trivial, trivial⟩ ?_
  refine pw_callGp hT (as := [pvR 124]) (lo1 := [some (pvR 124)]) (d1 := d) (rest := [pvI (M.1 124 3), pvI (M.1 124 1), pvR 124]) rfl rfl rfl rfl rfl (fun _ => rfl) (Nat.zero_le _) rfl rfl rfl (se_X10_lastNow_124 M hok d) (fun x3_ b5_ => ?_)
  obtain ⟨b8_, d9_⟩ := b5_
  obtain ⟨q11_, b10_⟩ : (Int32.toInt ((M.1 124 3) + x3_) = Int32.toInt (M.1 124 3) + Int32.toInt x3_) ∧ (0 ≤ Int32.toInt ((M.1 124 3) + x3_) ∧ Int32.toInt ((M.1 124 3) + x3_) ≤ 207) := zadd_r (M.1 124 3) x3_ 0 207 b2_ b8_ (by decide) (by decide) (by decide) (by decide)
  refine pw_blk hT 1 (S' := (14, [some (pvR 124)], [pvI ((M.1 124 3) + x3_), pvI (M.1 124 1), pvR 124], M)) rfl ⟨trivial, trivial⟩ ?_
  refine pw_callGp hT (as := [pvR 124, pvI (M.1 124 1), pvI ((M.1 124 3) + x3_)]) (lo1 := [some (pvR 124), some (pvI (M.1 124 1)), some (pvI ((M.1 124 3) + x3_)), none, none]) (d1 := d) (rest := []) rfl rfl rfl rfl rfl (fun _ => rfl) (Nat.zero_le _) rfl rfl rfl (se_X10_harmFrom_124_x_x M hok (M.1 124 1) ((M.1 124 3) + x3_) (zr_wide b1_ (by decide) (by decide)) (zr_wide b10_ (by decide) (by decide)) d) (fun x12_ b14_ => ?_)
  obtain ⟨b17_, d18_⟩ := b14_
  exact pw_ret hT rfl (r := some (pvI x12_)) (M' := M) ⟨rfl, rfl⟩ ⟨⟨_, rfl, b17_, (yC0_i d18_ d9_ (by omega))⟩, rfl⟩
def fpL_eX10_costOfPath_124_x : List (Nat × Nat × Nat) := [(0, 143, 0)]
def fp_eX10_costOfPath_124_x (q k : Nat) : Bool := pvfp fpL_eX10_costOfPath_124_x q k
theorem fp_eX10_costOfPath_124_x_fp_eX10_goes_124_x_x_x (a b : Nat) (h : fp_eX10_goes_124_x_x_x a b = true) : fp_eX10_costOfPath_124_x a b = true := pvfp_sub (l1 := fpL_eX10_goes_124_x_x_x) (l2 := fpL_eX10_costOfPath_124_x) (by decide) a b h
theorem fp_eX10_costOfPath_124_x_fp_eX10_layOpen_124 (a b : Nat) (h : fp_eX10_layOpen_124 a b = true) : fp_eX10_costOfPath_124_x a b = true := pvfp_sub (l1 := fpL_eX10_layOpen_124) (l2 := fpL_eX10_costOfPath_124_x) (by decide) a b h
set_option maxHeartbeats 4000000 in
set_option maxRecDepth 10000 in
theorem se_X10_costOfPath_124_x (M : pvM) (hok : pvOk M) (n1 : Int32) (hn1 : 0 ≤ Int32.toInt n1 ∧ Int32.toInt n1 ≤ 60) (d : Nat) : PW 14 d (0, [some (pvR 124), some (pvI n1), none], [], M) (fun r X => (∃ x : Int32, r = some (pvI x) ∧ 0 ≤ Int32.toInt x ∧ Int32.toInt x ≤ 9000000) ∧ pvOk X ∧ pvFr fp_eX10_costOfPath_124_x M X ∧ yQ0 n1 r M X) := by
  have hT : pvdom 14 = pvD_14 := rfl
  refine pw_blk hT 1 (S' := (1, [some (pvR 124), some (pvI n1), none], [pvR 124], M)) rfl ⟨trivial, trivial⟩ ?_
  refine pw_callVd hT (as := [pvR 124]) (lo1 := [some (pvR 124), none]) (d1 := d) (rest := []) rfl rfl rfl rfl rfl (fun _ => rfl) (Nat.zero_le _) rfl rfl rfl (se_X10_layOpen_124 M hok d) (fun M3_ o5_ g6_ d1_ => ?_)
  have f7_ : pvFr fp_eX10_costOfPath_124_x M M3_ := pvfr_t g6_ pvfr_0 fp_eX10_costOfPath_124_x_fp_eX10_layOpen_124
  have b8_ : 0 ≤ Int32.toInt (M3_.1 124 35) ∧ Int32.toInt (M3_.1 124 35) ≤ 7 := pvok_r o5_ 124 35 rfl
  have b9_ : 0 ≤ Int32.toInt (M3_.1 124 1) ∧ Int32.toInt (M3_.1 124 1) ≤ 9999 := pvok_r o5_ 124 1 rfl
  obtain ⟨q11_, b10_⟩ : (Int32.toInt ((M3_.1 124 1) + n1) = Int32.toInt (M3_.1 124 1) + Int32.toInt n1) ∧ (0 ≤ Int32.toInt ((M3_.1 124 1) + n1) ∧ Int32.toInt ((M3_.1 124 1) + n1) ≤ 10059) := zadd_r (M3_.1 124 1) n1 0 10059 b9_ hn1 (by decide) (by decide) (by decide) (by decide)
  refine pw_blk hT 8 (S' := (16, [some (pvR 124), some (pvI n1), none], [pvI ((M3_.1 124 1) + n1), pvI (M3_.1 124 35), pvI 0, pvR 124], M3_)) rfl ⟨trivial, trivial, trivial, rfl, trivial, rfl, trivial, trivial, trivial⟩ ?_
  refine pw_callGd hT (as := [pvR 124, pvI 0, pvI (M3_.1 124 35), pvI ((M3_.1 124 1) + n1)]) (lo1 := [some (pvR 124), some (pvI 0), some (pvI (M3_.1 124 35)), some (pvI ((M3_.1 124 1) + n1)), none, none, none, none, none]) (d1 := d) (rest := []) rfl rfl rfl rfl rfl (fun _ => rfl) (Nat.zero_le _) rfl rfl rfl (se_X10_goes_124_x_x_x M3_ o5_ 0 (M3_.1 124 35) ((M3_.1 124 1) + n1) (zr_wide (show 0 ≤ Int32.toInt 0 ∧ Int32.toInt 0 ≤ 0 from (by decide)) (by decide) (by decide)) b8_ (zr_wide b10_ (by decide) (by decide)) d) (fun x13_ M14_ b15_ o16_ g17_ d12_ => ?_)
  have f18_ : pvFr fp_eX10_costOfPath_124_x M M14_ := pvfr_t g17_ f7_ fp_eX10_costOfPath_124_x_fp_eX10_goes_124_x_x_x
  refine pw_blk hT 2 (S' := (21, [some (pvR 124), some (pvI n1), some (pvI x13_)], [pvR 124], M14_)) rfl ⟨trivial, trivial, trivial⟩ ?_
  refine pw_callGp hT (as := [pvR 124]) (lo1 := [some (pvR 124)]) (d1 := d) (rest := []) rfl rfl rfl rfl rfl (fun _ => rfl) (Nat.zero_le _) rfl rfl rfl (se_X10_harmTillEnd_124 M14_ o16_ d) (fun x19_ b21_ => ?_)
  obtain ⟨b24_, d25_⟩ := b21_
  exact pw_ret hT rfl (r := some (pvI x19_)) (M' := M14_) ⟨rfl, rfl⟩ ⟨⟨_, rfl, b24_⟩, o16_, f18_, (yQ0_i (n2 := n1) hn1 hok o16_ d1_ d12_ d25_)⟩
def fpL_eX10_begin_124_x : List (Nat × Nat × Nat) := [(0, 124, 4), (0, 124, 33), (0, 124, 36), (0, 141, 0), (0, 142, 0), (0, 143, 0), (0, 144, 0)]
def fp_eX10_begin_124_x (q k : Nat) : Bool := pvfp fpL_eX10_begin_124_x q k
theorem fp_eX10_begin_124_x_fp_eX10_costOfPath_124_x (a b : Nat) (h : fp_eX10_costOfPath_124_x a b = true) : fp_eX10_begin_124_x a b = true := pvfp_sub (l1 := fpL_eX10_costOfPath_124_x) (l2 := fpL_eX10_begin_124_x) (by decide) a b h
theorem fp_eX10_begin_124_x_fp_eX10_layRain_124 (a b : Nat) (h : fp_eX10_layRain_124 a b = true) : fp_eX10_begin_124_x a b = true := pvfp_sub (l1 := fpL_eX10_layRain_124) (l2 := fpL_eX10_begin_124_x) (by decide) a b h
theorem fp_eX10_begin_124_x_fp_eX10_layRound_124 (a b : Nat) (h : fp_eX10_layRound_124 a b = true) : fp_eX10_begin_124_x a b = true := pvfp_sub (l1 := fpL_eX10_layRound_124) (l2 := fpL_eX10_begin_124_x) (by decide) a b h
set_option maxHeartbeats 4000000 in
set_option maxRecDepth 10000 in
theorem se_X10_begin_124_x (M : pvM) (hok : pvOk M) (n1 : Int32) (hz : pvWF M) (d : Nat) : PW 8 d (0, [some (pvR 124), some (pvI n1), none, none, none, none], [], M) (fun r X => (∃ x : Int32, r = some (pvI x) ∧ (-1) ≤ Int32.toInt x ∧ Int32.toInt x ≤ 2147483647) ∧ pvOk X ∧ pvFr fp_eX10_begin_124_x M X ∧ X.1 124 3 = M.1 124 3 ∧ yA0 (yGbg n1) r M) := by
  have hT : pvdom 8 = pvD_8 := rfl
  refine pw_blk hT 4 (S' := (4, [some (pvR 124), some (pvI n1), none, none, none, none], [pvI 1, pvI 0, pvI n1, pvR 124], M)) rfl ⟨trivial, trivial, trivial, trivial, trivial⟩ ?_
  refine pw_callT hT (as := [pvR 124, pvI n1, pvI 0, pvI 1]) (lo1 := [some (pvR 124), some (pvI n1), some (pvI 0), some (pvI 1)]) (d1 := d) (rest := []) rfl rfl rfl rfl rfl (fun _ => rfl) (Nat.zero_le _) rfl rfl rfl (sf_X10_in_124_x_x_x M hok n1 0 1 d) ?_
  by_cases c6_ : n1 < 0
  · refine pw_eqI (if_pos c6_) ?_
    have b7_ : (-2147483648) ≤ Int32.toInt n1 ∧ Int32.toInt n1 ≤ (-1) := zr_lt_l (-1) c6_ (zbnd n1) (show 0 ≤ Int32.toInt 0 ∧ Int32.toInt 0 ≤ 0 from (by decide)) (by decide)
    show PW 8 d (7, [some (pvR 124), some (pvI n1), none, none, none, none], [pvI 0], M) _
    refine pw_ifn hT (c := 0 = 0) rfl rfl (fun c8_ => absurd (by decide) c8_) (fun c8_ => ?_)
    refine pw_blk hT 1 (S' := (11, [some (pvR 124), some (pvI n1), none, none, none, none], [pvI (-1)], M)) rfl ⟨trivial, trivial⟩ ?_
    exact pw_ret hT rfl (r := some (pvI (-1))) (M' := M) ⟨rfl, rfl⟩ ⟨⟨_, rfl, (zr_wide (show (-1) ≤ Int32.toInt (-1) ∧ Int32.toInt (-1) ≤ (-1) from (by decide)) (by decide) (by decide))⟩, hok, pvfr_0, rfl, (yGbg0_n (by have u := b7_; omega) (by decide))⟩
  · refine pw_eqI (if_neg c6_) ?_
    have b9_ : 0 ≤ Int32.toInt n1 ∧ Int32.toInt n1 ≤ 2147483647 := zr_nlt_l 0 c6_ (zbnd n1) (show 0 ≤ Int32.toInt 0 ∧ Int32.toInt 0 ≤ 0 from (by decide)) (by decide)
    by_cases c10_ : 1 < n1
    · refine pw_eqI (if_pos c10_) ?_
      have b11_ : 2 ≤ Int32.toInt n1 ∧ Int32.toInt n1 ≤ 2147483647 := zr_lt_r 2 c10_ b9_ (show 1 ≤ Int32.toInt 1 ∧ Int32.toInt 1 ≤ 1 from (by decide)) (by decide)
      show PW 8 d (7, [some (pvR 124), some (pvI n1), none, none, none, none], [pvI 0], M) _
      refine pw_ifn hT (c := 0 = 0) rfl rfl (fun c12_ => absurd (by decide) c12_) (fun c12_ => ?_)
      refine pw_blk hT 1 (S' := (11, [some (pvR 124), some (pvI n1), none, none, none, none], [pvI (-1)], M)) rfl ⟨trivial, trivial⟩ ?_
      exact pw_ret hT rfl (r := some (pvI (-1))) (M' := M) ⟨rfl, rfl⟩ ⟨⟨_, rfl, (zr_wide (show (-1) ≤ Int32.toInt (-1) ∧ Int32.toInt (-1) ≤ (-1) from (by decide)) (by decide) (by decide))⟩, hok, pvfr_0, rfl, (yGbg0_n (by have u := b11_; omega) (by decide))⟩
    · refine pw_eqI (if_neg c10_) ?_
      have b13_ : 0 ≤ Int32.toInt n1 ∧ Int32.toInt n1 ≤ 1 := zr_nlt_r 1 c10_ b9_ (show 1 ≤ Int32.toInt 1 ∧ Int32.toInt 1 ≤ 1 from (by decide)) (by decide)
      show PW 8 d (7, [some (pvR 124), some (pvI n1), none, none, none, none], [pvI 1], M) _
      refine pw_ifn hT (c := 1 = 0) rfl rfl (fun c14_ => ?_) (fun c14_ => absurd c14_ (by decide))
      have b15_ : 0 ≤ Int32.toInt (M.1 124 3) ∧ Int32.toInt (M.1 124 3) ≤ 108 := pvok_r hok 124 3 rfl
      refine pw_blk hT 8 (S' := (23, [some (pvR 124), some (pvI n1), some (pvI (M.1 124 3)), some (pvI 0), some (pvI (-1)), none], [pvR 124], M)) rfl ⟨trivial, rfl, trivial, trivial, trivial, trivial, trivial, trivial, trivial⟩ ?_
      refine pw_callVd hT (as := [pvR 124]) (lo1 := [some (pvR 124), none, none]) (d1 := d) (rest := []) rfl rfl rfl rfl rfl (fun _ => rfl) (Nat.zero_le _) rfl rfl rfl (se_X10_layRain_124 M hok hz d) (fun M18_ o20_ g21_ d16_ => ?_)
      have f22_ : pvFr fp_eX10_begin_124_x M M18_ := pvfr_t g21_ pvfr_0 fp_eX10_begin_124_x_fp_eX10_layRain_124
      refine pw_blk hT 1 (S' := (27, [some (pvR 124), some (pvI n1), some (pvI (M.1 124 3)), some (pvI 0), some (pvI (-1)), none], [pvR 124], M18_)) rfl ⟨trivial, trivial⟩ ?_
      refine pw_callVd hT (as := [pvR 124]) (lo1 := [some (pvR 124), none]) (d1 := d) (rest := []) rfl rfl rfl rfl rfl (fun _ => rfl) (Nat.zero_le _) rfl rfl rfl (se_X10_layRound_124 M18_ o20_ d) (fun M25_ o27_ g28_ d23_ => ?_)
      have f29_ : pvFr fp_eX10_begin_124_x M M25_ := pvfr_t g28_ f22_ fp_eX10_begin_124_x_fp_eX10_layRound_124
      refine pw_blkw hT 3 (pc := 35) (lo := [some (pvR 124), some (pvI n1), some (pvI (M.1 124 3)), some (pvI 0), some (pvI (-1)), none]) (st := []) (M := pvu M25_ 124 3 0) rfl ⟨trivial, trivial, rfl, trivial⟩ (fun M30_ e31_ => ?_)
      have o32_ : pvOk M30_ := pvok_u2 e31_ o27_ rfl (zr_wide (show 0 ≤ Int32.toInt 0 ∧ Int32.toInt 0 ≤ 0 from (by decide)) (by decide) (by decide))
      have f33_ : pvFr fp_eX10_begin_124_x M M30_ := pvfr_u e31_ f29_ rfl
      have hlz166_ : ∀ (nz166_ : Nat) (i3z166_ : Int32) (i4z166_ : Int32) (v5z166_ : Option pvV) (Mz166_ : pvM), (pvOk Mz166_) → (pvFr fp_eX10_begin_124_x M Mz166_) → (0 ≤ Int32.toInt i3z166_ ∧ Int32.toInt i3z166_ ≤ 2147483647) → ((-1) ≤ Int32.toInt i4z166_ ∧ Int32.toInt i4z166_ ≤ 2147483647) → (yBg0 M Mz166_ i3z166_ i4z166_ (Mz166_.1 124 3)) → (zhide ((101 - Int32.toInt (Mz166_.1 124 3)).toNat < nz166_)) → PW 8 d (35, [some (pvR 124), some (pvI n1), some (pvI (M.1 124 3)), some (pvI i3z166_), some (pvI i4z166_), v5z166_], [], Mz166_) (fun r X => (∃ x : Int32, r = some (pvI x) ∧ (-1) ≤ Int32.toInt x ∧ Int32.toInt x ≤ 2147483647) ∧ pvOk X ∧ pvFr fp_eX10_begin_124_x M X ∧ X.1 124 3 = M.1 124 3 ∧ yA0 (yGbg n1) r M) := by
        intro nz166_
        induction nz166_ with
        | zero => intro i3z166_ i4z166_ v5z166_ Mz166_ oz166_ fz166_ h3z166_ h4z166_ j0z166_ hmz166_; exact absurd (zshow hmz166_) (Nat.not_lt_zero _)
        | succ nz166_ ihz166_ =>
          intro i3z166_ i4z166_ v5z166_ Mz166_ oz166_ fz166_ h3z166_ h4z166_ j0z166_ hmz166_
          have b167_ : 0 ≤ Int32.toInt (Mz166_.1 124 3) ∧ Int32.toInt (Mz166_.1 124 3) ≤ 108 := pvok_r oz166_ 124 3 rfl
          refine pw_blk hT 3 (S' := (41, [some (pvR 124), some (pvI n1), some (pvI (M.1 124 3)), some (pvI i3z166_), some (pvI i4z166_), v5z166_], [pvI 100, pvI (Mz166_.1 124 3)], Mz166_)) rfl ⟨trivial, rfl, trivial, trivial⟩ ?_
          refine pw_ic hT (c := 100 ≤ (Mz166_.1 124 3)) rfl rfl (fun c168_ => ?_) (fun c168_ => ?_)
          · have b169_ : 100 ≤ Int32.toInt (Mz166_.1 124 3) ∧ Int32.toInt (Mz166_.1 124 3) ≤ 108 := zr_le_r 100 c168_ b167_ (show 100 ≤ Int32.toInt 100 ∧ Int32.toInt 100 ≤ 100 from (by decide)) (by decide)
            refine pw_blkw hT 3 (pc := 88) (lo := [some (pvR 124), some (pvI n1), some (pvI (M.1 124 3)), some (pvI i3z166_), some (pvI i4z166_), v5z166_]) (st := []) (M := pvu Mz166_ 124 3 (M.1 124 3)) rfl ⟨trivial, trivial, rfl, trivial⟩ (fun M170_ e171_ => ?_)
            have o172_ : pvOk M170_ := pvok_u2 e171_ oz166_ rfl b15_
            have f173_ : pvFr fp_eX10_begin_124_x M M170_ := pvfr_u e171_ fz166_ rfl
            refine pw_blk hT 1 (S' := (89, [some (pvR 124), some (pvI n1), some (pvI (M.1 124 3)), some (pvI i3z166_), some (pvI i4z166_), v5z166_], [pvI n1], M170_)) rfl ⟨trivial, trivial⟩ ?_
            refine pw_ifn hT (c := n1 = 0) rfl rfl (fun c174_ => ?_) (fun c174_ => ?_)
            · have b175_ : 1 ≤ Int32.toInt n1 ∧ Int32.toInt n1 ≤ 1 := (by have u0 := b13_; have u1 := (not_congr (zi_eq _ _)).mp c174_; have u2 := (show 0 ≤ Int32.toInt 0 ∧ Int32.toInt 0 ≤ 0 from (by decide)); omega)
              refine pw_blk hT 1 (S' := (98, [some (pvR 124), some (pvI n1), some (pvI (M.1 124 3)), some (pvI i3z166_), some (pvI i4z166_), v5z166_], [pvI i4z166_], M170_)) rfl ⟨trivial, trivial⟩ ?_
              exact pw_ret hT rfl (r := some (pvI i4z166_)) (M' := M170_) ⟨rfl, rfl⟩ ⟨⟨_, rfl, h4z166_⟩, o172_, f173_, (pvu_s e171_), ((yGbg0_e j0z166_ (by have u := b169_; omega) (by have u := b175_; omega)).2 (by have u := b175_; omega))⟩
            · have b176_ : 0 ≤ Int32.toInt n1 ∧ Int32.toInt n1 ≤ 0 := (by have u0 := b13_; have u1 := (zi_eq _ _).mp c174_; have u2 := (show 0 ≤ Int32.toInt 0 ∧ Int32.toInt 0 ≤ 0 from (by decide)); omega)
              refine pw_blk hT 2 (S' := (98, [some (pvR 124), some (pvI n1), some (pvI (M.1 124 3)), some (pvI i3z166_), some (pvI i4z166_), v5z166_], [pvI i3z166_], M170_)) rfl ⟨trivial, trivial, trivial⟩ ?_
              exact pw_ret hT rfl (r := some (pvI i3z166_)) (M' := M170_) ⟨rfl, rfl⟩ ⟨⟨_, rfl, (zr_wide h3z166_ (by decide) (by decide))⟩, o172_, f173_, (pvu_s e171_), ((yGbg0_e j0z166_ (by have u := b169_; omega) (by have u := b176_; omega)).1 (by have u := b176_; omega))⟩
          · have b177_ : 0 ≤ Int32.toInt (Mz166_.1 124 3) ∧ Int32.toInt (Mz166_.1 124 3) ≤ 99 := zr_nle_r 99 c168_ b167_ (show 100 ≤ Int32.toInt 100 ∧ Int32.toInt 100 ≤ 100 from (by decide)) (by decide)
            refine pw_blk hT 2 (S' := (46, [some (pvR 124), some (pvI n1), some (pvI (M.1 124 3)), some (pvI i3z166_), some (pvI i4z166_), v5z166_], [pvI 0, pvR 124], Mz166_)) rfl ⟨trivial, trivial, trivial⟩ ?_
            refine pw_callGd hT (as := [pvR 124, pvI 0]) (lo1 := [some (pvR 124), some (pvI 0), none]) (d1 := d) (rest := []) rfl rfl rfl rfl rfl (fun _ => rfl) (Nat.zero_le _) rfl rfl rfl (se_X10_costOfPath_124_x Mz166_ oz166_ 0 (zr_wide (show 0 ≤ Int32.toInt 0 ∧ Int32.toInt 0 ≤ 0 from (by decide)) (by decide) (by decide)) d) (fun x179_ M180_ b181_ o182_ g183_ d178_ => ?_)
            have f184_ : pvFr fp_eX10_begin_124_x M M180_ := pvfr_t g183_ fz166_ fp_eX10_begin_124_x_fp_eX10_costOfPath_124_x
            refine pw_blk hT 3 (S' := (55, [some (pvR 124), some (pvI n1), some (pvI (M.1 124 3)), some (pvI i3z166_), some (pvI i4z166_), some (pvI x179_)], [pvI i4z166_, pvI x179_], M180_)) rfl ⟨trivial, trivial, trivial, trivial⟩ ?_
            refine pw_ic hT (c := i4z166_ < x179_) rfl rfl (fun c185_ => ?_) (fun c185_ => ?_)
            · have b186_ : (-1) ≤ Int32.toInt i4z166_ ∧ Int32.toInt i4z166_ ≤ 8999999 := zr_lt_l 8999999 c185_ h4z166_ b181_ (by decide)
              have d187_ : Int32.toInt i4z166_ < Int32.toInt x179_ := (zi_lt _ _).mp c185_
              have e188_ : (M180_.1 124 3) = (Mz166_.1 124 3) := (g183_ 124 3 rfl)
              have b189_ : 0 ≤ Int32.toInt (M180_.1 124 3) ∧ Int32.toInt (M180_.1 124 3) ≤ 99 := (by rw [e188_]; exact b177_)
              obtain ⟨q191_, b190_⟩ : (Int32.toInt ((M180_.1 124 3) + 1) = Int32.toInt (M180_.1 124 3) + 1) ∧ (1 ≤ Int32.toInt ((M180_.1 124 3) + 1) ∧ Int32.toInt ((M180_.1 124 3) + 1) ≤ 100) := zadd_k (M180_.1 124 3) 1 1 1 100 b189_ (by decide) (by decide) (by decide) (by decide) (by decide)
              refine pw_blkw hT 11 (pc := 80) (lo := [some (pvR 124), some (pvI n1), some (pvI (M.1 124 3)), some (pvI (M180_.1 124 3)), some (pvI x179_), some (pvI x179_)]) (st := []) (M := pvu M180_ 124 3 ((M180_.1 124 3) + 1)) rfl ⟨trivial, rfl, trivial, trivial, trivial, trivial, trivial, rfl, trivial, trivial, rfl, trivial⟩ (fun M192_ e193_ => ?_)
              have o194_ : pvOk M192_ := pvok_u2 e193_ o182_ rfl (zr_wide b190_ (by decide) (by decide))
              have f195_ : pvFr fp_eX10_begin_124_x M M192_ := pvfr_u e193_ f184_ rfl
              refine pw_blk hT 1 (S' := (35, [some (pvR 124), some (pvI n1), some (pvI (M.1 124 3)), some (pvI (M180_.1 124 3)), some (pvI x179_), some (pvI x179_)], [], M192_)) rfl ⟨trivial, trivial⟩ ?_
              have j196_ : yBg0 M M192_ (M180_.1 124 3) x179_ (M192_.1 124 3) := (yBg0_y j0z166_ (by have u := b177_; omega) d178_ (by decide) e193_ rfl rfl (Int32.not_le.mpr c185_))
              exact ihz166_ (M180_.1 124 3) x179_ (some (pvI x179_)) M192_ o194_ f195_ (zr_wide b189_ (by decide) (by decide)) (zr_wide b181_ (by decide) (by decide)) j196_ (zhid (by have hm0 := zshow hmz166_; have z1 : Int32.toInt (M192_.1 124 3) = Int32.toInt ((M180_.1 124 3) + 1) := congrArg Int32.toInt (pvu_s e193_); have z2 : Int32.toInt (M180_.1 124 3) = Int32.toInt (Mz166_.1 124 3) := congrArg Int32.toInt (g183_ 124 3 rfl); omega))
            · have b197_ : 0 ≤ Int32.toInt i4z166_ ∧ Int32.toInt i4z166_ ≤ 2147483647 := zr_nlt_l 0 c185_ h4z166_ b181_ (by decide)
              have d198_ : Int32.toInt i4z166_ ≥ Int32.toInt x179_ := Int.not_lt.mp ((not_congr (zi_lt _ _)).mp c185_)
              have e199_ : (M180_.1 124 3) = (Mz166_.1 124 3) := (g183_ 124 3 rfl)
              have b200_ : 0 ≤ Int32.toInt (M180_.1 124 3) ∧ Int32.toInt (M180_.1 124 3) ≤ 99 := (by rw [e199_]; exact b177_)
              obtain ⟨q202_, b201_⟩ : (Int32.toInt ((M180_.1 124 3) + 1) = Int32.toInt (M180_.1 124 3) + 1) ∧ (1 ≤ Int32.toInt ((M180_.1 124 3) + 1) ∧ Int32.toInt ((M180_.1 124 3) + 1) ≤ 100) := zadd_k (M180_.1 124 3) 1 1 1 100 b200_ (by decide) (by decide) (by decide) (by decide) (by decide)
              refine pw_blkw hT 7 (pc := 80) (lo := [some (pvR 124), some (pvI n1), some (pvI (M.1 124 3)), some (pvI i3z166_), some (pvI i4z166_), some (pvI x179_)]) (st := []) (M := pvu M180_ 124 3 ((M180_.1 124 3) + 1)) rfl ⟨trivial, trivial, trivial, rfl, trivial, trivial, rfl, trivial⟩ (fun M203_ e204_ => ?_)
              have o205_ : pvOk M203_ := pvok_u2 e204_ o182_ rfl (zr_wide b201_ (by decide) (by decide))
              have f206_ : pvFr fp_eX10_begin_124_x M M203_ := pvfr_u e204_ f184_ rfl
              refine pw_blk hT 1 (S' := (35, [some (pvR 124), some (pvI n1), some (pvI (M.1 124 3)), some (pvI i3z166_), some (pvI i4z166_), some (pvI x179_)], [], M203_)) rfl ⟨trivial, trivial⟩ ?_
              have j207_ : yBg0 M M203_ i3z166_ i4z166_ (M203_.1 124 3) := (yBg0_n j0z166_ (by have u := b177_; omega) d178_ (by decide) e204_ rfl (Int32.not_lt.mp c185_))
              exact ihz166_ i3z166_ i4z166_ (some (pvI x179_)) M203_ o205_ f206_ h3z166_ (zr_wide b197_ (by decide) (by decide)) j207_ (zhid (by have hm0 := zshow hmz166_; have z1 : Int32.toInt (M203_.1 124 3) = Int32.toInt ((M180_.1 124 3) + 1) := congrArg Int32.toInt (pvu_s e204_); have z2 : Int32.toInt (M180_.1 124 3) = Int32.toInt (Mz166_.1 124 3) := congrArg Int32.toInt (g183_ 124 3 rfl); omega))
      have u208_ : Int32.toInt 0 = 0 := by decide
      have u209_ : Int32.toInt (-1) = (-1) := by decide
      have j210_ : yBg0 M M30_ 0 (-1) (M30_.1 124 3) := (yBg0_0 d16_ d23_ e31_ (by decide) (by decide) (by decide))
      exact hlz166_ _ 0 (-1) none M30_ o32_ f33_ (zr_wide (show 0 ≤ Int32.toInt 0 ∧ Int32.toInt 0 ≤ 0 from (by decide)) (by decide) (by decide)) (zr_wide (show (-1) ≤ Int32.toInt (-1) ∧ Int32.toInt (-1) ≤ (-1) from (by decide)) (by decide) (by decide)) j210_ (zhid (Nat.lt_succ_self _))
set_option maxHeartbeats 4000000 in
set_option maxRecDepth 10000 in
theorem se_X10_openSet_124 (M : pvM) (hok : pvOk M) (d : Nat) : PW 61 d (0, [some (pvR 124), none, none], [], M) (fun r X => (∃ x : Int32, r = some (pvI x) ∧ (0 ≤ Int32.toInt x ∧ Int32.toInt x ≤ 127) ∧ x = yOc M (Int32.toNatClampNeg (M.1 124 0))) ∧ X = M) := by
  have hT : pvdom 61 = pvD_61 := rfl
  refine pw_blk hT 4 (S' := (4, [some (pvR 124), some (pvI 0), some (pvI 0)], [], M)) rfl ⟨trivial, trivial, trivial, trivial, trivial⟩ ?_
  have hlz52_ : ∀ (nz52_ : Nat) (i1z52_ : Int32) (i2z52_ : Int32), (0 ≤ Int32.toInt i1z52_ ∧ Int32.toInt i1z52_ ≤ 127) → (0 ≤ Int32.toInt i2z52_ ∧ Int32.toInt i2z52_ ≤ 7) → (yOcI M i1z52_ i2z52_) → (zhide ((8 - Int32.toInt i2z52_).toNat < nz52_)) → PW 61 d (4, [some (pvR 124), some (pvI i1z52_), some (pvI i2z52_)], [], M) (fun r X => (∃ x : Int32, r = some (pvI x) ∧ (0 ≤ Int32.toInt x ∧ Int32.toInt x ≤ 127) ∧ x = yOc M (Int32.toNatClampNeg (M.1 124 0))) ∧ X = M) := by
    intro nz52_
    induction nz52_ with
    | zero => intro i1z52_ i2z52_ h1z52_ h2z52_ j0z52_ hmz52_; exact absurd (zshow hmz52_) (Nat.not_lt_zero _)
    | succ nz52_ ihz52_ =>
      intro i1z52_ i2z52_ h1z52_ h2z52_ j0z52_ hmz52_
      have b53_ : 0 ≤ Int32.toInt (M.1 124 0) ∧ Int32.toInt (M.1 124 0) ≤ 7 := pvok_r hok 124 0 rfl
      refine pw_blk hT 3 (S' := (9, [some (pvR 124), some (pvI i1z52_), some (pvI i2z52_)], [pvI (M.1 124 0), pvI i2z52_], M)) rfl ⟨trivial, trivial, rfl, trivial⟩ ?_
      refine pw_ic hT (c := (M.1 124 0) ≤ i2z52_) rfl rfl (fun c54_ => ?_) (fun c54_ => ?_)
      · have d55_ : Int32.toInt (M.1 124 0) ≤ Int32.toInt i2z52_ := (zi_le _ _).mp c54_
        refine pw_blk hT 1 (S' := (38, [some (pvR 124), some (pvI i1z52_), some (pvI i2z52_)], [pvI i1z52_], M)) rfl ⟨trivial, trivial⟩ ?_
        exact pw_ret hT rfl (r := some (pvI i1z52_)) (M' := M) ⟨rfl, rfl⟩ ⟨⟨_, rfl, h1z52_, (yOcI_e j0z52_ c54_)⟩, rfl⟩
      · have b56_ : 1 ≤ Int32.toInt (M.1 124 0) ∧ Int32.toInt (M.1 124 0) ≤ 7 := zr_nle_l 1 c54_ b53_ h2z52_ (by decide)
        have b57_ : 0 ≤ Int32.toInt i2z52_ ∧ Int32.toInt i2z52_ ≤ 6 := zr_nle_r 6 c54_ h2z52_ b56_ (by decide)
        have d58_ : Int32.toInt (M.1 124 0) > Int32.toInt i2z52_ := Int.not_le.mp ((not_congr (zi_le _ _)).mp c54_)
        have b59_ : 0 ≤ Int32.toInt (M.1 131 (Int32.toNatClampNeg i2z52_)) ∧ Int32.toInt (M.1 131 (Int32.toNatClampNeg i2z52_)) ≤ 1 := pvok_r hok 131 (Int32.toNatClampNeg i2z52_) rfl
        refine pw_blk hT 5 (S' := (19, [some (pvR 124), some (pvI i1z52_), some (pvI i2z52_)], [pvI (M.1 131 (Int32.toNatClampNeg i2z52_)), pvI i1z52_], M)) rfl ⟨trivial, trivial, rfl, trivial, ⟨rfl, (zr_in (n := 7) b57_ (by decide) (by decide))⟩, trivial⟩ ?_
        refine pw_if hT (c := (M.1 131 (Int32.toNatClampNeg i2z52_)) = 0) rfl rfl (fun c60_ => ?_) (fun c60_ => ?_)
        · have b61_ : 0 ≤ Int32.toInt (M.1 131 (Int32.toNatClampNeg i2z52_)) ∧ Int32.toInt (M.1 131 (Int32.toNatClampNeg i2z52_)) ≤ 0 := (by have u0 := b59_; have u1 := (zi_eq _ _).mp c60_; have u2 := (show 0 ≤ Int32.toInt 0 ∧ Int32.toInt 0 ≤ 0 from (by decide)); omega)
          refine pw_blk hT 4 (S' := (30, [some (pvR 124), some (pvI i1z52_), some (pvI i2z52_)], [pvI (i1z52_ ||| (1 <<< (i2z52_ &&& 31)))], M)) rfl ⟨trivial, trivial, trivial, trivial, trivial⟩ ?_
          have b62_ : 0 ≤ Int32.toInt (i1z52_ ||| (1 <<< (i2z52_ &&& 31))) ∧ Int32.toInt (i1z52_ ||| (1 <<< (i2z52_ &&& 31))) ≤ 127 := zs_or h1z52_ b57_
          obtain ⟨q64_, b63_⟩ : (Int32.toInt (i2z52_ + 1) = Int32.toInt i2z52_ + 1) ∧ (1 ≤ Int32.toInt (i2z52_ + 1) ∧ Int32.toInt (i2z52_ + 1) ≤ 7) := zadd_k i2z52_ 1 1 1 7 b57_ (by decide) (by decide) (by decide) (by decide) (by decide)
          refine pw_blk hT 3 (S' := (4, [some (pvR 124), some (pvI (i1z52_ ||| (1 <<< (i2z52_ &&& 31)))), some (pvI (i2z52_ + 1))], [], M)) rfl ⟨trivial, trivial, trivial, trivial⟩ ?_
          have j65_ : yOcI M (i1z52_ ||| (1 <<< (i2z52_ &&& 31))) (i2z52_ + 1) := (yOcI_s j0z52_ (by have u := b57_; omega) (by omega) (by omega) (Or.inl ⟨c60_, rfl⟩))
          exact ihz52_ (i1z52_ ||| (1 <<< (i2z52_ &&& 31))) (i2z52_ + 1) b62_ (zr_wide b63_ (by decide) (by decide)) j65_ (zhid (pvms_up (zshow hmz52_) h2z52_ q64_ (by decide) (by decide)))
        · have b66_ : 1 ≤ Int32.toInt (M.1 131 (Int32.toNatClampNeg i2z52_)) ∧ Int32.toInt (M.1 131 (Int32.toNatClampNeg i2z52_)) ≤ 1 := (by have u0 := b59_; have u1 := (not_congr (zi_eq _ _)).mp c60_; have u2 := (show 0 ≤ Int32.toInt 0 ∧ Int32.toInt 0 ≤ 0 from (by decide)); omega)
          refine pw_blk hT 3 (S' := (30, [some (pvR 124), some (pvI i1z52_), some (pvI i2z52_)], [pvI (i1z52_ ||| 0)], M)) rfl ⟨trivial, trivial, trivial, trivial⟩ ?_
          have b67_ : 0 ≤ Int32.toInt (i1z52_ ||| 0) ∧ Int32.toInt (i1z52_ ||| 0) ≤ 127 := zs_orz h1z52_
          obtain ⟨q69_, b68_⟩ : (Int32.toInt (i2z52_ + 1) = Int32.toInt i2z52_ + 1) ∧ (1 ≤ Int32.toInt (i2z52_ + 1) ∧ Int32.toInt (i2z52_ + 1) ≤ 7) := zadd_k i2z52_ 1 1 1 7 b57_ (by decide) (by decide) (by decide) (by decide) (by decide)
          refine pw_blk hT 3 (S' := (4, [some (pvR 124), some (pvI (i1z52_ ||| 0)), some (pvI (i2z52_ + 1))], [], M)) rfl ⟨trivial, trivial, trivial, trivial⟩ ?_
          have j70_ : yOcI M (i1z52_ ||| 0) (i2z52_ + 1) := (yOcI_s j0z52_ (by have u := b57_; omega) (by omega) (by omega) (Or.inr ⟨c60_, rfl⟩))
          exact ihz52_ (i1z52_ ||| 0) (i2z52_ + 1) b67_ (zr_wide b68_ (by decide) (by decide)) j70_ (zhid (pvms_up (zshow hmz52_) h2z52_ q69_ (by decide) (by decide)))
  have u71_ : Int32.toInt 0 = 0 := by decide
  have j72_ : yOcI M 0 0 := (yOcI_0 hok)
  exact hlz52_ _ 0 0 (zr_wide (show 0 ≤ Int32.toInt 0 ∧ Int32.toInt 0 ≤ 0 from (by decide)) (by decide) (by decide)) (zr_wide (show 0 ≤ Int32.toInt 0 ∧ Int32.toInt 0 ≤ 0 from (by decide)) (by decide) (by decide)) j72_ (zhid (Nat.lt_succ_self _))
def fpL_eX10_layOrder_124_x_x : List (Nat × Nat × Nat) := [(0, 144, 0)]
def fp_eX10_layOrder_124_x_x (q k : Nat) : Bool := pvfp fpL_eX10_layOrder_124_x_x q k
set_option maxHeartbeats 4000000 in
set_option maxRecDepth 10000 in
theorem se_X10_layOrder_124_x_x (M : pvM) (hok : pvOk M) (n1 : Int32) (n2 : Int32) (hn1 : 0 ≤ Int32.toInt n1 ∧ Int32.toInt n1 ≤ 127) (hn2 : 0 ≤ Int32.toInt n2 ∧ Int32.toInt n2 ≤ 5040) (ho : Int32.toInt (M.1 124 35) ≤ zbc n1 7) (d : Nat) : PW 49 d (0, [some (pvR 124), some (pvI n1), some (pvI n2), none, none, none, none, none, none], [], M) (fun r X => (∃ x : Int32, r = some (pvI x) ∧ (0 ≤ Int32.toInt x ∧ Int32.toInt x ≤ 1) ∧ (Int32.toInt x ≤ 0 ∨ Int32.toInt n2 < 5040)) ∧ pvOk X ∧ pvFr fp_eX10_layOrder_124_x_x M X ∧ yKo n1 n2 r M X) := by
  have hT : pvdom 49 = pvD_49 := rfl
  refine pw_blk hT 4 (S' := (5, [some (pvR 124), some (pvI n1), some (pvI n2), some (pvI 1), some (pvI 2), none, none, none, none], [], M)) rfl ⟨trivial, trivial, trivial, trivial, trivial⟩ ?_
  have hlz2866_ : ∀ (nz2866_ : Nat) (i3z2866_ : Int32) (i4z2866_ : Int32), (1 ≤ Int32.toInt i3z2866_ ∧ Int32.toInt i3z2866_ ≤ 5040) → (2 ≤ Int32.toInt i4z2866_ ∧ Int32.toInt i4z2866_ ≤ 8) → (Int32.toInt i3z2866_ = zfc (Int32.toInt i4z2866_ - 1)) → (Int32.toInt i4z2866_ ≤ Int32.toInt (M.1 124 35) + 1 ∨ Int32.toInt i4z2866_ = 2) → (zhide ((9 - Int32.toInt i4z2866_).toNat < nz2866_)) → PW 49 d (5, [some (pvR 124), some (pvI n1), some (pvI n2), some (pvI i3z2866_), some (pvI i4z2866_), none, none, none, none], [], M) (fun r X => (∃ x : Int32, r = some (pvI x) ∧ (0 ≤ Int32.toInt x ∧ Int32.toInt x ≤ 1) ∧ (Int32.toInt x ≤ 0 ∨ Int32.toInt n2 < 5040)) ∧ pvOk X ∧ pvFr fp_eX10_layOrder_124_x_x M X ∧ yKo n1 n2 r M X) := by
    intro nz2866_
    induction nz2866_ with
    | zero => intro i3z2866_ i4z2866_ h3z2866_ h4z2866_ j0z2866_ j1z2866_ hmz2866_; exact absurd (zshow hmz2866_) (Nat.not_lt_zero _)
    | succ nz2866_ ihz2866_ =>
      intro i3z2866_ i4z2866_ h3z2866_ h4z2866_ j0z2866_ j1z2866_ hmz2866_
      have b2867_ : 0 ≤ Int32.toInt (M.1 124 35) ∧ Int32.toInt (M.1 124 35) ≤ 7 := pvok_r hok 124 35 rfl
      refine pw_blk hT 3 (S' := (11, [some (pvR 124), some (pvI n1), some (pvI n2), some (pvI i3z2866_), some (pvI i4z2866_), none, none, none, none], [pvI (M.1 124 35), pvI i4z2866_], M)) rfl ⟨trivial, trivial, rfl, trivial⟩ ?_
      refine pw_ic hT (c := (M.1 124 35) < i4z2866_) rfl rfl (fun c2868_ => ?_) (fun c2868_ => ?_)
      · have d2869_ : Int32.toInt (M.1 124 35) < Int32.toInt i4z2866_ := (zi_lt _ _).mp c2868_
        refine pw_blk hT 2 (S' := (27, [some (pvR 124), some (pvI n1), some (pvI n2), some (pvI i3z2866_), some (pvI i4z2866_), none, none, none, none], [pvI i3z2866_, pvI n2], M)) rfl ⟨trivial, trivial, trivial⟩ ?_
        refine pw_ic hT (c := n2 < i3z2866_) rfl rfl (fun c2870_ => ?_) (fun c2870_ => ?_)
        · have b2871_ : 0 ≤ Int32.toInt n2 ∧ Int32.toInt n2 ≤ 5039 := zr_lt_l 5039 c2870_ hn2 h3z2866_ (by decide)
          have d2872_ : Int32.toInt n2 < Int32.toInt i3z2866_ := (zi_lt _ _).mp c2870_
          have q2873_ := zlo_x (w := Int32.toInt (M.1 124 35)) j0z2866_ j1z2866_ (by omega)
          refine pw_blk hT 6 (S' := (41, [some (pvR 124), some (pvI n1), some (pvI n2), some (pvI i3z2866_), some (pvI n1), some (pvI n2), some (pvI 0), none, none], [], M)) rfl ⟨trivial, trivial, trivial, trivial, trivial, trivial, trivial⟩ ?_
          have hlz3619_ : ∀ (nz3619_ : Nat) (i3z3619_ : Int32) (i4z3619_ : Int32) (i5z3619_ : Int32) (i6z3619_ : Int32) (v7z3619_ : Option pvV) (v8z3619_ : Option pvV) (Mz3619_ : pvM), (pvOk Mz3619_) → (pvFr fp_eX10_layOrder_124_x_x M Mz3619_) → (1 ≤ Int32.toInt i3z3619_ ∧ Int32.toInt i3z3619_ ≤ 5040) → (0 ≤ Int32.toInt i4z3619_ ∧ Int32.toInt i4z3619_ ≤ 127) → (0 ≤ Int32.toInt i5z3619_ ∧ Int32.toInt i5z3619_ ≤ 5040) → (0 ≤ Int32.toInt i6z3619_ ∧ Int32.toInt i6z3619_ ≤ 7) → (Int32.toInt i3z3619_ = zfc (Int32.toInt (Mz3619_.1 124 35) - Int32.toInt i6z3619_)) → (Int32.toInt i5z3619_ < Int32.toInt i3z3619_) → (Int32.toInt (Mz3619_.1 124 35) - Int32.toInt i6z3619_ ≤ zbc i4z3619_ 7) → (yKI M Mz3619_ n1 n2 i4z3619_ i5z3619_ i6z3619_) → (zhide ((8 - Int32.toInt i6z3619_).toNat < nz3619_)) → PW 49 d (41, [some (pvR 124), some (pvI n1), some (pvI n2), some (pvI i3z3619_), some (pvI i4z3619_), some (pvI i5z3619_), some (pvI i6z3619_), v7z3619_, v8z3619_], [], Mz3619_) (fun r X => (∃ x : Int32, r = some (pvI x) ∧ (0 ≤ Int32.toInt x ∧ Int32.toInt x ≤ 1) ∧ (Int32.toInt x ≤ 0 ∨ Int32.toInt n2 < 5040)) ∧ pvOk X ∧ pvFr fp_eX10_layOrder_124_x_x M X ∧ yKo n1 n2 r M X) := by
            intro nz3619_
            induction nz3619_ with
            | zero => intro i3z3619_ i4z3619_ i5z3619_ i6z3619_ v7z3619_ v8z3619_ Mz3619_ oz3619_ fz3619_ h3z3619_ h4z3619_ h5z3619_ h6z3619_ j0z3619_ j1z3619_ j2z3619_ j3z3619_ hmz3619_; exact absurd (zshow hmz3619_) (Nat.not_lt_zero _)
            | succ nz3619_ ihz3619_ =>
              intro i3z3619_ i4z3619_ i5z3619_ i6z3619_ v7z3619_ v8z3619_ Mz3619_ oz3619_ fz3619_ h3z3619_ h4z3619_ h5z3619_ h6z3619_ j0z3619_ j1z3619_ j2z3619_ j3z3619_ hmz3619_
              have b3620_ : 0 ≤ Int32.toInt (Mz3619_.1 124 35) ∧ Int32.toInt (Mz3619_.1 124 35) ≤ 7 := pvok_r oz3619_ 124 35 rfl
              refine pw_blk hT 3 (S' := (47, [some (pvR 124), some (pvI n1), some (pvI n2), some (pvI i3z3619_), some (pvI i4z3619_), some (pvI i5z3619_), some (pvI i6z3619_), v7z3619_, v8z3619_], [pvI (Mz3619_.1 124 35), pvI i6z3619_], Mz3619_)) rfl ⟨trivial, trivial, rfl, trivial⟩ ?_
              refine pw_ic hT (c := (Mz3619_.1 124 35) ≤ i6z3619_) rfl rfl (fun c3621_ => ?_) (fun c3621_ => ?_)
              · have d3622_ : Int32.toInt (Mz3619_.1 124 35) ≤ Int32.toInt i6z3619_ := (zi_le _ _).mp c3621_
                refine pw_blk hT 1 (S' := (145, [some (pvR 124), some (pvI n1), some (pvI n2), some (pvI i3z3619_), some (pvI i4z3619_), some (pvI i5z3619_), some (pvI i6z3619_), v7z3619_, v8z3619_], [pvI 1], Mz3619_)) rfl ⟨trivial, trivial⟩ ?_
                exact pw_ret hT rfl (r := some (pvI 1)) (M' := Mz3619_) ⟨Or.inr rfl, rfl, rfl⟩ ⟨⟨_, rfl, (zr_wide (show 1 ≤ Int32.toInt 1 ∧ Int32.toInt 1 ≤ 1 from (by decide)) (by decide) (by decide)), (by have u9 : Int32.toInt 0 = 0 := (by decide); have u8 : Int32.toInt (-1) = -1 := (by decide); omega)⟩, oz3619_, fz3619_, (yKo_1 hok hn2.1 q2873_ c2870_ (yF144 (L := fpL_eX10_layOrder_124_x_x) fz3619_ (by decide +kernel)) j3z3619_ (by have u := h6z3619_; omega) c3621_)⟩
              · have b3623_ : 1 ≤ Int32.toInt (Mz3619_.1 124 35) ∧ Int32.toInt (Mz3619_.1 124 35) ≤ 7 := zr_nle_l 1 c3621_ b3620_ h6z3619_ (by decide)
                have b3624_ : 0 ≤ Int32.toInt i6z3619_ ∧ Int32.toInt i6z3619_ ≤ 6 := zr_nle_r 6 c3621_ h6z3619_ b3623_ (by decide)
                have d3625_ : Int32.toInt (Mz3619_.1 124 35) > Int32.toInt i6z3619_ := Int.not_le.mp ((not_congr (zi_le _ _)).mp c3621_)
                obtain ⟨q3627_, b3626_⟩ : (Int32.toInt ((Mz3619_.1 124 35) - i6z3619_) = Int32.toInt (Mz3619_.1 124 35) - Int32.toInt i6z3619_) ∧ ((-5) ≤ Int32.toInt ((Mz3619_.1 124 35) - i6z3619_) ∧ Int32.toInt ((Mz3619_.1 124 35) - i6z3619_) ≤ 7) := zsub_r (Mz3619_.1 124 35) i6z3619_ (-5) 7 b3623_ b3624_ (by decide) (by decide) (by decide) (by decide)
                have b3628_ : 1 ≤ Int32.toInt ((Mz3619_.1 124 35) - i6z3619_) ∧ Int32.toInt ((Mz3619_.1 124 35) - i6z3619_) ≤ 7 := (by have u0 := b3626_; omega)
                refine pw_blk hT 7 (S' := (60, [some (pvR 124), some (pvI n1), some (pvI n2), some (pvI (i3z3619_ / ((Mz3619_.1 124 35) - i6z3619_))), some (pvI i4z3619_), some (pvI i5z3619_), some (pvI i6z3619_), v7z3619_, v8z3619_], [], Mz3619_)) rfl ⟨trivial, trivial, rfl, trivial, trivial, (fun z0 => by have u0 := b3628_; have u1 := (zi_eq ((Mz3619_.1 124 35) - i6z3619_) 0).mp z0; have u2 : (0 : Int32).toInt = 0 := (by decide); omega), trivial, trivial⟩ ?_
                have q3629_ := zlo_d (t := Int32.toInt (Mz3619_.1 124 35) - Int32.toInt i6z3619_) j0z3619_ (by omega) (by omega) (by omega)
                have b3630_ : 1 ≤ Int32.toInt (i3z3619_ / ((Mz3619_.1 124 35) - i6z3619_)) ∧ Int32.toInt (i3z3619_ / ((Mz3619_.1 124 35) - i6z3619_)) ≤ 720 := q3629_.2
                refine pw_blk hT 4 (S' := (66, [some (pvR 124), some (pvI n1), some (pvI n2), some (pvI (i3z3619_ / ((Mz3619_.1 124 35) - i6z3619_))), some (pvI i4z3619_), some (pvI i5z3619_), some (pvI i6z3619_), some (pvI (i5z3619_ / (i3z3619_ / ((Mz3619_.1 124 35) - i6z3619_)))), v8z3619_], [], Mz3619_)) rfl ⟨trivial, trivial, (fun z0 => by have u0 := b3630_; have u1 := (zi_eq (i3z3619_ / ((Mz3619_.1 124 35) - i6z3619_)) 0).mp z0; have u2 : (0 : Int32).toInt = 0 := (by decide); omega), trivial, trivial⟩ ?_
                have q3631_ := zlo_n (r := i5z3619_) (t := Int32.toInt (Mz3619_.1 124 35) - Int32.toInt i6z3619_) q3629_.1 (by omega) (by rw [← j0z3619_]; omega) (by omega) (by omega)
                have b3632_ : 0 ≤ Int32.toInt (i5z3619_ / (i3z3619_ / ((Mz3619_.1 124 35) - i6z3619_))) ∧ Int32.toInt (i5z3619_ / (i3z3619_ / ((Mz3619_.1 124 35) - i6z3619_))) ≤ 6 := (by omega)
                have q3633_ : 0 ≤ Int32.toInt (i5z3619_ - i5z3619_ / (i3z3619_ / ((Mz3619_.1 124 35) - i6z3619_)) * (i3z3619_ / ((Mz3619_.1 124 35) - i6z3619_))) ∧ Int32.toInt (i5z3619_ - i5z3619_ / (i3z3619_ / ((Mz3619_.1 124 35) - i6z3619_)) * (i3z3619_ / ((Mz3619_.1 124 35) - i6z3619_))) < Int32.toInt (i3z3619_ / ((Mz3619_.1 124 35) - i6z3619_)) := pvrem i5z3619_ (i3z3619_ / ((Mz3619_.1 124 35) - i6z3619_)) (by have u0 := h5z3619_; omega) (by have u0 := b3630_; omega)
                have b3634_ : 0 ≤ Int32.toInt (i5z3619_ - i5z3619_ / (i3z3619_ / ((Mz3619_.1 124 35) - i6z3619_)) * (i3z3619_ / ((Mz3619_.1 124 35) - i6z3619_))) ∧ Int32.toInt (i5z3619_ - i5z3619_ / (i3z3619_ / ((Mz3619_.1 124 35) - i6z3619_)) * (i3z3619_ / ((Mz3619_.1 124 35) - i6z3619_))) ≤ 719 := (by have u0 := q3633_; have u1 := b3630_; omega)
                refine pw_blk hT 6 (S' := (75, [some (pvR 124), some (pvI n1), some (pvI n2), some (pvI (i3z3619_ / ((Mz3619_.1 124 35) - i6z3619_))), some (pvI i4z3619_), some (pvI (i5z3619_ - i5z3619_ / (i3z3619_ / ((Mz3619_.1 124 35) - i6z3619_)) * (i3z3619_ / ((Mz3619_.1 124 35) - i6z3619_)))), some (pvI i6z3619_), some (pvI (i5z3619_ / (i3z3619_ / ((Mz3619_.1 124 35) - i6z3619_)))), some (pvI 0)], [], Mz3619_)) rfl ⟨trivial, trivial, (fun z0 => by have u0 := b3630_; have u1 := (zi_eq (i3z3619_ / ((Mz3619_.1 124 35) - i6z3619_)) 0).mp z0; have u2 : (0 : Int32).toInt = 0 := (by decide); omega), trivial, trivial, trivial, trivial⟩ ?_
                have hlz3761_ : ∀ (nz3761_ : Nat) (i7z3761_ : Int32) (i8z3761_ : Int32), (0 ≤ Int32.toInt i7z3761_ ∧ Int32.toInt i7z3761_ ≤ 6) → (0 ≤ Int32.toInt i8z3761_ ∧ Int32.toInt i8z3761_ ≤ 7) → (Int32.toInt i7z3761_ < zbc i4z3619_ (7 - Int32.toInt i8z3761_).toNat) → (yKJ M Mz3619_ n1 n2 i4z3619_ (i5z3619_ - i5z3619_ / (i3z3619_ / ((Mz3619_.1 124 35) - i6z3619_)) * (i3z3619_ / ((Mz3619_.1 124 35) - i6z3619_))) i6z3619_ i7z3761_ i8z3761_) → (zhide ((8 - Int32.toInt i8z3761_).toNat < nz3761_)) → PW 49 d (75, [some (pvR 124), some (pvI n1), some (pvI n2), some (pvI (i3z3619_ / ((Mz3619_.1 124 35) - i6z3619_))), some (pvI i4z3619_), some (pvI (i5z3619_ - i5z3619_ / (i3z3619_ / ((Mz3619_.1 124 35) - i6z3619_)) * (i3z3619_ / ((Mz3619_.1 124 35) - i6z3619_)))), some (pvI i6z3619_), some (pvI i7z3761_), some (pvI i8z3761_)], [], Mz3619_) (fun r X => (∃ x : Int32, r = some (pvI x) ∧ (0 ≤ Int32.toInt x ∧ Int32.toInt x ≤ 1) ∧ (Int32.toInt x ≤ 0 ∨ Int32.toInt n2 < 5040)) ∧ pvOk X ∧ pvFr fp_eX10_layOrder_124_x_x M X ∧ yKo n1 n2 r M X) := by
                  intro nz3761_
                  induction nz3761_ with
                  | zero => intro i7z3761_ i8z3761_ h7z3761_ h8z3761_ j0z3761_ j1z3761_ hmz3761_; exact absurd (zshow hmz3761_) (Nat.not_lt_zero _)
                  | succ nz3761_ ihz3761_ =>
                    intro i7z3761_ i8z3761_ h7z3761_ h8z3761_ j0z3761_ j1z3761_ hmz3761_
                    refine pw_blk hT 1 (S' := (76, [some (pvR 124), some (pvI n1), some (pvI n2), some (pvI (i3z3619_ / ((Mz3619_.1 124 35) - i6z3619_))), some (pvI i4z3619_), some (pvI (i5z3619_ - i5z3619_ / (i3z3619_ / ((Mz3619_.1 124 35) - i6z3619_)) * (i3z3619_ / ((Mz3619_.1 124 35) - i6z3619_)))), some (pvI i6z3619_), some (pvI i7z3761_), some (pvI i8z3761_)], [pvR 124], Mz3619_)) rfl ⟨trivial, trivial⟩ ?_
                    have b3762_ : 0 ≤ Int32.toInt i8z3761_ ∧ Int32.toInt i8z3761_ ≤ 6 := (by have z := zbc_in (by omega) j0z3761_; omega)
                    refine pw_blk hT 2 (S' := (80, [some (pvR 124), some (pvI n1), some (pvI n2), some (pvI (i3z3619_ / ((Mz3619_.1 124 35) - i6z3619_))), some (pvI i4z3619_), some (pvI (i5z3619_ - i5z3619_ / (i3z3619_ / ((Mz3619_.1 124 35) - i6z3619_)) * (i3z3619_ / ((Mz3619_.1 124 35) - i6z3619_)))), some (pvI i6z3619_), some (pvI i7z3761_), some (pvI i8z3761_)], [pvI i8z3761_, pvI i4z3619_, pvR 124], Mz3619_)) rfl ⟨trivial, trivial, trivial⟩ ?_
                    refine pw_callT hT (as := [pvR 124, pvI i4z3619_, pvI i8z3761_]) (lo1 := [some (pvR 124), some (pvI i4z3619_), some (pvI i8z3761_)]) (d1 := d) (rest := []) rfl rfl rfl rfl rfl (fun _ => rfl) (Nat.zero_le _) rfl rfl rfl (sf_X10_has_124_x_x Mz3619_ oz3619_ i4z3619_ i8z3761_ d) ?_
                    by_cases c3768_ : ((i4z3619_ >>> (i8z3761_ &&& 31)) &&& 1) = 1
                    · refine pw_eqI (if_pos c3768_) ?_
                      have b3769_ : 1 ≤ Int32.toInt ((i4z3619_ >>> (i8z3761_ &&& 31)) &&& 1) ∧ Int32.toInt ((i4z3619_ >>> (i8z3761_ &&& 31)) &&& 1) ≤ 1 := (by have u0 := (zbnd ((i4z3619_ >>> (i8z3761_ &&& 31)) &&& 1)); have u1 := (zi_eq _ _).mp c3768_; have u2 := (show 1 ≤ Int32.toInt 1 ∧ Int32.toInt 1 ≤ 1 from (by decide)); omega)
                      show PW 49 d (83, [some (pvR 124), some (pvI n1), some (pvI n2), some (pvI (i3z3619_ / ((Mz3619_.1 124 35) - i6z3619_))), some (pvI i4z3619_), some (pvI (i5z3619_ - i5z3619_ / (i3z3619_ / ((Mz3619_.1 124 35) - i6z3619_)) * (i3z3619_ / ((Mz3619_.1 124 35) - i6z3619_)))), some (pvI i6z3619_), some (pvI i7z3761_), some (pvI i8z3761_)], [pvI 1], Mz3619_) _
                      refine pw_if hT (c := 1 = 0) rfl rfl (fun c3770_ => absurd c3770_ (by decide)) (fun c3770_ => ?_)
                      refine pw_blk hT 1 (S' := (88, [some (pvR 124), some (pvI n1), some (pvI n2), some (pvI (i3z3619_ / ((Mz3619_.1 124 35) - i6z3619_))), some (pvI i4z3619_), some (pvI (i5z3619_ - i5z3619_ / (i3z3619_ / ((Mz3619_.1 124 35) - i6z3619_)) * (i3z3619_ / ((Mz3619_.1 124 35) - i6z3619_)))), some (pvI i6z3619_), some (pvI i7z3761_), some (pvI i8z3761_)], [pvI i7z3761_], Mz3619_)) rfl ⟨trivial, trivial⟩ ?_
                      refine pw_if hT (c := i7z3761_ ≤ 0) rfl rfl (fun c3771_ => ?_) (fun c3771_ => ?_)
                      · have b3772_ : 0 ≤ Int32.toInt i7z3761_ ∧ Int32.toInt i7z3761_ ≤ 0 := zr_le_l 0 c3771_ h7z3761_ (show 0 ≤ Int32.toInt 0 ∧ Int32.toInt 0 ≤ 0 from (by decide)) (by decide)
                        refine pw_blkw hT 5 (pc := 127) (lo := [some (pvR 124), some (pvI n1), some (pvI n2), some (pvI (i3z3619_ / ((Mz3619_.1 124 35) - i6z3619_))), some (pvI i4z3619_), some (pvI (i5z3619_ - i5z3619_ / (i3z3619_ / ((Mz3619_.1 124 35) - i6z3619_)) * (i3z3619_ / ((Mz3619_.1 124 35) - i6z3619_)))), some (pvI i6z3619_), some (pvI i7z3761_), some (pvI i8z3761_)]) (st := []) (M := pvu Mz3619_ 144 (Int32.toNatClampNeg i6z3619_) i8z3761_) rfl ⟨trivial, rfl, trivial, trivial, ⟨rfl, (zr_in (n := 7) b3624_ (by decide) (by decide))⟩, trivial⟩ (fun M3773_ e3774_ => ?_)
                        have o3775_ : pvOk M3773_ := pvok_u2 e3774_ oz3619_ rfl b3762_
                        have f3776_ : pvFr fp_eX10_layOrder_124_x_x M M3773_ := pvfr_u e3774_ fz3619_ rfl
                        refine pw_blk hT 8 (S' := (138, [some (pvR 124), some (pvI n1), some (pvI n2), some (pvI (i3z3619_ / ((Mz3619_.1 124 35) - i6z3619_))), some (pvI (i4z3619_ &&& ((1 <<< (i8z3761_ &&& 31)) ^^^ (-1)))), some (pvI (i5z3619_ - i5z3619_ / (i3z3619_ / ((Mz3619_.1 124 35) - i6z3619_)) * (i3z3619_ / ((Mz3619_.1 124 35) - i6z3619_)))), some (pvI i6z3619_), some (pvI i7z3761_), some (pvI i8z3761_)], [], M3773_)) rfl ⟨trivial, trivial, trivial, trivial, trivial, trivial, trivial, trivial, trivial⟩ ?_
                        have q3777_ := zbc_clr (x := i4z3619_) (w := i8z3761_) h4z3619_ b3762_
                        have b3778_ : 0 ≤ Int32.toInt (i4z3619_ &&& ((1 <<< (i8z3761_ &&& 31)) ^^^ (-1))) ∧ Int32.toInt (i4z3619_ &&& ((1 <<< (i8z3761_ &&& 31)) ^^^ (-1))) ≤ 127 := q3777_.2
                        obtain ⟨q3780_, b3779_⟩ : (Int32.toInt (i6z3619_ + 1) = Int32.toInt i6z3619_ + 1) ∧ (1 ≤ Int32.toInt (i6z3619_ + 1) ∧ Int32.toInt (i6z3619_ + 1) ≤ 7) := zadd_k i6z3619_ 1 1 1 7 b3624_ (by decide) (by decide) (by decide) (by decide) (by decide)
                        refine pw_blk hT 2 (S' := (41, [some (pvR 124), some (pvI n1), some (pvI n2), some (pvI (i3z3619_ / ((Mz3619_.1 124 35) - i6z3619_))), some (pvI (i4z3619_ &&& ((1 <<< (i8z3761_ &&& 31)) ^^^ (-1)))), some (pvI (i5z3619_ - i5z3619_ / (i3z3619_ / ((Mz3619_.1 124 35) - i6z3619_)) * (i3z3619_ / ((Mz3619_.1 124 35) - i6z3619_)))), some (pvI (i6z3619_ + 1)), some (pvI i7z3761_), some (pvI i8z3761_)], [], M3773_)) rfl ⟨trivial, trivial, trivial⟩ ?_
                        have j3781_ : Int32.toInt (i3z3619_ / ((Mz3619_.1 124 35) - i6z3619_)) = zfc (Int32.toInt (M3773_.1 124 35) - Int32.toInt (i6z3619_ + 1)) := (q3629_.1.trans (congrArg zfc (by have y01 : Int32.toInt (M3773_.1 124 35) = Int32.toInt (Mz3619_.1 124 35) := congrArg Int32.toInt (pvu_n e3774_ 124 35 (Or.inl (by decide))); omega)))
                        have j3782_ : Int32.toInt (i5z3619_ - i5z3619_ / (i3z3619_ / ((Mz3619_.1 124 35) - i6z3619_)) * (i3z3619_ / ((Mz3619_.1 124 35) - i6z3619_))) < Int32.toInt (i3z3619_ / ((Mz3619_.1 124 35) - i6z3619_)) := (by omega)
                        have j3783_ : Int32.toInt (M3773_.1 124 35) - Int32.toInt (i6z3619_ + 1) ≤ zbc (i4z3619_ &&& ((1 <<< (i8z3761_ &&& 31)) ^^^ (-1))) 7 := (by have y01 : Int32.toInt (M3773_.1 124 35) = Int32.toInt (Mz3619_.1 124 35) := congrArg Int32.toInt (pvu_n e3774_ 124 35 (Or.inl (by decide))); have z := q3777_.1; omega)
                        have j3784_ : yKI M M3773_ n1 n2 (i4z3619_ &&& ((1 <<< (i8z3761_ &&& 31)) ^^^ (-1))) (i5z3619_ - i5z3619_ / (i3z3619_ / ((Mz3619_.1 124 35) - i6z3619_)) * (i3z3619_ / ((Mz3619_.1 124 35) - i6z3619_))) (i6z3619_ + 1) := (yKI_s j1z3761_ (show 0 ≤ Int32.toInt i4z3619_ ∧ Int32.toInt i4z3619_ ≤ 127 from h4z3619_) (show 0 ≤ Int32.toInt i8z3761_ ∧ Int32.toInt i8z3761_ ≤ 6 from b3762_) c3768_ (show 0 ≤ Int32.toInt i7z3761_ ∧ Int32.toInt i7z3761_ ≤ 0 from b3772_) (show 0 ≤ Int32.toInt i6z3619_ ∧ Int32.toInt i6z3619_ ≤ 6 from b3624_) e3774_ rfl rfl)
                        exact ihz3619_ (i3z3619_ / ((Mz3619_.1 124 35) - i6z3619_)) (i4z3619_ &&& ((1 <<< (i8z3761_ &&& 31)) ^^^ (-1))) (i5z3619_ - i5z3619_ / (i3z3619_ / ((Mz3619_.1 124 35) - i6z3619_)) * (i3z3619_ / ((Mz3619_.1 124 35) - i6z3619_))) (i6z3619_ + 1) (some (pvI i7z3761_)) (some (pvI i8z3761_)) M3773_ o3775_ f3776_ (zr_wide b3630_ (by decide) (by decide)) b3778_ (zr_wide b3634_ (by decide) (by decide)) (zr_wide b3779_ (by decide) (by decide)) j3781_ j3782_ j3783_ j3784_ (zhid (by have hm0 := zshow hmz3619_; have y01 : Int32.toInt (M3773_.1 124 35) = Int32.toInt (Mz3619_.1 124 35) := congrArg Int32.toInt (pvu_n e3774_ 124 35 (Or.inl (by decide))); omega))
                      · have b3785_ : 1 ≤ Int32.toInt i7z3761_ ∧ Int32.toInt i7z3761_ ≤ 6 := zr_nle_l 1 c3771_ h7z3761_ (show 0 ≤ Int32.toInt 0 ∧ Int32.toInt 0 ≤ 0 from (by decide)) (by decide)
                        refine pw_blk hT 4 (S' := (98, [some (pvR 124), some (pvI n1), some (pvI n2), some (pvI (i3z3619_ / ((Mz3619_.1 124 35) - i6z3619_))), some (pvI i4z3619_), some (pvI (i5z3619_ - i5z3619_ / (i3z3619_ / ((Mz3619_.1 124 35) - i6z3619_)) * (i3z3619_ / ((Mz3619_.1 124 35) - i6z3619_)))), some (pvI i6z3619_), some (pvI i7z3761_), some (pvI i8z3761_)], [pvI i8z3761_, pvI i4z3619_, pvR 124, pvI i7z3761_], Mz3619_)) rfl ⟨trivial, trivial, trivial, trivial, trivial⟩ ?_
                        refine pw_callT hT (as := [pvR 124, pvI i4z3619_, pvI i8z3761_]) (lo1 := [some (pvR 124), some (pvI i4z3619_), some (pvI i8z3761_)]) (d1 := d) (rest := [pvI i7z3761_]) rfl rfl rfl rfl rfl (fun _ => rfl) (Nat.zero_le _) rfl rfl rfl (sf_X10_has_124_x_x Mz3619_ oz3619_ i4z3619_ i8z3761_ d) ?_
                        refine pw_eqI (if_pos c3768_) ?_
                        show PW 49 d (101, [some (pvR 124), some (pvI n1), some (pvI n2), some (pvI (i3z3619_ / ((Mz3619_.1 124 35) - i6z3619_))), some (pvI i4z3619_), some (pvI (i5z3619_ - i5z3619_ / (i3z3619_ / ((Mz3619_.1 124 35) - i6z3619_)) * (i3z3619_ / ((Mz3619_.1 124 35) - i6z3619_)))), some (pvI i6z3619_), some (pvI i7z3761_), some (pvI i8z3761_)], [pvI 1, pvI i7z3761_], Mz3619_) _
                        refine pw_if hT (c := 1 = 0) rfl rfl (fun c3791_ => absurd c3791_ (by decide)) (fun c3791_ => ?_)
                        obtain ⟨q3793_, b3792_⟩ : (Int32.toInt (i7z3761_ - 1) = Int32.toInt i7z3761_ - 1) ∧ (0 ≤ Int32.toInt (i7z3761_ - 1) ∧ Int32.toInt (i7z3761_ - 1) ≤ 5) := zsub_k i7z3761_ 1 1 0 5 b3785_ (by decide) (by decide) (by decide) (by decide) (by decide)
                        obtain ⟨q3795_, b3794_⟩ : (Int32.toInt (i8z3761_ + 1) = Int32.toInt i8z3761_ + 1) ∧ (1 ≤ Int32.toInt (i8z3761_ + 1) ∧ Int32.toInt (i8z3761_ + 1) ≤ 7) := zadd_k i8z3761_ 1 1 1 7 b3762_ (by decide) (by decide) (by decide) (by decide) (by decide)
                        refine pw_blk hT 6 (S' := (75, [some (pvR 124), some (pvI n1), some (pvI n2), some (pvI (i3z3619_ / ((Mz3619_.1 124 35) - i6z3619_))), some (pvI i4z3619_), some (pvI (i5z3619_ - i5z3619_ / (i3z3619_ / ((Mz3619_.1 124 35) - i6z3619_)) * (i3z3619_ / ((Mz3619_.1 124 35) - i6z3619_)))), some (pvI i6z3619_), some (pvI (i7z3761_ - 1)), some (pvI (i8z3761_ + 1))], [], Mz3619_)) rfl ⟨trivial, trivial, trivial, trivial, trivial, trivial, trivial⟩ ?_
                        have j3796_ : Int32.toInt (i7z3761_ - 1) < zbc i4z3619_ (7 - Int32.toInt (i8z3761_ + 1)).toNat := (zbc_s (by omega) j0z3761_ (by omega) (by omega) (fun _ => by omega) (fun z => absurd c3768_ z))
                        have j3797_ : yKJ M Mz3619_ n1 n2 i4z3619_ (i5z3619_ - i5z3619_ / (i3z3619_ / ((Mz3619_.1 124 35) - i6z3619_)) * (i3z3619_ / ((Mz3619_.1 124 35) - i6z3619_))) i6z3619_ (i7z3761_ - 1) (i8z3761_ + 1) := (yKJ_y j1z3761_ (show 0 ≤ Int32.toInt i4z3619_ ∧ Int32.toInt i4z3619_ ≤ 127 from h4z3619_) (show 0 ≤ Int32.toInt i8z3761_ ∧ Int32.toInt i8z3761_ ≤ 6 from b3762_) c3768_ (by have u := b3785_; omega) rfl rfl)
                        exact ihz3761_ (i7z3761_ - 1) (i8z3761_ + 1) (zr_wide b3792_ (by decide) (by decide)) (zr_wide b3794_ (by decide) (by decide)) j3796_ j3797_ (zhid (pvms_up (zshow hmz3761_) h8z3761_ q3795_ (by decide) (by decide)))
                    · refine pw_eqI (if_neg c3768_) ?_
                      show PW 49 d (83, [some (pvR 124), some (pvI n1), some (pvI n2), some (pvI (i3z3619_ / ((Mz3619_.1 124 35) - i6z3619_))), some (pvI i4z3619_), some (pvI (i5z3619_ - i5z3619_ / (i3z3619_ / ((Mz3619_.1 124 35) - i6z3619_)) * (i3z3619_ / ((Mz3619_.1 124 35) - i6z3619_)))), some (pvI i6z3619_), some (pvI i7z3761_), some (pvI i8z3761_)], [pvI 0], Mz3619_) _
                      refine pw_if hT (c := 0 = 0) rfl rfl (fun c3798_ => ?_) (fun c3798_ => absurd (by decide) c3798_)
                      refine pw_blk hT 4 (S' := (98, [some (pvR 124), some (pvI n1), some (pvI n2), some (pvI (i3z3619_ / ((Mz3619_.1 124 35) - i6z3619_))), some (pvI i4z3619_), some (pvI (i5z3619_ - i5z3619_ / (i3z3619_ / ((Mz3619_.1 124 35) - i6z3619_)) * (i3z3619_ / ((Mz3619_.1 124 35) - i6z3619_)))), some (pvI i6z3619_), some (pvI i7z3761_), some (pvI i8z3761_)], [pvI i8z3761_, pvI i4z3619_, pvR 124, pvI i7z3761_], Mz3619_)) rfl ⟨trivial, trivial, trivial, trivial, trivial⟩ ?_
                      refine pw_callT hT (as := [pvR 124, pvI i4z3619_, pvI i8z3761_]) (lo1 := [some (pvR 124), some (pvI i4z3619_), some (pvI i8z3761_)]) (d1 := d) (rest := [pvI i7z3761_]) rfl rfl rfl rfl rfl (fun _ => rfl) (Nat.zero_le _) rfl rfl rfl (sf_X10_has_124_x_x Mz3619_ oz3619_ i4z3619_ i8z3761_ d) ?_
                      refine pw_eqI (if_neg c3768_) ?_
                      show PW 49 d (101, [some (pvR 124), some (pvI n1), some (pvI n2), some (pvI (i3z3619_ / ((Mz3619_.1 124 35) - i6z3619_))), some (pvI i4z3619_), some (pvI (i5z3619_ - i5z3619_ / (i3z3619_ / ((Mz3619_.1 124 35) - i6z3619_)) * (i3z3619_ / ((Mz3619_.1 124 35) - i6z3619_)))), some (pvI i6z3619_), some (pvI i7z3761_), some (pvI i8z3761_)], [pvI 0, pvI i7z3761_], Mz3619_) _
                      refine pw_if hT (c := 0 = 0) rfl rfl (fun c3804_ => ?_) (fun c3804_ => absurd (by decide) c3804_)
                      obtain ⟨q3806_, b3805_⟩ : (Int32.toInt (i7z3761_ - 0) = Int32.toInt i7z3761_ - 0) ∧ (0 ≤ Int32.toInt (i7z3761_ - 0) ∧ Int32.toInt (i7z3761_ - 0) ≤ 6) := zsub_k i7z3761_ 0 0 0 6 h7z3761_ (by decide) (by decide) (by decide) (by decide) (by decide)
                      obtain ⟨q3808_, b3807_⟩ : (Int32.toInt (i8z3761_ + 1) = Int32.toInt i8z3761_ + 1) ∧ (1 ≤ Int32.toInt (i8z3761_ + 1) ∧ Int32.toInt (i8z3761_ + 1) ≤ 7) := zadd_k i8z3761_ 1 1 1 7 b3762_ (by decide) (by decide) (by decide) (by decide) (by decide)
                      refine pw_blk hT 5 (S' := (75, [some (pvR 124), some (pvI n1), some (pvI n2), some (pvI (i3z3619_ / ((Mz3619_.1 124 35) - i6z3619_))), some (pvI i4z3619_), some (pvI (i5z3619_ - i5z3619_ / (i3z3619_ / ((Mz3619_.1 124 35) - i6z3619_)) * (i3z3619_ / ((Mz3619_.1 124 35) - i6z3619_)))), some (pvI i6z3619_), some (pvI (i7z3761_ - 0)), some (pvI (i8z3761_ + 1))], [], Mz3619_)) rfl ⟨trivial, trivial, trivial, trivial, trivial, trivial⟩ ?_
                      have j3809_ : Int32.toInt (i7z3761_ - 0) < zbc i4z3619_ (7 - Int32.toInt (i8z3761_ + 1)).toNat := (zbc_s (by omega) j0z3761_ (by omega) (by omega) (fun z => absurd z c3768_) (fun _ => by omega))
                      have j3810_ : yKJ M Mz3619_ n1 n2 i4z3619_ (i5z3619_ - i5z3619_ / (i3z3619_ / ((Mz3619_.1 124 35) - i6z3619_)) * (i3z3619_ / ((Mz3619_.1 124 35) - i6z3619_))) i6z3619_ (i7z3761_ - 0) (i8z3761_ + 1) := (yKJ_n j1z3761_ (show 0 ≤ Int32.toInt i4z3619_ ∧ Int32.toInt i4z3619_ ≤ 127 from h4z3619_) (show 0 ≤ Int32.toInt i8z3761_ ∧ Int32.toInt i8z3761_ ≤ 6 from b3762_) c3768_ (by have u := h7z3761_; omega) rfl rfl)
                      exact ihz3761_ (i7z3761_ - 0) (i8z3761_ + 1) b3805_ (zr_wide b3807_ (by decide) (by decide)) j3809_ j3810_ (zhid (pvms_up (zshow hmz3761_) h8z3761_ q3808_ (by decide) (by decide)))
                have u3811_ : Int32.toInt 0 = 0 := by decide
                have j3812_ : Int32.toInt (i5z3619_ / (i3z3619_ / ((Mz3619_.1 124 35) - i6z3619_))) < zbc i4z3619_ (7 - Int32.toInt 0).toNat := (zbc_0 (by omega))
                have j3813_ : yKJ M Mz3619_ n1 n2 i4z3619_ (i5z3619_ - i5z3619_ / (i3z3619_ / ((Mz3619_.1 124 35) - i6z3619_)) * (i3z3619_ / ((Mz3619_.1 124 35) - i6z3619_))) i6z3619_ (i5z3619_ / (i3z3619_ / ((Mz3619_.1 124 35) - i6z3619_))) 0 := (yKJ_0 j3z3619_ (fz3619_ 124 35 rfl) (by have u := b3624_; omega) (pvok_r oz3619_ 124 35 (lo := 0) (hi := 7) rfl).2 c3621_ (show 0 ≤ Int32.toInt i5z3619_ ∧ Int32.toInt i5z3619_ ≤ 5040 from h5z3619_) q3629_ rfl)
                exact hlz3761_ _ (i5z3619_ / (i3z3619_ / ((Mz3619_.1 124 35) - i6z3619_))) 0 b3632_ (zr_wide (show 0 ≤ Int32.toInt 0 ∧ Int32.toInt 0 ≤ 0 from (by decide)) (by decide) (by decide)) j3812_ j3813_ (zhid (Nat.lt_succ_self _))
          have u3814_ : Int32.toInt 0 = 0 := by decide
          have j3815_ : Int32.toInt i3z2866_ = zfc (Int32.toInt (M.1 124 35) - Int32.toInt 0) := (q2873_.trans (congrArg zfc (by omega)))
          have j3816_ : Int32.toInt n2 < Int32.toInt i3z2866_ := (by omega)
          have j3817_ : Int32.toInt (M.1 124 35) - Int32.toInt 0 ≤ zbc n1 7 := (by omega)
          have j3818_ : yKI M M n1 n2 n1 n2 0 := (yKI_0 M n1 n2)
          exact hlz3619_ _ i3z2866_ n1 n2 0 none none M hok pvfr_0 h3z2866_ hn1 (zr_wide b2871_ (by decide) (by decide)) (zr_wide (show 0 ≤ Int32.toInt 0 ∧ Int32.toInt 0 ≤ 0 from (by decide)) (by decide) (by decide)) j3815_ j3816_ j3817_ j3818_ (zhid (Nat.lt_succ_self _))
        · have b3819_ : 1 ≤ Int32.toInt n2 ∧ Int32.toInt n2 ≤ 5040 := zr_nlt_l 1 c2870_ hn2 h3z2866_ (by decide)
          have d3820_ : Int32.toInt n2 ≥ Int32.toInt i3z2866_ := Int.not_lt.mp ((not_congr (zi_lt _ _)).mp c2870_)
          refine pw_blk hT 1 (S' := (31, [some (pvR 124), some (pvI n1), some (pvI n2), some (pvI i3z2866_), some (pvI i4z2866_), none, none, none, none], [pvI 0], M)) rfl ⟨trivial, trivial⟩ ?_
          exact pw_ret hT rfl (r := some (pvI 0)) (M' := M) ⟨Or.inl rfl, rfl, rfl⟩ ⟨⟨_, rfl, (zr_wide (show 0 ≤ Int32.toInt 0 ∧ Int32.toInt 0 ≤ 0 from (by decide)) (by decide) (by decide)), (by have u9 : Int32.toInt 0 = 0 := (by decide); have u8 : Int32.toInt (-1) = -1 := (by decide); omega)⟩, hok, pvfr_0, (yKo_0 hok hn2.1 (zlo_x (w := Int32.toInt (M.1 124 35)) j0z2866_ j1z2866_ (by omega)) c2870_)⟩
      · have b3821_ : 2 ≤ Int32.toInt (M.1 124 35) ∧ Int32.toInt (M.1 124 35) ≤ 7 := zr_nlt_l 2 c2868_ b2867_ h4z2866_ (by decide)
        have b3822_ : 2 ≤ Int32.toInt i4z2866_ ∧ Int32.toInt i4z2866_ ≤ 7 := zr_nlt_r 7 c2868_ h4z2866_ b3821_ (by decide)
        have d3823_ : Int32.toInt (M.1 124 35) ≥ Int32.toInt i4z2866_ := Int.not_lt.mp ((not_congr (zi_lt _ _)).mp c2868_)
        have b3824_ : 0 ≤ Int32.toInt (i3z2866_ * i4z2866_) ∧ Int32.toInt (i3z2866_ * i4z2866_) ≤ 35280 := (by have u := zmul_b i3z2866_ i4z2866_ 5040 7 (by have u0 := h3z2866_; omega) (by have u0 := b3822_; omega) (by decide); omega)
        refine pw_blk hT 4 (S' := (19, [some (pvR 124), some (pvI n1), some (pvI n2), some (pvI (i3z2866_ * i4z2866_)), some (pvI i4z2866_), none, none, none, none], [], M)) rfl ⟨trivial, trivial, trivial, trivial, trivial⟩ ?_
        have q3825_ := zlo_1 j0z2866_ (by omega) (by omega)
        have b3826_ : 1 ≤ Int32.toInt (i3z2866_ * i4z2866_) ∧ Int32.toInt (i3z2866_ * i4z2866_) ≤ 5040 := q3825_.2
        obtain ⟨q3828_, b3827_⟩ : (Int32.toInt (i4z2866_ + 1) = Int32.toInt i4z2866_ + 1) ∧ (3 ≤ Int32.toInt (i4z2866_ + 1) ∧ Int32.toInt (i4z2866_ + 1) ≤ 8) := zadd_k i4z2866_ 1 1 3 8 b3822_ (by decide) (by decide) (by decide) (by decide) (by decide)
        refine pw_blk hT 2 (S' := (5, [some (pvR 124), some (pvI n1), some (pvI n2), some (pvI (i3z2866_ * i4z2866_)), some (pvI (i4z2866_ + 1)), none, none, none, none], [], M)) rfl ⟨trivial, trivial, trivial⟩ ?_
        have j3829_ : Int32.toInt (i3z2866_ * i4z2866_) = zfc (Int32.toInt (i4z2866_ + 1) - 1) := (q3825_.1.trans (congrArg zfc (by omega)))
        have j3830_ : Int32.toInt (i4z2866_ + 1) ≤ Int32.toInt (M.1 124 35) + 1 ∨ Int32.toInt (i4z2866_ + 1) = 2 := (by omega)
        exact ihz2866_ (i3z2866_ * i4z2866_) (i4z2866_ + 1) b3826_ (zr_wide b3827_ (by decide) (by decide)) j3829_ j3830_ (zhid (pvms_up (zshow hmz2866_) h4z2866_ q3828_ (by decide) (by decide)))
  have u3831_ : Int32.toInt 1 = 1 := by decide
  have u3832_ : Int32.toInt 2 = 2 := by decide
  have j3833_ : Int32.toInt 1 = zfc (Int32.toInt 2 - 1) := (by decide)
  have j3834_ : Int32.toInt 2 ≤ Int32.toInt (M.1 124 35) + 1 ∨ Int32.toInt 2 = 2 := (by omega)
  exact hlz2866_ _ 1 2 (zr_wide (show 1 ≤ Int32.toInt 1 ∧ Int32.toInt 1 ≤ 1 from (by decide)) (by decide) (by decide)) (zr_wide (show 2 ≤ Int32.toInt 2 ∧ Int32.toInt 2 ≤ 2 from (by decide)) (by decide) (by decide)) j3833_ j3834_ (zhid (Nat.lt_succ_self _))
