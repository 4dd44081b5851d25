def fpL_eX10_from_124 : List (Nat × Nat × Nat) := [(0, 124, 33), (0, 124, 5), (0, 141, 0), (0, 142, 0), (0, 143, 0)]
def fp_eX10_from_124 (q k : Nat) : Bool := pvfp fpL_eX10_from_124 q k
theorem fp_eX10_from_124_fp_eX10_layOpen_124 (a b : Nat) (h : fp_eX10_layOpen_124 a b = true) : fp_eX10_from_124 a b = true := pvfp_sub (l1 := fpL_eX10_layOpen_124) (l2 := fpL_eX10_from_124) (by decide) a b h
theorem fp_eX10_from_124_fp_eX10_layRain_124 (a b : Nat) (h : fp_eX10_layRain_124 a b = true) : fp_eX10_from_124 a b = true := pvfp_sub (l1 := fpL_eX10_layRain_124) (l2 := fpL_eX10_from_124) (by decide) a b h
set_option maxHeartbeats 4000000 in
set_option maxRecDepth 10000 in
theorem se_X10_from_124 (M : pvM) (hok : pvOk M) (hz : pvWF M) (d : Nat) : PW 22 d (0, [some (pvR 124), none, none, none, none], [], M) (fun r X => (∃ x : Int32, r = some (pvI x) ∧ True) ∧ pvOk X ∧ pvFr fp_eX10_from_124 M X ∧ X.1 124 4 = M.1 124 4 ∧ yA0 yGfr r M) := by
  have hT : pvdom 22 = pvD_22 := rfl
  have b1_ : 0 ≤ Int32.toInt (M.1 124 4) ∧ Int32.toInt (M.1 124 4) ≤ 4 := pvok_r hok 124 4 rfl
  refine pw_blk hT 6 (S' := (8, [some (pvR 124), some (pvI (M.1 124 4)), some (pvI 0), none, none], [pvR 124], M)) rfl ⟨trivial, rfl, trivial, trivial, trivial, trivial, trivial⟩ ?_
  refine pw_callVd hT (as := [pvR 124]) (lo1 := [some (pvR 124), none]) (d1 := d) (rest := []) rfl rfl rfl rfl rfl (fun _ => rfl) (Nat.zero_le _) rfl rfl rfl (se_X10_layOpen_124 M hok d) (fun M4_ o6_ g7_ d2_ => ?_)
  have f8_ : pvFr fp_eX10_from_124 M M4_ := pvfr_t g7_ pvfr_0 fp_eX10_from_124_fp_eX10_layOpen_124
  refine pw_blkw hT 3 (pc := 16) (lo := [some (pvR 124), some (pvI (M.1 124 4)), some (pvI 0), none, none]) (st := []) (M := pvu M4_ 124 4 0) rfl ⟨trivial, trivial, rfl, trivial⟩ (fun M9_ e10_ => ?_)
  have o11_ : pvOk M9_ := pvok_u2 e10_ o6_ rfl (zr_wide (show 0 ≤ Int32.toInt 0 ∧ Int32.toInt 0 ≤ 0 from (by decide)) (by decide) (by decide))
  have f12_ : pvFr fp_eX10_from_124 M M9_ := pvfr_u e10_ f8_ rfl
  have hlz590_ : ∀ (nz590_ : Nat) (i2z590_ : Int32) (v3z590_ : Option pvV) (v4z590_ : Option pvV) (Mz590_ : pvM), (pvOk Mz590_) → (pvFr fp_eX10_from_124 M Mz590_) → (yFr0 M Mz590_ i2z590_ (Mz590_.1 124 4)) → (zhide ((5 - Int32.toInt (Mz590_.1 124 4)).toNat < nz590_)) → PW 22 d (16, [some (pvR 124), some (pvI (M.1 124 4)), some (pvI i2z590_), v3z590_, v4z590_], [], Mz590_) (fun r X => (∃ x : Int32, r = some (pvI x) ∧ True) ∧ pvOk X ∧ pvFr fp_eX10_from_124 M X ∧ X.1 124 4 = M.1 124 4 ∧ yA0 yGfr r M) := by
    intro nz590_
    induction nz590_ with
    | zero => intro i2z590_ v3z590_ v4z590_ Mz590_ oz590_ fz590_ j0z590_ hmz590_; exact absurd (zshow hmz590_) (Nat.not_lt_zero _)
    | succ nz590_ ihz590_ =>
      intro i2z590_ v3z590_ v4z590_ Mz590_ oz590_ fz590_ j0z590_ hmz590_
      have b591_ : 0 ≤ Int32.toInt (Mz590_.1 124 4) ∧ Int32.toInt (Mz590_.1 124 4) ≤ 4 := pvok_r oz590_ 124 4 rfl
      refine pw_blk hT 3 (S' := (21, [some (pvR 124), some (pvI (M.1 124 4)), some (pvI i2z590_), v3z590_, v4z590_], [pvI 4, pvI (Mz590_.1 124 4)], Mz590_)) rfl ⟨trivial, rfl, trivial, trivial⟩ ?_
      refine pw_ic hT (c := 4 ≤ (Mz590_.1 124 4)) rfl rfl (fun c592_ => ?_) (fun c592_ => ?_)
      · have b593_ : 4 ≤ Int32.toInt (Mz590_.1 124 4) ∧ Int32.toInt (Mz590_.1 124 4) ≤ 4 := zr_le_r 4 c592_ b591_ (show 4 ≤ Int32.toInt 4 ∧ Int32.toInt 4 ≤ 4 from (by decide)) (by decide)
        refine pw_blkw hT 3 (pc := 114) (lo := [some (pvR 124), some (pvI (M.1 124 4)), some (pvI i2z590_), v3z590_, v4z590_]) (st := []) (M := pvu Mz590_ 124 4 (M.1 124 4)) rfl ⟨trivial, trivial, rfl, trivial⟩ (fun M594_ e595_ => ?_)
        have o596_ : pvOk M594_ := pvok_u2 e595_ oz590_ rfl b1_
        have f597_ : pvFr fp_eX10_from_124 M M594_ := pvfr_u e595_ fz590_ rfl
        refine pw_blk hT 1 (S' := (115, [some (pvR 124), some (pvI (M.1 124 4)), some (pvI i2z590_), v3z590_, v4z590_], [pvI i2z590_], M594_)) rfl ⟨trivial, trivial⟩ ?_
        exact pw_ret hT rfl (r := some (pvI i2z590_)) (M' := M594_) ⟨rfl, rfl⟩ ⟨⟨_, rfl, trivial⟩, o596_, f597_, (pvu_s e595_), (yGfr0_e j0z590_ (by have u := b593_; omega))⟩
      · have b598_ : 0 ≤ Int32.toInt (Mz590_.1 124 4) ∧ Int32.toInt (Mz590_.1 124 4) ≤ 3 := zr_nle_r 3 c592_ b591_ (show 4 ≤ Int32.toInt 4 ∧ Int32.toInt 4 ≤ 4 from (by decide)) (by decide)
        refine pw_blk hT 1 (S' := (25, [some (pvR 124), some (pvI (M.1 124 4)), some (pvI i2z590_), v3z590_, v4z590_], [pvR 124], Mz590_)) rfl ⟨trivial, trivial⟩ ?_
        refine pw_callVd hT (as := [pvR 124]) (lo1 := [some (pvR 124), none, none]) (d1 := d) (rest := []) rfl rfl rfl rfl rfl (fun _ => rfl) (Nat.zero_le _) rfl rfl rfl (se_X10_layRain_124 Mz590_ oz590_ (pvWF_fr (L := fpL_eX10_from_124) rfl fz590_ hz) d) (fun M601_ o603_ g604_ d599_ => ?_)
        have f605_ : pvFr fp_eX10_from_124 M M601_ := pvfr_t g604_ fz590_ fp_eX10_from_124_fp_eX10_layRain_124
        refine pw_blk hT 4 (S' := (33, [some (pvR 124), some (pvI (M.1 124 4)), some (pvI i2z590_), some (pvI 1), some (pvI 0)], [], M601_)) rfl ⟨trivial, trivial, trivial, trivial, trivial⟩ ?_
        have e606_ : (M601_.1 124 4) = (Mz590_.1 124 4) := (g604_ 124 4 rfl)
        have b607_ : 0 ≤ Int32.toInt (M601_.1 124 4) ∧ Int32.toInt (M601_.1 124 4) ≤ 3 := (by rw [e606_]; exact b598_)
        have hlz733_ : ∀ (nz733_ : Nat) (i3z733_ : Int32) (i4z733_ : Int32), (0 ≤ Int32.toInt i3z733_ ∧ Int32.toInt i3z733_ ≤ 1) → (0 ≤ Int32.toInt i4z733_ ∧ Int32.toInt i4z733_ ≤ 6) → (yFr1 M (M601_.1 124 4) i3z733_ i4z733_) → (zhide ((7 - Int32.toInt i4z733_).toNat < nz733_)) → PW 22 d (33, [some (pvR 124), some (pvI (M.1 124 4)), some (pvI i2z590_), some (pvI i3z733_), some (pvI i4z733_)], [], M601_) (fun r X => (∃ x : Int32, r = some (pvI x) ∧ True) ∧ pvOk X ∧ pvFr fp_eX10_from_124 M X ∧ X.1 124 4 = M.1 124 4 ∧ yA0 yGfr r M) := by
          intro nz733_
          induction nz733_ with
          | zero => intro i3z733_ i4z733_ h3z733_ h4z733_ j0z733_ hmz733_; exact absurd (zshow hmz733_) (Nat.not_lt_zero _)
          | succ nz733_ ihz733_ =>
            intro i3z733_ i4z733_ h3z733_ h4z733_ j0z733_ hmz733_
            have b734_ : 0 ≤ Int32.toInt (M601_.1 124 40) ∧ Int32.toInt (M601_.1 124 40) ≤ 6 := pvok_r o603_ 124 40 rfl
            refine pw_blk hT 3 (S' := (39, [some (pvR 124), some (pvI (M.1 124 4)), some (pvI i2z590_), some (pvI i3z733_), some (pvI i4z733_)], [pvI (M601_.1 124 40), pvI i4z733_], M601_)) rfl ⟨trivial, trivial, rfl, trivial⟩ ?_
            refine pw_ic hT (c := (M601_.1 124 40) ≤ i4z733_) rfl rfl (fun c735_ => ?_) (fun c735_ => ?_)
            · have d736_ : Int32.toInt (M601_.1 124 40) ≤ Int32.toInt i4z733_ := (zi_le _ _).mp c735_
              refine pw_blk hT 2 (S' := (81, [some (pvR 124), some (pvI (M.1 124 4)), some (pvI i2z590_), some (pvI i3z733_), some (pvI i4z733_)], [pvI i3z733_, pvI i2z590_], M601_)) rfl ⟨trivial, trivial, trivial⟩ ?_
              refine pw_if hT (c := i3z733_ = 0) rfl rfl (fun c737_ => ?_) (fun c737_ => ?_)
              · have b738_ : 0 ≤ Int32.toInt i3z733_ ∧ Int32.toInt i3z733_ ≤ 0 := (by have u0 := h3z733_; have u1 := (zi_eq _ _).mp c737_; have u2 := (show 0 ≤ Int32.toInt 0 ∧ Int32.toInt 0 ≤ 0 from (by decide)); omega)
                obtain ⟨q740_, b739_⟩ : (Int32.toInt ((M601_.1 124 4) + 1) = Int32.toInt (M601_.1 124 4) + 1) ∧ (1 ≤ Int32.toInt ((M601_.1 124 4) + 1) ∧ Int32.toInt ((M601_.1 124 4) + 1) ≤ 4) := zadd_k (M601_.1 124 4) 1 1 1 4 b607_ (by decide) (by decide) (by decide) (by decide) (by decide)
                refine pw_blkw hT 9 (pc := 106) (lo := [some (pvR 124), some (pvI (M.1 124 4)), some (pvI (i2z590_ ||| 0)), some (pvI i3z733_), some (pvI i4z733_)]) (st := []) (M := pvu M601_ 124 4 ((M601_.1 124 4) + 1)) rfl ⟨trivial, trivial, trivial, trivial, trivial, rfl, trivial, trivial, rfl, trivial⟩ (fun M741_ e742_ => ?_)
                have o743_ : pvOk M741_ := pvok_u2 e742_ o603_ rfl (zr_wide b739_ (by decide) (by decide))
                have f744_ : pvFr fp_eX10_from_124 M M741_ := pvfr_u e742_ f605_ rfl
                refine pw_blk hT 1 (S' := (16, [some (pvR 124), some (pvI (M.1 124 4)), some (pvI (i2z590_ ||| 0)), some (pvI i3z733_), some (pvI i4z733_)], [], M741_)) rfl ⟨trivial, trivial⟩ ?_
                have j745_ : yFr0 M M741_ (i2z590_ ||| 0) (M741_.1 124 4) := (yFr0_s j0z590_ d599_ (fun w => g604_ 143 w rfl) j0z733_ (by have u := b598_; omega) (Or.inr ⟨c737_, rfl⟩) e742_ rfl)
                exact ihz590_ (i2z590_ ||| 0) (some (pvI i3z733_)) (some (pvI i4z733_)) M741_ o743_ f744_ j745_ (zhid (by have hm0 := zshow hmz590_; have z1 : Int32.toInt (M741_.1 124 4) = Int32.toInt ((M601_.1 124 4) + 1) := congrArg Int32.toInt (pvu_s e742_); have z2 : Int32.toInt (M601_.1 124 4) = Int32.toInt (Mz590_.1 124 4) := congrArg Int32.toInt (g604_ 124 4 rfl); omega))
              · have b746_ : 1 ≤ Int32.toInt i3z733_ ∧ Int32.toInt i3z733_ ≤ 1 := (by have u0 := h3z733_; have u1 := (not_congr (zi_eq _ _)).mp c737_; have u2 := (show 0 ≤ Int32.toInt 0 ∧ Int32.toInt 0 ≤ 0 from (by decide)); omega)
                obtain ⟨q748_, b747_⟩ : (Int32.toInt ((M601_.1 124 4) + 1) = Int32.toInt (M601_.1 124 4) + 1) ∧ (1 ≤ Int32.toInt ((M601_.1 124 4) + 1) ∧ Int32.toInt ((M601_.1 124 4) + 1) ≤ 4) := zadd_k (M601_.1 124 4) 1 1 1 4 b607_ (by decide) (by decide) (by decide) (by decide) (by decide)
                refine pw_blkw hT 13 (pc := 106) (lo := [some (pvR 124), some (pvI (M.1 124 4)), some (pvI (i2z590_ ||| (1 <<< ((M601_.1 124 4) &&& 31)))), some (pvI i3z733_), some (pvI i4z733_)]) (st := []) (M := pvu M601_ 124 4 ((M601_.1 124 4) + 1)) rfl ⟨trivial, trivial, rfl, trivial, trivial, trivial, trivial, trivial, trivial, rfl, trivial, trivial, rfl, trivial⟩ (fun M749_ e750_ => ?_)
                have o751_ : pvOk M749_ := pvok_u2 e750_ o603_ rfl (zr_wide b747_ (by decide) (by decide))
                have f752_ : pvFr fp_eX10_from_124 M M749_ := pvfr_u e750_ f605_ rfl
                refine pw_blk hT 1 (S' := (16, [some (pvR 124), some (pvI (M.1 124 4)), some (pvI (i2z590_ ||| (1 <<< ((M601_.1 124 4) &&& 31)))), some (pvI i3z733_), some (pvI i4z733_)], [], M749_)) rfl ⟨trivial, trivial⟩ ?_
                have j753_ : yFr0 M M749_ (i2z590_ ||| (1 <<< ((M601_.1 124 4) &&& 31))) (M749_.1 124 4) := (yFr0_s j0z590_ d599_ (fun w => g604_ 143 w rfl) j0z733_ (by have u := b598_; omega) (Or.inl ⟨c737_, c735_, rfl⟩) e750_ rfl)
                exact ihz590_ (i2z590_ ||| (1 <<< ((M601_.1 124 4) &&& 31))) (some (pvI i3z733_)) (some (pvI i4z733_)) M749_ o751_ f752_ j753_ (zhid (by have hm0 := zshow hmz590_; have z1 : Int32.toInt (M749_.1 124 4) = Int32.toInt ((M601_.1 124 4) + 1) := congrArg Int32.toInt (pvu_s e750_); have z2 : Int32.toInt (M601_.1 124 4) = Int32.toInt (Mz590_.1 124 4) := congrArg Int32.toInt (g604_ 124 4 rfl); omega))
            · have b754_ : 1 ≤ Int32.toInt (M601_.1 124 40) ∧ Int32.toInt (M601_.1 124 40) ≤ 6 := zr_nle_l 1 c735_ b734_ h4z733_ (by decide)
              have b755_ : 0 ≤ Int32.toInt i4z733_ ∧ Int32.toInt i4z733_ ≤ 5 := zr_nle_r 5 c735_ h4z733_ b754_ (by decide)
              have d756_ : Int32.toInt (M601_.1 124 40) > Int32.toInt i4z733_ := Int.not_le.mp ((not_congr (zi_le _ _)).mp c735_)
              refine pw_blk hT 1 (S' := (43, [some (pvR 124), some (pvI (M.1 124 4)), some (pvI i2z590_), some (pvI i3z733_), some (pvI i4z733_)], [pvI i3z733_], M601_)) rfl ⟨trivial, trivial⟩ ?_
              refine pw_if hT (c := i3z733_ = 0) rfl rfl (fun c757_ => ?_) (fun c757_ => ?_)
              · have b758_ : 0 ≤ Int32.toInt i3z733_ ∧ Int32.toInt i3z733_ ≤ 0 := (by have u0 := h3z733_; have u1 := (zi_eq _ _).mp c757_; have u2 := (show 0 ≤ Int32.toInt 0 ∧ Int32.toInt 0 ≤ 0 from (by decide)); omega)
                refine pw_blk hT 2 (S' := (81, [some (pvR 124), some (pvI (M.1 124 4)), some (pvI i2z590_), some (pvI i3z733_), some (pvI i4z733_)], [pvI i3z733_, pvI i2z590_], M601_)) rfl ⟨trivial, trivial, trivial⟩ ?_
                refine pw_if hT (c := i3z733_ = 0) rfl rfl (fun c759_ => ?_) (fun c759_ => absurd c757_ c759_)
                obtain ⟨q761_, b760_⟩ : (Int32.toInt ((M601_.1 124 4) + 1) = Int32.toInt (M601_.1 124 4) + 1) ∧ (1 ≤ Int32.toInt ((M601_.1 124 4) + 1) ∧ Int32.toInt ((M601_.1 124 4) + 1) ≤ 4) := zadd_k (M601_.1 124 4) 1 1 1 4 b607_ (by decide) (by decide) (by decide) (by decide) (by decide)
                refine pw_blkw hT 9 (pc := 106) (lo := [some (pvR 124), some (pvI (M.1 124 4)), some (pvI (i2z590_ ||| 0)), some (pvI i3z733_), some (pvI i4z733_)]) (st := []) (M := pvu M601_ 124 4 ((M601_.1 124 4) + 1)) rfl ⟨trivial, trivial, trivial, trivial, trivial, rfl, trivial, trivial, rfl, trivial⟩ (fun M762_ e763_ => ?_)
                have o764_ : pvOk M762_ := pvok_u2 e763_ o603_ rfl (zr_wide b760_ (by decide) (by decide))
                have f765_ : pvFr fp_eX10_from_124 M M762_ := pvfr_u e763_ f605_ rfl
                refine pw_blk hT 1 (S' := (16, [some (pvR 124), some (pvI (M.1 124 4)), some (pvI (i2z590_ ||| 0)), some (pvI i3z733_), some (pvI i4z733_)], [], M762_)) rfl ⟨trivial, trivial⟩ ?_
                have j766_ : yFr0 M M762_ (i2z590_ ||| 0) (M762_.1 124 4) := (yFr0_s j0z590_ d599_ (fun w => g604_ 143 w rfl) j0z733_ (by have u := b598_; omega) (Or.inr ⟨c757_, rfl⟩) e763_ rfl)
                exact ihz590_ (i2z590_ ||| 0) (some (pvI i3z733_)) (some (pvI i4z733_)) M762_ o764_ f765_ j766_ (zhid (by have hm0 := zshow hmz590_; have z1 : Int32.toInt (M762_.1 124 4) = Int32.toInt ((M601_.1 124 4) + 1) := congrArg Int32.toInt (pvu_s e763_); have z2 : Int32.toInt (M601_.1 124 4) = Int32.toInt (Mz590_.1 124 4) := congrArg Int32.toInt (g604_ 124 4 rfl); omega))
              · have b767_ : 1 ≤ Int32.toInt i3z733_ ∧ Int32.toInt i3z733_ ≤ 1 := (by have u0 := h3z733_; have u1 := (not_congr (zi_eq _ _)).mp c757_; have u2 := (show 0 ≤ Int32.toInt 0 ∧ Int32.toInt 0 ≤ 0 from (by decide)); omega)
                have b768_ : 0 ≤ Int32.toInt (M601_.1 147 (Int32.toNatClampNeg i4z733_)) ∧ Int32.toInt (M601_.1 147 (Int32.toNatClampNeg i4z733_)) ≤ 6 := pvok_r o603_ 147 (Int32.toNatClampNeg i4z733_) rfl
                refine pw_blk hT 5 (S' := (54, [some (pvR 124), some (pvI (M.1 124 4)), some (pvI i2z590_), some (pvI i3z733_), some (pvI i4z733_)], [pvI (M601_.1 147 (Int32.toNatClampNeg i4z733_)), pvR 124], M601_)) rfl ⟨trivial, trivial, rfl, trivial, ⟨rfl, (zr_in (n := 6) b755_ (by decide) (by decide))⟩, trivial⟩ ?_
                refine pw_callGp hT (as := [pvR 124, pvI (M601_.1 147 (Int32.toNatClampNeg i4z733_))]) (lo1 := [some (pvR 124), some (pvI (M601_.1 147 (Int32.toNatClampNeg i4z733_))), none, none]) (d1 := d) (rest := []) rfl rfl rfl rfl rfl (fun _ => rfl) (Nat.zero_le _) rfl rfl rfl (se_X10_harmOf_124_x M601_ o603_ (M601_.1 147 (Int32.toNatClampNeg i4z733_)) b768_ d) (fun x769_ b771_ => ?_)
                obtain ⟨b774_, d775_⟩ := b771_
                have b776_ : 0 ≤ Int32.toInt (M601_.1 148 (Int32.toNatClampNeg i4z733_)) ∧ Int32.toInt (M601_.1 148 (Int32.toNatClampNeg i4z733_)) ≤ 9999 := pvok_r o603_ 148 (Int32.toNatClampNeg i4z733_) rfl
                refine pw_blk hT 4 (S' := (64, [some (pvR 124), some (pvI (M.1 124 4)), some (pvI i2z590_), some (pvI i3z733_), some (pvI i4z733_)], [pvI (M601_.1 148 (Int32.toNatClampNeg i4z733_)), pvI x769_], M601_)) rfl ⟨trivial, rfl, trivial, ⟨rfl, (zr_in (n := 6) b755_ (by decide) (by decide))⟩, trivial⟩ ?_
                refine pw_icn hT (c := x769_ = (M601_.1 148 (Int32.toNatClampNeg i4z733_))) rfl rfl (fun c777_ => ?_) (fun c777_ => ?_)
                · obtain ⟨q779_, b778_⟩ : (Int32.toInt (i4z733_ + 1) = Int32.toInt i4z733_ + 1) ∧ (1 ≤ Int32.toInt (i4z733_ + 1) ∧ Int32.toInt (i4z733_ + 1) ≤ 6) := zadd_k i4z733_ 1 1 1 6 b755_ (by decide) (by decide) (by decide) (by decide) (by decide)
                  refine pw_blk hT 4 (S' := (33, [some (pvR 124), some (pvI (M.1 124 4)), some (pvI i2z590_), some (pvI 0), some (pvI (i4z733_ + 1))], [], M601_)) rfl ⟨trivial, trivial, trivial, trivial, trivial⟩ ?_
                  have u780_ : Int32.toInt 0 = 0 := by decide
                  have j781_ : yFr1 M (M601_.1 124 4) 0 (i4z733_ + 1) := (yFr1_s j0z590_ d599_ (fun w => g604_ 143 w rfl) j0z733_ (by have u := b755_; omega) c735_ c757_ d775_ (by omega) (Or.inr ⟨c777_, rfl⟩))
                  exact ihz733_ 0 (i4z733_ + 1) (zr_wide (show 0 ≤ Int32.toInt 0 ∧ Int32.toInt 0 ≤ 0 from (by decide)) (by decide) (by decide)) (zr_wide b778_ (by decide) (by decide)) j781_ (zhid (pvms_up (zshow hmz733_) h4z733_ q779_ (by decide) (by decide)))
                · have b782_ : 0 ≤ Int32.toInt x769_ ∧ Int32.toInt x769_ ≤ 9999 := (by have u0 := b774_; have u1 := (zi_eq _ _).mp c777_; have u2 := b776_; omega)
                  have d783_ : Int32.toInt x769_ = Int32.toInt (M601_.1 148 (Int32.toNatClampNeg i4z733_)) := (zi_eq _ _).mp c777_
                  obtain ⟨q785_, b784_⟩ : (Int32.toInt (i4z733_ + 1) = Int32.toInt i4z733_ + 1) ∧ (1 ≤ Int32.toInt (i4z733_ + 1) ∧ Int32.toInt (i4z733_ + 1) ≤ 6) := zadd_k i4z733_ 1 1 1 6 b755_ (by decide) (by decide) (by decide) (by decide) (by decide)
                  refine pw_blk hT 5 (S' := (33, [some (pvR 124), some (pvI (M.1 124 4)), some (pvI i2z590_), some (pvI 1), some (pvI (i4z733_ + 1))], [], M601_)) rfl ⟨trivial, trivial, trivial, trivial, trivial, trivial⟩ ?_
                  have u786_ : Int32.toInt 1 = 1 := by decide
                  have j787_ : yFr1 M (M601_.1 124 4) 1 (i4z733_ + 1) := (yFr1_s j0z590_ d599_ (fun w => g604_ 143 w rfl) j0z733_ (by have u := b755_; omega) c735_ c757_ d775_ (by omega) (Or.inl ⟨c777_, by decide⟩))
                  exact ihz733_ 1 (i4z733_ + 1) (zr_wide (show 1 ≤ Int32.toInt 1 ∧ Int32.toInt 1 ≤ 1 from (by decide)) (by decide) (by decide)) (zr_wide b784_ (by decide) (by decide)) j787_ (zhid (pvms_up (zshow hmz733_) h4z733_ q785_ (by decide) (by decide)))
        have u788_ : Int32.toInt 1 = 1 := by decide
        have u789_ : Int32.toInt 0 = 0 := by decide
        have j790_ : yFr1 M (M601_.1 124 4) 1 0 := (yFr1_0 hok (by decide) (by decide))
        exact hlz733_ _ 1 0 (zr_wide (show 1 ≤ Int32.toInt 1 ∧ Int32.toInt 1 ≤ 1 from (by decide)) (by decide) (by decide)) (zr_wide (show 0 ≤ Int32.toInt 0 ∧ Int32.toInt 0 ≤ 0 from (by decide)) (by decide) (by decide)) j790_ (zhid (Nat.lt_succ_self _))
  have u791_ : Int32.toInt 0 = 0 := by decide
  have j792_ : yFr0 M M9_ 0 (M9_.1 124 4) := (yFr0_0 d2_ e10_ (by decide) rfl)
  exact hlz590_ _ 0 none none M9_ o11_ f12_ j792_ (zhid (Nat.lt_succ_self _))
def fpL_eX10_goMinutes_124_x : List (Nat × Nat × Nat) := [(0, 124, 2), (0, 124, 3), (0, 124, 33), (0, 141, 0), (0, 142, 0), (0, 143, 0)]
def fp_eX10_goMinutes_124_x (q k : Nat) : Bool := pvfp fpL_eX10_goMinutes_124_x q k
theorem fp_eX10_goMinutes_124_x_fp_eX10_layOpen_124 (a b : Nat) (h : fp_eX10_layOpen_124 a b = true) : fp_eX10_goMinutes_124_x a b = true := pvfp_sub (l1 := fpL_eX10_layOpen_124) (l2 := fpL_eX10_goMinutes_124_x) (by decide) a b h
theorem fp_eX10_goMinutes_124_x_fp_eX10_layRain_124 (a b : Nat) (h : fp_eX10_layRain_124 a b = true) : fp_eX10_goMinutes_124_x a b = true := pvfp_sub (l1 := fpL_eX10_layRain_124) (l2 := fpL_eX10_goMinutes_124_x) (by decide) a b h
set_option maxHeartbeats 4000000 in
set_option maxRecDepth 10000 in
theorem se_X10_goMinutes_124_x (M : pvM) (hok : pvOk M) (n1 : Int32) (hn1 : 0 ≤ Int32.toInt n1 ∧ Int32.toInt n1 ≤ 9999) (hz : pvWF M) (hx0 : Int32.toInt (M.1 124 1) + Int32.toInt n1 ≤ 9999) (d : Nat) : PW 23 d (0, [some (pvR 124), some (pvI n1), none], [], M) (fun r X => (∃ x : Int32, r = some (pvI x) ∧ 0 ≤ Int32.toInt x ∧ Int32.toInt x ≤ 9000000) ∧ pvOk X ∧ pvFr fp_eX10_goMinutes_124_x M X ∧ yPx0 n1 M X ∧ X.1 124 1 = ((M.1 124 1) + n1)) := by
  have hT : pvdom 23 = pvD_23 := rfl
  have b1_ : 0 ≤ Int32.toInt (M.1 124 1) ∧ Int32.toInt (M.1 124 1) ≤ 9999 := pvok_r hok 124 1 rfl
  refine pw_blk hT 1 (S' := (1, [some (pvR 124), some (pvI n1), none], [pvR 124], M)) rfl ⟨trivial, trivial⟩ ?_
  refine pw_callVd hT (as := [pvR 124]) (lo1 := [some (pvR 124), none, none]) (d1 := d) (rest := []) rfl rfl rfl rfl rfl (fun _ => rfl) (Nat.zero_le _) rfl rfl rfl (se_X10_layRain_124 M hok hz d) (fun M4_ o6_ g7_ d2_ => ?_)
  have f8_ : pvFr fp_eX10_goMinutes_124_x M M4_ := pvfr_t g7_ pvfr_0 fp_eX10_goMinutes_124_x_fp_eX10_layRain_124
  refine pw_blk hT 1 (S' := (5, [some (pvR 124), some (pvI n1), none], [pvR 124], M4_)) rfl ⟨trivial, trivial⟩ ?_
  refine pw_callVd hT (as := [pvR 124]) (lo1 := [some (pvR 124), none]) (d1 := d) (rest := []) rfl rfl rfl rfl rfl (fun _ => rfl) (Nat.zero_le _) rfl rfl rfl (se_X10_layOpen_124 M4_ o6_ d) (fun M11_ o13_ g14_ d9_ => ?_)
  have f15_ : pvFr fp_eX10_goMinutes_124_x M M11_ := pvfr_t g14_ f8_ fp_eX10_goMinutes_124_x_fp_eX10_layOpen_124
  have e16_ : (M11_.1 124 1) = (M.1 124 1) := ((g14_ 124 1 rfl).trans (g7_ 124 1 rfl))
  have b17_ : 0 ≤ Int32.toInt (M11_.1 124 1) ∧ Int32.toInt (M11_.1 124 1) ≤ 9999 := pvok_r o13_ 124 1 rfl
  have d18_ : Int32.toInt (M11_.1 124 1) = Int32.toInt (M.1 124 1) := congrArg Int32.toInt e16_
  obtain ⟨q20_, b19_⟩ : (Int32.toInt ((M11_.1 124 1) + n1) = Int32.toInt (M11_.1 124 1) + Int32.toInt n1) ∧ (0 ≤ Int32.toInt ((M11_.1 124 1) + n1) ∧ Int32.toInt ((M11_.1 124 1) + n1) ≤ 19998) := zadd_r (M11_.1 124 1) n1 0 19998 b17_ hn1 (by decide) (by decide) (by decide) (by decide)
  refine pw_blk hT 7 (S' := (19, [some (pvR 124), some (pvI n1), none], [pvI ((M11_.1 124 1) + n1), pvI (M11_.1 124 1), pvR 124], M11_)) rfl ⟨trivial, trivial, rfl, trivial, rfl, trivial, trivial, trivial⟩ ?_
  refine pw_callGp hT (as := [pvR 124, pvI (M11_.1 124 1), pvI ((M11_.1 124 1) + n1)]) (lo1 := [some (pvR 124), some (pvI (M11_.1 124 1)), some (pvI ((M11_.1 124 1) + n1)), none, none]) (d1 := d) (rest := []) rfl rfl rfl rfl rfl (fun _ => rfl) (Nat.zero_le _) rfl rfl rfl (se_X10_harmFrom_124_x_x M11_ o13_ (M11_.1 124 1) ((M11_.1 124 1) + n1) (zr_wide b17_ (by decide) (by decide)) (zr_wide b19_ (by decide) (by decide)) d) (fun x21_ b23_ => ?_)
  obtain ⟨b26_, d27_⟩ := b23_
  have b28_ : 0 ≤ Int32.toInt (M11_.1 124 2) ∧ Int32.toInt (M11_.1 124 2) ≤ 999999 := pvok_r o13_ 124 2 rfl
  obtain ⟨q30_, b29_⟩ : (Int32.toInt ((M11_.1 124 2) + x21_) = Int32.toInt (M11_.1 124 2) + Int32.toInt x21_) ∧ (0 ≤ Int32.toInt ((M11_.1 124 2) + x21_) ∧ Int32.toInt ((M11_.1 124 2) + x21_) ≤ 9999999) := zadd_r (M11_.1 124 2) x21_ 0 9999999 b28_ b26_ (by decide) (by decide) (by decide) (by decide)
  refine pw_blk hT 7 (S' := (33, [some (pvR 124), some (pvI n1), some (pvI x21_)], [pvI 999999, pvI ((M11_.1 124 2) + x21_), pvR 124], M11_)) rfl ⟨trivial, trivial, trivial, rfl, trivial, trivial, trivial, trivial⟩ ?_
  refine pw_ic hT (c := ((M11_.1 124 2) + x21_) ≤ 999999) rfl rfl (fun c31_ => ?_) (fun c31_ => ?_)
  · have b32_ : 0 ≤ Int32.toInt ((M11_.1 124 2) + x21_) ∧ Int32.toInt ((M11_.1 124 2) + x21_) ≤ 999999 := zr_le_l 999999 c31_ b29_ (show 999999 ≤ Int32.toInt 999999 ∧ Int32.toInt 999999 ≤ 999999 from (by decide)) (by decide)
    refine pw_blkw hT 5 (pc := 51) (lo := [some (pvR 124), some (pvI n1), some (pvI x21_)]) (st := []) (M := pvu M11_ 124 2 ((M11_.1 124 2) + x21_)) rfl ⟨trivial, rfl, trivial, trivial, rfl, trivial⟩ (fun M33_ e34_ => ?_)
    have o35_ : pvOk M33_ := pvok_u2 e34_ o13_ rfl b32_
    have f36_ : pvFr fp_eX10_goMinutes_124_x M M33_ := pvfr_u e34_ f15_ rfl
    have e37_ : (M33_.1 124 1) = (M11_.1 124 1) := (pvu_n e34_ 124 1 (Or.inr (by decide)))
    have b38_ : 0 ≤ Int32.toInt (M33_.1 124 1) ∧ Int32.toInt (M33_.1 124 1) ≤ 9999 := pvok_r o35_ 124 1 rfl
    have d39_ : Int32.toInt (M33_.1 124 1) = Int32.toInt (M11_.1 124 1) := congrArg Int32.toInt e37_
    obtain ⟨q41_, b40_⟩ : (Int32.toInt ((M33_.1 124 1) + n1) = Int32.toInt (M33_.1 124 1) + Int32.toInt n1) ∧ (0 ≤ Int32.toInt ((M33_.1 124 1) + n1) ∧ Int32.toInt ((M33_.1 124 1) + n1) ≤ 19998) := zadd_r (M33_.1 124 1) n1 0 19998 b38_ hn1 (by decide) (by decide) (by decide) (by decide)
    refine pw_blkw hT 6 (pc := 61) (lo := [some (pvR 124), some (pvI n1), some (pvI x21_)]) (st := []) (M := pvu M33_ 124 1 ((M33_.1 124 1) + n1)) rfl ⟨trivial, trivial, rfl, trivial, trivial, rfl, trivial⟩ (fun M42_ e43_ => ?_)
    have o44_ : pvOk M42_ := pvok_u2 e43_ o35_ rfl (by have u0 := b40_; omega)
    have f45_ : pvFr fp_eX10_goMinutes_124_x M M42_ := pvfr_u e43_ f36_ rfl
    refine pw_blk hT 1 (S' := (62, [some (pvR 124), some (pvI n1), some (pvI x21_)], [pvI x21_], M42_)) rfl ⟨trivial, trivial⟩ ?_
    exact pw_ret hT rfl (r := some (pvI x21_)) (M' := M42_) ⟨rfl, rfl⟩ ⟨⟨_, rfl, b26_⟩, o44_, f45_, (yPx0_i hok hn1 d2_ d9_ d27_ rfl e34_ (by have u9 : Int32.toInt 999999 = 999999 := (by decide); omega) e43_), ((pvu_s e43_).trans (show ((M33_.1 124 1) + n1) = ((M.1 124 1) + n1) from by rw [(((pvu_n e34_ 124 1 (Or.inr (by decide))).trans (g14_ 124 1 rfl)).trans (g7_ 124 1 rfl))]))⟩
  · have b46_ : 1000000 ≤ Int32.toInt ((M11_.1 124 2) + x21_) ∧ Int32.toInt ((M11_.1 124 2) + x21_) ≤ 9999999 := zr_nle_l 1000000 c31_ b29_ (show 999999 ≤ Int32.toInt 999999 ∧ Int32.toInt 999999 ≤ 999999 from (by decide)) (by decide)
    refine pw_blkw hT 3 (pc := 51) (lo := [some (pvR 124), some (pvI n1), some (pvI x21_)]) (st := []) (M := pvu M11_ 124 2 999999) rfl ⟨trivial, trivial, rfl, trivial⟩ (fun M47_ e48_ => ?_)
    have o49_ : pvOk M47_ := pvok_u2 e48_ o13_ rfl (zr_wide (show 999999 ≤ Int32.toInt 999999 ∧ Int32.toInt 999999 ≤ 999999 from (by decide)) (by decide) (by decide))
    have f50_ : pvFr fp_eX10_goMinutes_124_x M M47_ := pvfr_u e48_ f15_ rfl
    have e51_ : (M47_.1 124 1) = (M11_.1 124 1) := (pvu_n e48_ 124 1 (Or.inr (by decide)))
    have b52_ : 0 ≤ Int32.toInt (M47_.1 124 1) ∧ Int32.toInt (M47_.1 124 1) ≤ 9999 := pvok_r o49_ 124 1 rfl
    have d53_ : Int32.toInt (M47_.1 124 1) = Int32.toInt (M11_.1 124 1) := congrArg Int32.toInt e51_
    obtain ⟨q55_, b54_⟩ : (Int32.toInt ((M47_.1 124 1) + n1) = Int32.toInt (M47_.1 124 1) + Int32.toInt n1) ∧ (0 ≤ Int32.toInt ((M47_.1 124 1) + n1) ∧ Int32.toInt ((M47_.1 124 1) + n1) ≤ 19998) := zadd_r (M47_.1 124 1) n1 0 19998 b52_ hn1 (by decide) (by decide) (by decide) (by decide)
    refine pw_blkw hT 6 (pc := 61) (lo := [some (pvR 124), some (pvI n1), some (pvI x21_)]) (st := []) (M := pvu M47_ 124 1 ((M47_.1 124 1) + n1)) rfl ⟨trivial, trivial, rfl, trivial, trivial, rfl, trivial⟩ (fun M56_ e57_ => ?_)
    have o58_ : pvOk M56_ := pvok_u2 e57_ o49_ rfl (by have u0 := b54_; omega)
    have f59_ : pvFr fp_eX10_goMinutes_124_x M M56_ := pvfr_u e57_ f50_ rfl
    refine pw_blk hT 1 (S' := (62, [some (pvR 124), some (pvI n1), some (pvI x21_)], [pvI x21_], M56_)) rfl ⟨trivial, trivial⟩ ?_
    exact pw_ret hT rfl (r := some (pvI x21_)) (M' := M56_) ⟨rfl, rfl⟩ ⟨⟨_, rfl, b26_⟩, o58_, f59_, (yPx0_i hok hn1 d2_ d9_ d27_ rfl e48_ (by have u9 : Int32.toInt 999999 = 999999 := (by decide); omega) e57_), ((pvu_s e57_).trans (show ((M47_.1 124 1) + n1) = ((M.1 124 1) + n1) from by rw [(((pvu_n e48_ 124 1 (Or.inr (by decide))).trans (g14_ 124 1 rfl)).trans (g7_ 124 1 rfl))]))⟩
def fpL_eX10_takes_124_x : List (Nat × Nat × Nat) := [(0, 124, 18)]
def fp_eX10_takes_124_x (q k : Nat) : Bool := pvfp fpL_eX10_takes_124_x q k
set_option maxHeartbeats 4000000 in
set_option maxRecDepth 10000 in
theorem se_X10_takes_124_x (M : pvM) (hok : pvOk M) (n1 : Int32) (hn1 : 0 ≤ Int32.toInt n1 ∧ Int32.toInt n1 ≤ 127) (d : Nat) : PW 82 d (0, [some (pvR 124), some (pvI n1)], [], M) (fun r X => (∃ x : Int32, r = some (pvI x) ∧ 0 ≤ Int32.toInt x ∧ Int32.toInt x ≤ 1) ∧ pvOk X ∧ pvFr fp_eX10_takes_124_x M X ∧ Int32.toInt (M.1 124 17) ≤ Int32.toInt (X.1 124 17) ∧ zQb (zTsg n1) r M X) := by
  have hT : pvdom 82 = pvD_82 := rfl
  refine pw_blk hT 1 (S' := (1, [some (pvR 124), some (pvI n1)], [pvR 124], M)) rfl ⟨trivial, trivial⟩ ?_
  refine pw_callT hT (as := [pvR 124]) (lo1 := [some (pvR 124)]) (d1 := d) (rest := []) rfl rfl rfl rfl rfl (fun _ => rfl) (Nat.zero_le _) rfl rfl rfl (sf_X10_peek_124 M hok d) ?_
  have b6_ : 0 ≤ Int32.toInt (M.1 124 16) ∧ Int32.toInt (M.1 124 16) ≤ 100 := pvok_r hok 124 16 rfl
  have b7_ : 0 ≤ Int32.toInt (M.1 124 17) ∧ Int32.toInt (M.1 124 17) ≤ 100 := pvok_r hok 124 17 rfl
  by_cases c8_ : (M.1 124 16) ≤ (M.1 124 17)
  · refine pw_eqI (if_pos c8_) ?_
    have d9_ : Int32.toInt (M.1 124 16) ≤ Int32.toInt (M.1 124 17) := (zi_le _ _).mp c8_
    show PW 82 d (4, [some (pvR 124), some (pvI n1)], [pvI (-1)], M) _
    refine pw_blk hT 1 (S' := (5, [some (pvR 124), some (pvI n1)], [pvI n1, pvI (-1)], M)) rfl ⟨trivial, trivial⟩ ?_
    refine pw_ic hT (c := (-1) = n1) rfl rfl (fun c10_ => absurd c10_ (by have z0 := (show (-1) ≤ Int32.toInt (-1) ∧ Int32.toInt (-1) ≤ (-1) from (by decide)); have z1 := hn1; rw [zi_eq]; omega)) (fun c10_ => ?_)
    refine pw_blk hT 1 (S' := (9, [some (pvR 124), some (pvI n1)], [pvI 0], M)) rfl ⟨trivial, trivial⟩ ?_
    exact pw_ret hT rfl (r := some (pvI 0)) (M' := M) ⟨Or.inl rfl, rfl, rfl⟩ ⟨⟨_, rfl, (zr_wide (show 0 ≤ Int32.toInt 0 ∧ Int32.toInt 0 ≤ 0 from (by decide)) (by decide) (by decide))⟩, hok, pvfr_0, (by omega), (zQs_e hok hn1 c8_)⟩
  · refine pw_eqI (if_neg c8_) ?_
    have b11_ : 1 ≤ Int32.toInt (M.1 124 16) ∧ Int32.toInt (M.1 124 16) ≤ 100 := zr_nle_l 1 c8_ b6_ b7_ (by decide)
    have b12_ : 0 ≤ Int32.toInt (M.1 124 17) ∧ Int32.toInt (M.1 124 17) ≤ 99 := zr_nle_r 99 c8_ b7_ b11_ (by decide)
    have d13_ : Int32.toInt (M.1 124 16) > Int32.toInt (M.1 124 17) := Int.not_le.mp ((not_congr (zi_le _ _)).mp c8_)
    have b14_ : 0 ≤ Int32.toInt (M.1 132 (Int32.toNatClampNeg (M.1 124 17))) ∧ Int32.toInt (M.1 132 (Int32.toNatClampNeg (M.1 124 17))) ≤ 127 := pvok_r hok 132 (Int32.toNatClampNeg (M.1 124 17)) rfl
    show PW 82 d (4, [some (pvR 124), some (pvI n1)], [pvI (M.1 132 (Int32.toNatClampNeg (M.1 124 17)))], M) _
    refine pw_blk hT 1 (S' := (5, [some (pvR 124), some (pvI n1)], [pvI n1, pvI (M.1 132 (Int32.toNatClampNeg (M.1 124 17)))], M)) rfl ⟨trivial, trivial⟩ ?_
    refine pw_ic hT (c := (M.1 132 (Int32.toNatClampNeg (M.1 124 17))) = n1) rfl rfl (fun c15_ => ?_) (fun c15_ => ?_)
    · have d16_ : Int32.toInt (M.1 132 (Int32.toNatClampNeg (M.1 124 17))) = Int32.toInt n1 := (zi_eq _ _).mp c15_
      obtain ⟨q18_, b17_⟩ : (Int32.toInt ((M.1 124 17) + 1) = Int32.toInt (M.1 124 17) + 1) ∧ (1 ≤ Int32.toInt ((M.1 124 17) + 1) ∧ Int32.toInt ((M.1 124 17) + 1) ≤ 100) := zadd_k (M.1 124 17) 1 1 1 100 b12_ (by decide) (by decide) (by decide) (by decide) (by decide)
      refine pw_blkw hT 6 (pc := 20) (lo := [some (pvR 124), some (pvI n1)]) (st := []) (M := pvu M 124 17 ((M.1 124 17) + 1)) rfl ⟨trivial, trivial, rfl, trivial, trivial, rfl, trivial⟩ (fun M19_ e20_ => ?_)
      have o21_ : pvOk M19_ := pvok_u2 e20_ hok rfl (zr_wide b17_ (by decide) (by decide))
      have f22_ : pvFr fp_eX10_takes_124_x M M19_ := pvfr_u e20_ pvfr_0 rfl
      refine pw_blk hT 1 (S' := (21, [some (pvR 124), some (pvI n1)], [pvI 1], M19_)) rfl ⟨trivial, trivial⟩ ?_
      exact pw_ret hT rfl (r := some (pvI 1)) (M' := M19_) ⟨Or.inr rfl, rfl, rfl⟩ ⟨⟨_, rfl, (zr_wide (show 1 ≤ Int32.toInt 1 ∧ Int32.toInt 1 ≤ 1 from (by decide)) (by decide) (by decide))⟩, o21_, f22_, (by have w0 : Int32.toInt (M19_.1 124 17) = Int32.toInt ((M.1 124 17) + 1) := congrArg Int32.toInt (pvu_s e20_); omega), (zQs_y hok c8_ c15_ e20_)⟩
    · refine pw_blk hT 1 (S' := (9, [some (pvR 124), some (pvI n1)], [pvI 0], M)) rfl ⟨trivial, trivial⟩ ?_
      exact pw_ret hT rfl (r := some (pvI 0)) (M' := M) ⟨Or.inl rfl, rfl, rfl⟩ ⟨⟨_, rfl, (zr_wide (show 0 ≤ Int32.toInt 0 ∧ Int32.toInt 0 ≤ 0 from (by decide)) (by decide) (by decide))⟩, hok, pvfr_0, (by omega), (zQs_n hok c8_ c15_)⟩
def fpL_eX10_takesWord_124_x_x : List (Nat × Nat × Nat) := [(0, 124, 18)]
def fp_eX10_takesWord_124_x_x (q k : Nat) : Bool := pvfp fpL_eX10_takesWord_124_x_x q k
theorem fp_eX10_takesWord_124_x_x_fp_eX10_takes_124_x (a b : Nat) (h : fp_eX10_takes_124_x a b = true) : fp_eX10_takesWord_124_x_x a b = true := pvfp_sub (l1 := fpL_eX10_takes_124_x) (l2 := fpL_eX10_takesWord_124_x_x) (by decide) a b h
set_option maxHeartbeats 4000000 in
set_option maxRecDepth 10000 in
theorem se_X10_takesWord_124_x_x (M : pvM) (hok : pvOk M) (n1 : Int32) (n2 : Int32) (hn1 : 0 ≤ Int32.toInt n1 ∧ Int32.toInt n1 ≤ 11) (hn2 : 0 ≤ Int32.toInt n2 ∧ Int32.toInt n2 ≤ 5) (hx0 : Int32.toInt n1 + Int32.toInt n2 ≤ 15) (d : Nat) : PW 88 d (0, [some (pvR 124), some (pvI n1), some (pvI n2), none], [], M) (fun r X => (∃ x : Int32, r = some (pvI x) ∧ 0 ≤ Int32.toInt x ∧ Int32.toInt x ≤ 1) ∧ pvOk X ∧ pvFr fp_eX10_takesWord_124_x_x M X ∧ Int32.toInt (M.1 124 17) ≤ Int32.toInt (X.1 124 17) ∧ zQb (zTw (zwl M (Int32.toNatClampNeg n1) (Int32.toNatClampNeg n2))) r M X) := by
  have hT : pvdom 88 = pvD_88 := rfl
  refine pw_blk hT 2 (S' := (2, [some (pvR 124), some (pvI n1), some (pvI n2), some (pvI 0)], [], M)) rfl ⟨trivial, trivial, trivial⟩ ?_
  have hlz113_ : ∀ (nz113_ : Nat) (i3z113_ : Int32) (Mz113_ : pvM), (pvOk Mz113_) → (pvFr fp_eX10_takesWord_124_x_x M Mz113_) → (0 ≤ Int32.toInt i3z113_ ∧ Int32.toInt i3z113_ ≤ 5) → (Int32.toInt (M.1 124 17) ≤ Int32.toInt (Mz113_.1 124 17)) → (Int32.toInt i3z113_ ≤ Int32.toInt n2) → (zLv (zwl M (Int32.toNatClampNeg n1) (Int32.toNatClampNeg n2)) (Int32.toNatClampNeg i3z113_) M Mz113_) → (zhide ((6 - Int32.toInt i3z113_).toNat < nz113_)) → PW 88 d (2, [some (pvR 124), some (pvI n1), some (pvI n2), some (pvI i3z113_)], [], Mz113_) (fun r X => (∃ x : Int32, r = some (pvI x) ∧ 0 ≤ Int32.toInt x ∧ Int32.toInt x ≤ 1) ∧ pvOk X ∧ pvFr fp_eX10_takesWord_124_x_x M X ∧ Int32.toInt (M.1 124 17) ≤ Int32.toInt (X.1 124 17) ∧ zQb (zTw (zwl M (Int32.toNatClampNeg n1) (Int32.toNatClampNeg n2))) r M X) := by
    intro nz113_
    induction nz113_ with
    | zero => intro i3z113_ Mz113_ oz113_ fz113_ h3z113_ j0z113_ j1z113_ j2z113_ hmz113_; exact absurd (zshow hmz113_) (Nat.not_lt_zero _)
    | succ nz113_ ihz113_ =>
      intro i3z113_ Mz113_ oz113_ fz113_ h3z113_ j0z113_ j1z113_ j2z113_ hmz113_
      refine pw_blk hT 2 (S' := (4, [some (pvR 124), some (pvI n1), some (pvI n2), some (pvI i3z113_)], [pvI n2, pvI i3z113_], Mz113_)) rfl ⟨trivial, trivial, trivial⟩ ?_
      refine pw_ic hT (c := n2 ≤ i3z113_) rfl rfl (fun c114_ => ?_) (fun c114_ => ?_)
      · have d115_ : Int32.toInt n2 ≤ Int32.toInt i3z113_ := (zi_le _ _).mp c114_
        refine pw_blk hT 2 (S' := (33, [some (pvR 124), some (pvI n1), some (pvI n2), some (pvI i3z113_)], [pvI 32, pvR 124], Mz113_)) rfl ⟨trivial, trivial, trivial⟩ ?_
        refine pw_callGd hT (as := [pvR 124, pvI 32]) (lo1 := [some (pvR 124), some (pvI 32)]) (d1 := d) (rest := []) rfl rfl rfl rfl rfl (fun _ => rfl) (Nat.zero_le _) rfl rfl rfl (se_X10_takes_124_x Mz113_ oz113_ 32 (zr_wide (show 32 ≤ Int32.toInt 32 ∧ Int32.toInt 32 ≤ 32 from (by decide)) (by decide) (by decide)) d) (fun x117_ M118_ b119_ o120_ g121_ d116_ => ?_)
        have f122_ : pvFr fp_eX10_takesWord_124_x_x M M118_ := pvfr_t g121_ fz113_ fp_eX10_takesWord_124_x_x_fp_eX10_takes_124_x
        exact pw_ret hT rfl (r := some (pvI x117_)) (M' := M118_) ⟨pv01 b119_, rfl, rfl⟩ ⟨⟨_, rfl, b119_⟩, o120_, f122_, (by have j9 := j0z113_; omega), (zLv_e j2z113_ (by rw [zwl_l, (show Int32.toNatClampNeg n2 = Int32.toNatClampNeg i3z113_ from (show (Int32.toInt n2).toNat = (Int32.toInt i3z113_).toNat from by have v := (not_congr (zi_lt _ _)).mp (zi_nlt c114_); have w := j1z113_; omega))]) (by rw [← (show Int32.toNatClampNeg n2 = Int32.toNatClampNeg i3z113_ from (show (Int32.toInt n2).toNat = (Int32.toInt i3z113_).toNat from by have v := (not_congr (zi_lt _ _)).mp (zi_nlt c114_); have w := j1z113_; omega))]; exact zwl_n _ _ _) d116_.2 (pv01 b119_))⟩
      · have b123_ : 1 ≤ Int32.toInt n2 ∧ Int32.toInt n2 ≤ 5 := zr_nle_l 1 c114_ hn2 h3z113_ (by decide)
        have b124_ : 0 ≤ Int32.toInt i3z113_ ∧ Int32.toInt i3z113_ ≤ 4 := zr_nle_r 4 c114_ h3z113_ b123_ (by decide)
        have d125_ : Int32.toInt n2 > Int32.toInt i3z113_ := Int.not_le.mp ((not_congr (zi_le _ _)).mp c114_)
        obtain ⟨q127_, b126_⟩ : (Int32.toInt (n1 + i3z113_) = Int32.toInt n1 + Int32.toInt i3z113_) ∧ (0 ≤ Int32.toInt (n1 + i3z113_) ∧ Int32.toInt (n1 + i3z113_) ≤ 15) := zadd_r n1 i3z113_ 0 15 hn1 b124_ (by decide) (by decide) (by decide) (by decide)
        have b128_ : 0 ≤ Int32.toInt (Mz113_.1 140 (Int32.toNatClampNeg (n1 + i3z113_))) ∧ Int32.toInt (Mz113_.1 140 (Int32.toNatClampNeg (n1 + i3z113_))) ≤ 127 := pvok_r oz113_ 140 (Int32.toNatClampNeg (n1 + i3z113_)) rfl
        refine pw_blk hT 7 (S' := (16, [some (pvR 124), some (pvI n1), some (pvI n2), some (pvI i3z113_)], [pvI (Mz113_.1 140 (Int32.toNatClampNeg (n1 + i3z113_))), pvR 124], Mz113_)) rfl ⟨trivial, trivial, rfl, trivial, trivial, trivial, ⟨rfl, (vp_in_iff.mpr (show 0 ≤ Int32.toInt (n1 + i3z113_) ∧ Int32.toInt (n1 + i3z113_) < ((15 : Nat) : Int) from (by have u0 := b126_; omega)))⟩, trivial⟩ ?_
        refine pw_callGd hT (as := [pvR 124, pvI (Mz113_.1 140 (Int32.toNatClampNeg (n1 + i3z113_)))]) (lo1 := [some (pvR 124), some (pvI (Mz113_.1 140 (Int32.toNatClampNeg (n1 + i3z113_))))]) (d1 := d) (rest := []) rfl rfl rfl rfl rfl (fun _ => rfl) (Nat.zero_le _) rfl rfl rfl (se_X10_takes_124_x Mz113_ oz113_ (Mz113_.1 140 (Int32.toNatClampNeg (n1 + i3z113_))) b128_ d) (fun x130_ M131_ b132_ o133_ g134_ d129_ => ?_)
        have f135_ : pvFr fp_eX10_takesWord_124_x_x M M131_ := pvfr_t g134_ fz113_ fp_eX10_takesWord_124_x_x_fp_eX10_takes_124_x
        refine pw_ifn hT (c := x130_ = 0) rfl rfl (fun c136_ => ?_) (fun c136_ => ?_)
        · have b137_ : 1 ≤ Int32.toInt x130_ ∧ Int32.toInt x130_ ≤ 1 := (by have u0 := b132_; have u1 := (not_congr (zi_eq _ _)).mp c136_; have u2 := (show 0 ≤ Int32.toInt 0 ∧ Int32.toInt 0 ≤ 0 from (by decide)); omega)
          obtain ⟨q139_, b138_⟩ : (Int32.toInt (i3z113_ + 1) = Int32.toInt i3z113_ + 1) ∧ (1 ≤ Int32.toInt (i3z113_ + 1) ∧ Int32.toInt (i3z113_ + 1) ≤ 5) := zadd_k i3z113_ 1 1 1 5 b124_ (by decide) (by decide) (by decide) (by decide) (by decide)
          refine pw_blk hT 2 (S' := (2, [some (pvR 124), some (pvI n1), some (pvI n2), some (pvI (i3z113_ + 1))], [], M131_)) rfl ⟨trivial, trivial, trivial⟩ ?_
          have j140_ : Int32.toInt (M.1 124 17) ≤ Int32.toInt (M131_.1 124 17) := (by have j9 := j0z113_; omega)
          have j141_ : Int32.toInt (i3z113_ + 1) ≤ Int32.toInt n2 := by omega
          have j142_ : zLv (zwl M (Int32.toNatClampNeg n1) (Int32.toNatClampNeg n2)) (Int32.toNatClampNeg (i3z113_ + 1)) M M131_ := (zLv_n (znp1 b124_ (by decide) (by decide)) (zLv_s j2z113_ (by rw [zwl_l]; have z := (show (Int32.toInt i3z113_).toNat < (Int32.toInt n2).toNat from by have u := b124_; have v := (zi_lt _ _).mp (zi_nle c114_); omega); have z1 : Int32.toNatClampNeg i3z113_ = (Int32.toInt i3z113_).toNat := rfl; have z2 : Int32.toNatClampNeg n2 = (Int32.toInt n2).toNat := rfl; omega) ((zwl_i (show (Int32.toInt i3z113_).toNat < (Int32.toInt n2).toNat from by have u := b124_; have v := (zi_lt _ _).mp (zi_nle c114_); omega)).trans (show M.1 140 (Int32.toNatClampNeg n1 + Int32.toNatClampNeg i3z113_) = Mz113_.1 140 (Int32.toNatClampNeg (n1 + i3z113_)) from by rw [zta (by have u := hn1; omega) (by have u := b124_; omega), (pvfr_row (L := fpL_eX10_takesWord_124_x_x) fz113_ rfl)])) d129_.2 c136_))
          exact ihz113_ (i3z113_ + 1) M131_ o133_ f135_ (zr_wide b138_ (by decide) (by decide)) j140_ j141_ j142_ (zhid (pvms_up (zshow hmz113_) h3z113_ q139_ (by decide) (by decide)))
        · have b143_ : 0 ≤ Int32.toInt x130_ ∧ Int32.toInt x130_ ≤ 0 := (by have u0 := b132_; have u1 := (zi_eq _ _).mp c136_; have u2 := (show 0 ≤ Int32.toInt 0 ∧ Int32.toInt 0 ≤ 0 from (by decide)); omega)
          refine pw_blk hT 1 (S' := (23, [some (pvR 124), some (pvI n1), some (pvI n2), some (pvI i3z113_)], [pvI 0], M131_)) rfl ⟨trivial, trivial⟩ ?_
          exact pw_ret hT rfl (r := some (pvI 0)) (M' := M131_) ⟨Or.inl rfl, rfl, rfl⟩ ⟨⟨_, rfl, (zr_wide (show 0 ≤ Int32.toInt 0 ∧ Int32.toInt 0 ≤ 0 from (by decide)) (by decide) (by decide))⟩, o133_, f135_, (by have j9 := j0z113_; omega), (zLv_f j2z113_ (by rw [zwl_l]; have z := (show (Int32.toInt i3z113_).toNat < (Int32.toInt n2).toNat from by have u := b124_; have v := (zi_lt _ _).mp (zi_nle c114_); omega); have z1 : Int32.toNatClampNeg i3z113_ = (Int32.toInt i3z113_).toNat := rfl; have z2 : Int32.toNatClampNeg n2 = (Int32.toInt n2).toNat := rfl; omega) ((zwl_i (show (Int32.toInt i3z113_).toNat < (Int32.toInt n2).toNat from by have u := b124_; have v := (zi_lt _ _).mp (zi_nle c114_); omega)).trans (show M.1 140 (Int32.toNatClampNeg n1 + Int32.toNatClampNeg i3z113_) = Mz113_.1 140 (Int32.toNatClampNeg (n1 + i3z113_)) from by rw [zta (by have u := hn1; omega) (by have u := b124_; omega), (pvfr_row (L := fpL_eX10_takesWord_124_x_x) fz113_ rfl)])) d129_.2 c136_)⟩
  have u144_ : Int32.toInt 0 = 0 := by decide
  have j145_ : Int32.toInt (M.1 124 17) ≤ Int32.toInt (M.1 124 17) := (Int.le_refl _)
  have j146_ : Int32.toInt 0 ≤ Int32.toInt n2 := by omega
  have j147_ : zLv (zwl M (Int32.toNatClampNeg n1) (Int32.toNatClampNeg n2)) (Int32.toNatClampNeg 0) M M := zLv_0
  exact hlz113_ _ 0 M hok pvfr_0 (zr_wide (show 0 ≤ Int32.toInt 0 ∧ Int32.toInt 0 ≤ 0 from (by decide)) (by decide) (by decide)) j145_ j146_ j147_ (zhid (Nat.lt_succ_self _))
def fpL_eX10_takesHead_124_x : List (Nat × Nat × Nat) := [(0, 124, 18), (0, 134, 0)]
def fp_eX10_takesHead_124_x (q k : Nat) : Bool := pvfp fpL_eX10_takesHead_124_x q k
theorem fp_eX10_takesHead_124_x_fp_eX10_takesWord_124_x_x (a b : Nat) (h : fp_eX10_takesWord_124_x_x a b = true) : fp_eX10_takesHead_124_x a b = true := pvfp_sub (l1 := fpL_eX10_takesWord_124_x_x) (l2 := fpL_eX10_takesHead_124_x) (by decide) a b h
set_option maxHeartbeats 4000000 in
set_option maxRecDepth 10000 in
theorem se_X10_takesHead_124_x (M : pvM) (hok : pvOk M) (n1 : Int32) (hn1 : 0 ≤ Int32.toInt n1 ∧ Int32.toInt n1 ≤ 59) (hl : zLet M) (d : Nat) : PW 85 d (0, [some (pvR 124), some (pvI n1)], [], M) (fun r X => (∃ x : Int32, r = some (pvI x) ∧ 0 ≤ Int32.toInt x ∧ Int32.toInt x ≤ 1) ∧ pvOk X ∧ pvFr fp_eX10_takesHead_124_x M X ∧ ((∀ k, k ≠ (Int32.toNatClampNeg n1) → X.1 134 k = M.1 134 k) ∧ Int32.toInt (M.1 124 17) ≤ Int32.toInt (X.1 124 17)) ∧ zQh (Int32.toNatClampNeg n1) r M X) := by
  have hT : pvdom 85 = pvD_85 := rfl
  refine pw_blk hT 1 (S' := (1, [some (pvR 124), some (pvI n1)], [pvR 124], M)) rfl ⟨trivial, trivial⟩ ?_
  refine pw_callT hT (as := [pvR 124]) (lo1 := [some (pvR 124)]) (d1 := d) (rest := []) rfl rfl rfl rfl rfl (fun _ => rfl) (Nat.zero_le _) rfl rfl rfl (sf_X10_peek_124 M hok d) ?_
  have b6_ : 0 ≤ Int32.toInt (M.1 124 16) ∧ Int32.toInt (M.1 124 16) ≤ 100 := pvok_r hok 124 16 rfl
  have b7_ : 0 ≤ Int32.toInt (M.1 124 17) ∧ Int32.toInt (M.1 124 17) ≤ 100 := pvok_r hok 124 17 rfl
  by_cases c8_ : (M.1 124 16) ≤ (M.1 124 17)
  · refine pw_eqI (if_pos c8_) ?_
    have d9_ : Int32.toInt (M.1 124 16) ≤ Int32.toInt (M.1 124 17) := (zi_le _ _).mp c8_
    show PW 85 d (4, [some (pvR 124), some (pvI n1)], [pvI (-1)], M) _
    refine pw_sw hT rfl rfl ?_
    refine And.intro (fun c10_ => absurd c10_ (by decide)) (fun c10_ => ?_)
    refine And.intro (fun c11_ => absurd c11_ (by decide)) (fun c11_ => ?_)
    refine And.intro (fun c12_ => absurd c12_ (by decide)) (fun c12_ => ?_)
    show PW 85 d (83, [some (pvR 124), some (pvI n1)], [], M) _
    refine pw_blkw hT 5 (pc := 90) (lo := [some (pvR 124), some (pvI n1)]) (st := []) (M := pvu M 134 (Int32.toNatClampNeg n1) 3) rfl ⟨trivial, rfl, trivial, trivial, ⟨rfl, (zr_in (n := 60) hn1 (by decide) (by decide))⟩, trivial⟩ (fun M13_ e14_ => ?_)
    have o15_ : pvOk M13_ := pvok_u2 e14_ hok rfl (zr_wide (show 3 ≤ Int32.toInt 3 ∧ Int32.toInt 3 ≤ 3 from (by decide)) (by decide) (by decide))
    have f16_ : pvFr fp_eX10_takesHead_124_x M M13_ := pvfr_u e14_ pvfr_0 rfl
    refine pw_blk hT 3 (S' := (94, [some (pvR 124), some (pvI n1)], [pvI 4, pvI 11, pvR 124], M13_)) rfl ⟨trivial, trivial, trivial, trivial⟩ ?_
    have u17_ : Int32.toInt 11 = 11 := by decide
    have u18_ : Int32.toInt 4 = 4 := by decide
    refine pw_callGd hT (as := [pvR 124, pvI 11, pvI 4]) (lo1 := [some (pvR 124), some (pvI 11), some (pvI 4), none]) (d1 := d) (rest := []) rfl rfl rfl rfl rfl (fun _ => rfl) (Nat.zero_le _) rfl rfl rfl (se_X10_takesWord_124_x_x M13_ o15_ 11 4 (zr_wide (show 11 ≤ Int32.toInt 11 ∧ Int32.toInt 11 ≤ 11 from (by decide)) (by decide) (by decide)) (zr_wide (show 4 ≤ Int32.toInt 4 ∧ Int32.toInt 4 ≤ 4 from (by decide)) (by decide) (by decide)) (show Int32.toInt 11 + Int32.toInt 4 ≤ 15 from (by omega)) d) (fun x20_ M21_ b22_ o23_ g24_ d19_ => ?_)
    have f25_ : pvFr fp_eX10_takesHead_124_x M M21_ := pvfr_t g24_ f16_ fp_eX10_takesHead_124_x_fp_eX10_takesWord_124_x_x
    exact pw_ret hT rfl (r := some (pvI x20_)) (M' := M21_) ⟨pv01 b22_, rfl, rfl⟩ ⟨⟨_, rfl, b22_⟩, o23_, f25_, ⟨fun k hk => (congrFun ((pvfr_row (L := fpL_eX10_takesWord_124_x_x) g24_ rfl)) k).trans ((pvu_n e14_ 134 k (Or.inr hk)).trans (congrFun (rfl) k)), by have w1 : Int32.toInt (M13_.1 124 17) = Int32.toInt (M.1 124 17) := congrArg Int32.toInt (pvu_n e14_ 124 17 (Or.inl (by decide))); omega⟩, (zQh_o (by rw [(zpk_e hok c8_)]; decide) (by rw [(zpk_e hok c8_)]; decide) (by rw [(zpk_e hok c8_)]; decide) e14_ d19_.2 (zwl_11 (zLet_r hl (pvu_row e14_ (by decide)))))⟩
  · refine pw_eqI (if_neg c8_) ?_
    have b26_ : 1 ≤ Int32.toInt (M.1 124 16) ∧ Int32.toInt (M.1 124 16) ≤ 100 := zr_nle_l 1 c8_ b6_ b7_ (by decide)
    have b27_ : 0 ≤ Int32.toInt (M.1 124 17) ∧ Int32.toInt (M.1 124 17) ≤ 99 := zr_nle_r 99 c8_ b7_ b26_ (by decide)
    have d28_ : Int32.toInt (M.1 124 16) > Int32.toInt (M.1 124 17) := Int.not_le.mp ((not_congr (zi_le _ _)).mp c8_)
    have b29_ : 0 ≤ Int32.toInt (M.1 132 (Int32.toNatClampNeg (M.1 124 17))) ∧ Int32.toInt (M.1 132 (Int32.toNatClampNeg (M.1 124 17))) ≤ 127 := pvok_r hok 132 (Int32.toNatClampNeg (M.1 124 17)) rfl
    show PW 85 d (4, [some (pvR 124), some (pvI n1)], [pvI (M.1 132 (Int32.toNatClampNeg (M.1 124 17)))], M) _
    refine pw_sw hT rfl rfl ?_
    refine And.intro (fun c30_ => ?_) (fun c30_ => ?_)
    · show PW 85 d (54, [some (pvR 124), some (pvI n1)], [], M) _
      have b31_ : 100 ≤ Int32.toInt (M.1 132 (Int32.toNatClampNeg (M.1 124 17))) ∧ Int32.toInt (M.1 132 (Int32.toNatClampNeg (M.1 124 17))) ≤ 100 := (by have u0 := b29_; have u1 := (zi_eq _ _).mp c30_; have u2 := (show 100 ≤ Int32.toInt 100 ∧ Int32.toInt 100 ≤ 100 from (by decide)); omega)
      refine pw_blkw hT 5 (pc := 61) (lo := [some (pvR 124), some (pvI n1)]) (st := []) (M := pvu M 134 (Int32.toNatClampNeg n1) 1) rfl ⟨trivial, rfl, trivial, trivial, ⟨rfl, (zr_in (n := 60) hn1 (by decide) (by decide))⟩, trivial⟩ (fun M32_ e33_ => ?_)
      have o34_ : pvOk M32_ := pvok_u2 e33_ hok rfl (zr_wide (show 1 ≤ Int32.toInt 1 ∧ Int32.toInt 1 ≤ 1 from (by decide)) (by decide) (by decide))
      have f35_ : pvFr fp_eX10_takesHead_124_x M M32_ := pvfr_u e33_ pvfr_0 rfl
      refine pw_blk hT 3 (S' := (64, [some (pvR 124), some (pvI n1)], [pvI 3, pvI 3, pvR 124], M32_)) rfl ⟨trivial, trivial, trivial, trivial⟩ ?_
      have u36_ : Int32.toInt 3 = 3 := by decide
      refine pw_callGd hT (as := [pvR 124, pvI 3, pvI 3]) (lo1 := [some (pvR 124), some (pvI 3), some (pvI 3), none]) (d1 := d) (rest := []) rfl rfl rfl rfl rfl (fun _ => rfl) (Nat.zero_le _) rfl rfl rfl (se_X10_takesWord_124_x_x M32_ o34_ 3 3 (zr_wide (show 3 ≤ Int32.toInt 3 ∧ Int32.toInt 3 ≤ 3 from (by decide)) (by decide) (by decide)) (zr_wide (show 3 ≤ Int32.toInt 3 ∧ Int32.toInt 3 ≤ 3 from (by decide)) (by decide) (by decide)) (show Int32.toInt 3 + Int32.toInt 3 ≤ 15 from (by omega)) d) (fun x38_ M39_ b40_ o41_ g42_ d37_ => ?_)
      have f43_ : pvFr fp_eX10_takesHead_124_x M M39_ := pvfr_t g42_ f35_ fp_eX10_takesHead_124_x_fp_eX10_takesWord_124_x_x
      exact pw_ret hT rfl (r := some (pvI x38_)) (M' := M39_) ⟨pv01 b40_, rfl, rfl⟩ ⟨⟨_, rfl, b40_⟩, o41_, f43_, ⟨fun k hk => (congrFun ((pvfr_row (L := fpL_eX10_takesWord_124_x_x) g42_ rfl)) k).trans ((pvu_n e33_ 134 k (Or.inr hk)).trans (congrFun (rfl) k)), by have w1 : Int32.toInt (M32_.1 124 17) = Int32.toInt (M.1 124 17) := congrArg Int32.toInt (pvu_n e33_ 124 17 (Or.inl (by decide))); omega⟩, (zQh_c (w := 1) (by rw [(zpk_t hok c8_).trans c30_]; rfl) e33_ d37_.2 (zwl_3 (zLet_r hl (pvu_row e33_ (by decide)))))⟩
    · refine And.intro (fun c44_ => ?_) (fun c44_ => ?_)
      · show PW 85 d (68, [some (pvR 124), some (pvI n1)], [], M) _
        have b45_ : 115 ≤ Int32.toInt (M.1 132 (Int32.toNatClampNeg (M.1 124 17))) ∧ Int32.toInt (M.1 132 (Int32.toNatClampNeg (M.1 124 17))) ≤ 115 := (by have u0 := b29_; have u1 := (zi_eq _ _).mp c44_; have u2 := (show 115 ≤ Int32.toInt 115 ∧ Int32.toInt 115 ≤ 115 from (by decide)); omega)
        refine pw_blkw hT 5 (pc := 75) (lo := [some (pvR 124), some (pvI n1)]) (st := []) (M := pvu M 134 (Int32.toNatClampNeg n1) 2) rfl ⟨trivial, rfl, trivial, trivial, ⟨rfl, (zr_in (n := 60) hn1 (by decide) (by decide))⟩, trivial⟩ (fun M46_ e47_ => ?_)
        have o48_ : pvOk M46_ := pvok_u2 e47_ hok rfl (zr_wide (show 2 ≤ Int32.toInt 2 ∧ Int32.toInt 2 ≤ 2 from (by decide)) (by decide) (by decide))
        have f49_ : pvFr fp_eX10_takesHead_124_x M M46_ := pvfr_u e47_ pvfr_0 rfl
        refine pw_blk hT 3 (S' := (79, [some (pvR 124), some (pvI n1)], [pvI 5, pvI 6, pvR 124], M46_)) rfl ⟨trivial, trivial, trivial, trivial⟩ ?_
        have u50_ : Int32.toInt 6 = 6 := by decide
        have u51_ : Int32.toInt 5 = 5 := by decide
        refine pw_callGd hT (as := [pvR 124, pvI 6, pvI 5]) (lo1 := [some (pvR 124), some (pvI 6), some (pvI 5), none]) (d1 := d) (rest := []) rfl rfl rfl rfl rfl (fun _ => rfl) (Nat.zero_le _) rfl rfl rfl (se_X10_takesWord_124_x_x M46_ o48_ 6 5 (zr_wide (show 6 ≤ Int32.toInt 6 ∧ Int32.toInt 6 ≤ 6 from (by decide)) (by decide) (by decide)) (zr_wide (show 5 ≤ Int32.toInt 5 ∧ Int32.toInt 5 ≤ 5 from (by decide)) (by decide) (by decide)) (show Int32.toInt 6 + Int32.toInt 5 ≤ 15 from (by omega)) d) (fun x53_ M54_ b55_ o56_ g57_ d52_ => ?_)
        have f58_ : pvFr fp_eX10_takesHead_124_x M M54_ := pvfr_t g57_ f49_ fp_eX10_takesHead_124_x_fp_eX10_takesWord_124_x_x
        exact pw_ret hT rfl (r := some (pvI x53_)) (M' := M54_) ⟨pv01 b55_, rfl, rfl⟩ ⟨⟨_, rfl, b55_⟩, o56_, f58_, ⟨fun k hk => (congrFun ((pvfr_row (L := fpL_eX10_takesWord_124_x_x) g57_ rfl)) k).trans ((pvu_n e47_ 134 k (Or.inr hk)).trans (congrFun (rfl) k)), by have w1 : Int32.toInt (M46_.1 124 17) = Int32.toInt (M.1 124 17) := congrArg Int32.toInt (pvu_n e47_ 124 17 (Or.inl (by decide))); omega⟩, (zQh_c (w := 2) (by rw [(zpk_t hok c8_).trans c44_]; rfl) e47_ d52_.2 (zwl_6 (zLet_r hl (pvu_row e47_ (by decide)))))⟩
      · refine And.intro (fun c59_ => ?_) (fun c59_ => ?_)
        · show PW 85 d (40, [some (pvR 124), some (pvI n1)], [], M) _
          have b60_ : 119 ≤ Int32.toInt (M.1 132 (Int32.toNatClampNeg (M.1 124 17))) ∧ Int32.toInt (M.1 132 (Int32.toNatClampNeg (M.1 124 17))) ≤ 119 := (by have u0 := b29_; have u1 := (zi_eq _ _).mp c59_; have u2 := (show 119 ≤ Int32.toInt 119 ∧ Int32.toInt 119 ≤ 119 from (by decide)); omega)
          refine pw_blkw hT 5 (pc := 47) (lo := [some (pvR 124), some (pvI n1)]) (st := []) (M := pvu M 134 (Int32.toNatClampNeg n1) 0) rfl ⟨trivial, rfl, trivial, trivial, ⟨rfl, (zr_in (n := 60) hn1 (by decide) (by decide))⟩, trivial⟩ (fun M61_ e62_ => ?_)
          have o63_ : pvOk M61_ := pvok_u2 e62_ hok rfl (zr_wide (show 0 ≤ Int32.toInt 0 ∧ Int32.toInt 0 ≤ 0 from (by decide)) (by decide) (by decide))
          have f64_ : pvFr fp_eX10_takesHead_124_x M M61_ := pvfr_u e62_ pvfr_0 rfl
          refine pw_blk hT 3 (S' := (50, [some (pvR 124), some (pvI n1)], [pvI 3, pvI 0, pvR 124], M61_)) rfl ⟨trivial, trivial, trivial, trivial⟩ ?_
          have u65_ : Int32.toInt 0 = 0 := by decide
          have u66_ : Int32.toInt 3 = 3 := by decide
          refine pw_callGd hT (as := [pvR 124, pvI 0, pvI 3]) (lo1 := [some (pvR 124), some (pvI 0), some (pvI 3), none]) (d1 := d) (rest := []) rfl rfl rfl rfl rfl (fun _ => rfl) (Nat.zero_le _) rfl rfl rfl (se_X10_takesWord_124_x_x M61_ o63_ 0 3 (zr_wide (show 0 ≤ Int32.toInt 0 ∧ Int32.toInt 0 ≤ 0 from (by decide)) (by decide) (by decide)) (zr_wide (show 3 ≤ Int32.toInt 3 ∧ Int32.toInt 3 ≤ 3 from (by decide)) (by decide) (by decide)) (show Int32.toInt 0 + Int32.toInt 3 ≤ 15 from (by omega)) d) (fun x68_ M69_ b70_ o71_ g72_ d67_ => ?_)
          have f73_ : pvFr fp_eX10_takesHead_124_x M M69_ := pvfr_t g72_ f64_ fp_eX10_takesHead_124_x_fp_eX10_takesWord_124_x_x
          exact pw_ret hT rfl (r := some (pvI x68_)) (M' := M69_) ⟨pv01 b70_, rfl, rfl⟩ ⟨⟨_, rfl, b70_⟩, o71_, f73_, ⟨fun k hk => (congrFun ((pvfr_row (L := fpL_eX10_takesWord_124_x_x) g72_ rfl)) k).trans ((pvu_n e62_ 134 k (Or.inr hk)).trans (congrFun (rfl) k)), by have w1 : Int32.toInt (M61_.1 124 17) = Int32.toInt (M.1 124 17) := congrArg Int32.toInt (pvu_n e62_ 124 17 (Or.inl (by decide))); omega⟩, (zQh_c (w := 0) (by rw [(zpk_t hok c8_).trans c59_]; rfl) e62_ d67_.2 (zwl_0 (zLet_r hl (pvu_row e62_ (by decide)))))⟩
        · show PW 85 d (83, [some (pvR 124), some (pvI n1)], [], M) _
          refine pw_blkw hT 5 (pc := 90) (lo := [some (pvR 124), some (pvI n1)]) (st := []) (M := pvu M 134 (Int32.toNatClampNeg n1) 3) rfl ⟨trivial, rfl, trivial, trivial, ⟨rfl, (zr_in (n := 60) hn1 (by decide) (by decide))⟩, trivial⟩ (fun M74_ e75_ => ?_)
          have o76_ : pvOk M74_ := pvok_u2 e75_ hok rfl (zr_wide (show 3 ≤ Int32.toInt 3 ∧ Int32.toInt 3 ≤ 3 from (by decide)) (by decide) (by decide))
          have f77_ : pvFr fp_eX10_takesHead_124_x M M74_ := pvfr_u e75_ pvfr_0 rfl
          refine pw_blk hT 3 (S' := (94, [some (pvR 124), some (pvI n1)], [pvI 4, pvI 11, pvR 124], M74_)) rfl ⟨trivial, trivial, trivial, trivial⟩ ?_
          have u78_ : Int32.toInt 11 = 11 := by decide
          have u79_ : Int32.toInt 4 = 4 := by decide
          refine pw_callGd hT (as := [pvR 124, pvI 11, pvI 4]) (lo1 := [some (pvR 124), some (pvI 11), some (pvI 4), none]) (d1 := d) (rest := []) rfl rfl rfl rfl rfl (fun _ => rfl) (Nat.zero_le _) rfl rfl rfl (se_X10_takesWord_124_x_x M74_ o76_ 11 4 (zr_wide (show 11 ≤ Int32.toInt 11 ∧ Int32.toInt 11 ≤ 11 from (by decide)) (by decide) (by decide)) (zr_wide (show 4 ≤ Int32.toInt 4 ∧ Int32.toInt 4 ≤ 4 from (by decide)) (by decide) (by decide)) (show Int32.toInt 11 + Int32.toInt 4 ≤ 15 from (by omega)) d) (fun x81_ M82_ b83_ o84_ g85_ d80_ => ?_)
          have f86_ : pvFr fp_eX10_takesHead_124_x M M82_ := pvfr_t g85_ f77_ fp_eX10_takesHead_124_x_fp_eX10_takesWord_124_x_x
          exact pw_ret hT rfl (r := some (pvI x81_)) (M' := M82_) ⟨pv01 b83_, rfl, rfl⟩ ⟨⟨_, rfl, b83_⟩, o84_, f86_, ⟨fun k hk => (congrFun ((pvfr_row (L := fpL_eX10_takesWord_124_x_x) g85_ rfl)) k).trans ((pvu_n e75_ 134 k (Or.inr hk)).trans (congrFun (rfl) k)), by have w1 : Int32.toInt (M74_.1 124 17) = Int32.toInt (M.1 124 17) := congrArg Int32.toInt (pvu_n e75_ 124 17 (Or.inl (by decide))); omega⟩, (zQh_o (fun z => c59_ ((zpk_t hok c8_).symm.trans z)) (fun z => c30_ ((zpk_t hok c8_).symm.trans z)) (fun z => c44_ ((zpk_t hok c8_).symm.trans z)) e75_ d80_.2 (zwl_11 (zLet_r hl (pvu_row e75_ (by decide)))))⟩
def fpL_eX10_takesNumber_124 : List (Nat × Nat × Nat) := [(0, 124, 18), (0, 124, 19)]
def fp_eX10_takesNumber_124 (q k : Nat) : Bool := pvfp fpL_eX10_takesNumber_124 q k
set_option maxHeartbeats 4000000 in
set_option maxRecDepth 10000 in
theorem se_X10_takesNumber_124 (M : pvM) (hok : pvOk M) (d : Nat) : PW 86 d (0, [some (pvR 124), none], [], M) (fun r X => (∃ x : Int32, r = some (pvI x) ∧ 0 ≤ Int32.toInt x ∧ Int32.toInt x ≤ 1) ∧ pvOk X ∧ pvFr fp_eX10_takesNumber_124 M X ∧ Int32.toInt (M.1 124 17) ≤ Int32.toInt (X.1 124 17) ∧ zQn r M X) := by
  have hT : pvdom 86 = pvD_86 := rfl
  refine pw_blk hT 1 (S' := (1, [some (pvR 124), none], [pvR 124], M)) rfl ⟨trivial, trivial⟩ ?_
  refine pw_callT hT (as := [pvR 124]) (lo1 := [some (pvR 124)]) (d1 := d) (rest := []) rfl rfl rfl rfl rfl (fun _ => rfl) (Nat.zero_le _) rfl rfl rfl (sf_X10_isDigit_124 M hok d) ?_
  have b6_ : 0 ≤ Int32.toInt (M.1 124 16) ∧ Int32.toInt (M.1 124 16) ≤ 100 := pvok_r hok 124 16 rfl
  have b7_ : 0 ≤ Int32.toInt (M.1 124 17) ∧ Int32.toInt (M.1 124 17) ≤ 100 := pvok_r hok 124 17 rfl
  by_cases c8_ : (M.1 124 16) ≤ (M.1 124 17)
  · refine pw_eqI (if_pos c8_) ?_
    have d9_ : Int32.toInt (M.1 124 16) ≤ Int32.toInt (M.1 124 17) := (zi_le _ _).mp c8_
    show PW 86 d (4, [some (pvR 124), none], [pvI 0], M) _
    refine pw_ifn hT (c := 0 = 0) rfl rfl (fun c10_ => absurd (by decide) c10_) (fun c10_ => ?_)
    refine pw_blk hT 1 (S' := (8, [some (pvR 124), none], [pvI 0], M)) rfl ⟨trivial, trivial⟩ ?_
    exact pw_ret hT rfl (r := some (pvI 0)) (M' := M) ⟨Or.inl rfl, rfl, rfl⟩ ⟨⟨_, rfl, (zr_wide (show 0 ≤ Int32.toInt 0 ∧ Int32.toInt 0 ≤ 0 from (by decide)) (by decide) (by decide))⟩, hok, pvfr_0, (by omega), (zQn_n (zdig_e hok c8_))⟩
  · refine pw_eqI (if_neg c8_) ?_
    have b11_ : 1 ≤ Int32.toInt (M.1 124 16) ∧ Int32.toInt (M.1 124 16) ≤ 100 := zr_nle_l 1 c8_ b6_ b7_ (by decide)
    have b12_ : 0 ≤ Int32.toInt (M.1 124 17) ∧ Int32.toInt (M.1 124 17) ≤ 99 := zr_nle_r 99 c8_ b7_ b11_ (by decide)
    have d13_ : Int32.toInt (M.1 124 16) > Int32.toInt (M.1 124 17) := Int.not_le.mp ((not_congr (zi_le _ _)).mp c8_)
    have b14_ : 0 ≤ Int32.toInt (M.1 132 (Int32.toNatClampNeg (M.1 124 17))) ∧ Int32.toInt (M.1 132 (Int32.toNatClampNeg (M.1 124 17))) ≤ 127 := pvok_r hok 132 (Int32.toNatClampNeg (M.1 124 17)) rfl
    by_cases c15_ : (M.1 132 (Int32.toNatClampNeg (M.1 124 17))) < 48
    · refine pw_eqI (if_pos c15_) ?_
      have b16_ : 0 ≤ Int32.toInt (M.1 132 (Int32.toNatClampNeg (M.1 124 17))) ∧ Int32.toInt (M.1 132 (Int32.toNatClampNeg (M.1 124 17))) ≤ 47 := zr_lt_l 47 c15_ b14_ (show 48 ≤ Int32.toInt 48 ∧ Int32.toInt 48 ≤ 48 from (by decide)) (by decide)
      show PW 86 d (4, [some (pvR 124), none], [pvI 0], M) _
      refine pw_ifn hT (c := 0 = 0) rfl rfl (fun c17_ => absurd (by decide) c17_) (fun c17_ => ?_)
      refine pw_blk hT 1 (S' := (8, [some (pvR 124), none], [pvI 0], M)) rfl ⟨trivial, trivial⟩ ?_
      exact pw_ret hT rfl (r := some (pvI 0)) (M' := M) ⟨Or.inl rfl, rfl, rfl⟩ ⟨⟨_, rfl, (zr_wide (show 0 ≤ Int32.toInt 0 ∧ Int32.toInt 0 ≤ 0 from (by decide)) (by decide) (by decide))⟩, hok, pvfr_0, (by omega), (zQn_n (zdig_t hok c8_ (Or.inl c15_)))⟩
    · refine pw_eqI (if_neg c15_) ?_
      have b18_ : 48 ≤ Int32.toInt (M.1 132 (Int32.toNatClampNeg (M.1 124 17))) ∧ Int32.toInt (M.1 132 (Int32.toNatClampNeg (M.1 124 17))) ≤ 127 := zr_nlt_l 48 c15_ b14_ (show 48 ≤ Int32.toInt 48 ∧ Int32.toInt 48 ≤ 48 from (by decide)) (by decide)
      by_cases c19_ : 57 < (M.1 132 (Int32.toNatClampNeg (M.1 124 17)))
      · refine pw_eqI (if_pos c19_) ?_
        have b20_ : 58 ≤ Int32.toInt (M.1 132 (Int32.toNatClampNeg (M.1 124 17))) ∧ Int32.toInt (M.1 132 (Int32.toNatClampNeg (M.1 124 17))) ≤ 127 := zr_lt_r 58 c19_ b18_ (show 57 ≤ Int32.toInt 57 ∧ Int32.toInt 57 ≤ 57 from (by decide)) (by decide)
        show PW 86 d (4, [some (pvR 124), none], [pvI 0], M) _
        refine pw_ifn hT (c := 0 = 0) rfl rfl (fun c21_ => absurd (by decide) c21_) (fun c21_ => ?_)
        refine pw_blk hT 1 (S' := (8, [some (pvR 124), none], [pvI 0], M)) rfl ⟨trivial, trivial⟩ ?_
        exact pw_ret hT rfl (r := some (pvI 0)) (M' := M) ⟨Or.inl rfl, rfl, rfl⟩ ⟨⟨_, rfl, (zr_wide (show 0 ≤ Int32.toInt 0 ∧ Int32.toInt 0 ≤ 0 from (by decide)) (by decide) (by decide))⟩, hok, pvfr_0, (by omega), (zQn_n (zdig_t hok c8_ (Or.inr c19_)))⟩
      · refine pw_eqI (if_neg c19_) ?_
        have b22_ : 48 ≤ Int32.toInt (M.1 132 (Int32.toNatClampNeg (M.1 124 17))) ∧ Int32.toInt (M.1 132 (Int32.toNatClampNeg (M.1 124 17))) ≤ 57 := zr_nlt_r 57 c19_ b18_ (show 57 ≤ Int32.toInt 57 ∧ Int32.toInt 57 ≤ 57 from (by decide)) (by decide)
        show PW 86 d (4, [some (pvR 124), none], [pvI 1], M) _
        refine pw_ifn hT (c := 1 = 0) rfl rfl (fun c23_ => ?_) (fun c23_ => absurd c23_ (by decide))
        refine pw_blkw hT 3 (pc := 14) (lo := [some (pvR 124), none]) (st := []) (M := pvu M 124 18 0) rfl ⟨trivial, trivial, rfl, trivial⟩ (fun M24_ e25_ => ?_)
        have o26_ : pvOk M24_ := pvok_u2 e25_ hok rfl (zr_wide (show 0 ≤ Int32.toInt 0 ∧ Int32.toInt 0 ≤ 0 from (by decide)) (by decide) (by decide))
        have f27_ : pvFr fp_eX10_takesNumber_124 M M24_ := pvfr_u e25_ pvfr_0 rfl
        refine pw_blk hT 2 (S' := (16, [some (pvR 124), some (pvI 0)], [], M24_)) rfl ⟨trivial, trivial, trivial⟩ ?_
        refine pw_blk hT 2 (S' := (18, [some (pvR 124), some (pvI 0)], [pvI 2, pvI 0], M24_)) rfl ⟨trivial, trivial, trivial⟩ ?_
        refine pw_ic hT (c := 2 ≤ 0) rfl rfl (fun c28_ => absurd c28_ (by decide)) (fun c28_ => ?_)
        refine pw_blk hT 1 (S' := (22, [some (pvR 124), some (pvI 0)], [pvR 124], M24_)) rfl ⟨trivial, trivial⟩ ?_
        refine pw_callT hT (as := [pvR 124]) (lo1 := [some (pvR 124)]) (d1 := d) (rest := []) rfl rfl rfl rfl rfl (fun _ => rfl) (Nat.zero_le _) rfl rfl rfl (sf_X10_isDigit_124 M24_ o26_ d) ?_
        have e34_ : (M24_.1 124 16) = (M.1 124 16) := (pvu_n e25_ 124 16 (Or.inr (by decide)))
        have b35_ : 1 ≤ Int32.toInt (M24_.1 124 16) ∧ Int32.toInt (M24_.1 124 16) ≤ 100 := (by rw [e34_]; exact b11_)
        have e36_ : (M24_.1 124 17) = (M.1 124 17) := (pvu_n e25_ 124 17 (Or.inr (by decide)))
        have b37_ : 0 ≤ Int32.toInt (M24_.1 124 17) ∧ Int32.toInt (M24_.1 124 17) ≤ 99 := (by rw [e36_]; exact b12_)
        by_cases c38_ : (M24_.1 124 16) ≤ (M24_.1 124 17)
        · refine pw_eqI (if_pos c38_) ?_
          have b39_ : 1 ≤ Int32.toInt (M24_.1 124 16) ∧ Int32.toInt (M24_.1 124 16) ≤ 99 := zr_le_l 99 c38_ b35_ b37_ (by decide)
          have b40_ : 1 ≤ Int32.toInt (M24_.1 124 17) ∧ Int32.toInt (M24_.1 124 17) ≤ 99 := zr_le_r 1 c38_ b37_ b39_ (by decide)
          have d41_ : Int32.toInt (M24_.1 124 16) ≤ Int32.toInt (M24_.1 124 17) := (zi_le _ _).mp c38_
          show PW 86 d (25, [some (pvR 124), some (pvI 0)], [pvI 0], M24_) _
          refine pw_if hT (c := 0 = 0) rfl rfl (fun c42_ => ?_) (fun c42_ => absurd (by decide) c42_)
          refine pw_blk hT 1 (S' := (64, [some (pvR 124), some (pvI 0)], [pvI 1], M24_)) rfl ⟨trivial, trivial⟩ ?_
          exact pw_ret hT rfl (r := some (pvI 1)) (M' := M24_) ⟨Or.inr rfl, rfl, rfl⟩ ⟨⟨_, rfl, (zr_wide (show 1 ≤ Int32.toInt 1 ∧ Int32.toInt 1 ≤ 1 from (by decide)) (by decide) (by decide))⟩, o26_, f27_, (by have w0 : Int32.toInt (M24_.1 124 17) = Int32.toInt (M.1 124 17) := congrArg Int32.toInt (pvu_n e25_ 124 17 (Or.inr (by decide))); omega), (absurd (show M.1 124 16 ≤ M.1 124 17 from (by rw [← (pvu_n e25_ 124 16 (Or.inr (by decide))), ← (pvu_n e25_ 124 17 (Or.inr (by decide)))]; exact c38_)) c8_)⟩
        · refine pw_eqI (if_neg c38_) ?_
          have d43_ : Int32.toInt (M24_.1 124 16) > Int32.toInt (M24_.1 124 17) := Int.not_le.mp ((not_congr (zi_le _ _)).mp c38_)
          have b44_ : 0 ≤ Int32.toInt (M24_.1 132 (Int32.toNatClampNeg (M24_.1 124 17))) ∧ Int32.toInt (M24_.1 132 (Int32.toNatClampNeg (M24_.1 124 17))) ≤ 127 := pvok_r o26_ 132 (Int32.toNatClampNeg (M24_.1 124 17)) rfl
          by_cases c45_ : (M24_.1 132 (Int32.toNatClampNeg (M24_.1 124 17))) < 48
          · refine pw_eqI (if_pos c45_) ?_
            have b46_ : 0 ≤ Int32.toInt (M24_.1 132 (Int32.toNatClampNeg (M24_.1 124 17))) ∧ Int32.toInt (M24_.1 132 (Int32.toNatClampNeg (M24_.1 124 17))) ≤ 47 := zr_lt_l 47 c45_ b44_ (show 48 ≤ Int32.toInt 48 ∧ Int32.toInt 48 ≤ 48 from (by decide)) (by decide)
            show PW 86 d (25, [some (pvR 124), some (pvI 0)], [pvI 0], M24_) _
            refine pw_if hT (c := 0 = 0) rfl rfl (fun c47_ => ?_) (fun c47_ => absurd (by decide) c47_)
            refine pw_blk hT 1 (S' := (64, [some (pvR 124), some (pvI 0)], [pvI 1], M24_)) rfl ⟨trivial, trivial⟩ ?_
            exact pw_ret hT rfl (r := some (pvI 1)) (M' := M24_) ⟨Or.inr rfl, rfl, rfl⟩ ⟨⟨_, rfl, (zr_wide (show 1 ≤ Int32.toInt 1 ∧ Int32.toInt 1 ≤ 1 from (by decide)) (by decide) (by decide))⟩, o26_, f27_, (by have w0 : Int32.toInt (M24_.1 124 17) = Int32.toInt (M.1 124 17) := congrArg Int32.toInt (pvu_n e25_ 124 17 (Or.inr (by decide))); omega), (absurd (show (M.1 132 (Int32.toNatClampNeg (M.1 124 17))) < 48 from (by rw [← (show (M24_.1 132 (Int32.toNatClampNeg (M24_.1 124 17))) = (M.1 132 (Int32.toNatClampNeg (M.1 124 17))) from by rw [(pvu_n e25_ 124 17 (Or.inr (by decide)))]; exact pvu_n e25_ 132 _ (Or.inl (by decide)))]; exact c45_)) c15_)⟩
          · refine pw_eqI (if_neg c45_) ?_
            have b48_ : 48 ≤ Int32.toInt (M24_.1 132 (Int32.toNatClampNeg (M24_.1 124 17))) ∧ Int32.toInt (M24_.1 132 (Int32.toNatClampNeg (M24_.1 124 17))) ≤ 127 := zr_nlt_l 48 c45_ b44_ (show 48 ≤ Int32.toInt 48 ∧ Int32.toInt 48 ≤ 48 from (by decide)) (by decide)
            by_cases c49_ : 57 < (M24_.1 132 (Int32.toNatClampNeg (M24_.1 124 17)))
            · refine pw_eqI (if_pos c49_) ?_
              have b50_ : 58 ≤ Int32.toInt (M24_.1 132 (Int32.toNatClampNeg (M24_.1 124 17))) ∧ Int32.toInt (M24_.1 132 (Int32.toNatClampNeg (M24_.1 124 17))) ≤ 127 := zr_lt_r 58 c49_ b48_ (show 57 ≤ Int32.toInt 57 ∧ Int32.toInt 57 ≤ 57 from (by decide)) (by decide)
              show PW 86 d (25, [some (pvR 124), some (pvI 0)], [pvI 0], M24_) _
              refine pw_if hT (c := 0 = 0) rfl rfl (fun c51_ => ?_) (fun c51_ => absurd (by decide) c51_)
              refine pw_blk hT 1 (S' := (64, [some (pvR 124), some (pvI 0)], [pvI 1], M24_)) rfl ⟨trivial, trivial⟩ ?_
              exact pw_ret hT rfl (r := some (pvI 1)) (M' := M24_) ⟨Or.inr rfl, rfl, rfl⟩ ⟨⟨_, rfl, (zr_wide (show 1 ≤ Int32.toInt 1 ∧ Int32.toInt 1 ≤ 1 from (by decide)) (by decide) (by decide))⟩, o26_, f27_, (by have w0 : Int32.toInt (M24_.1 124 17) = Int32.toInt (M.1 124 17) := congrArg Int32.toInt (pvu_n e25_ 124 17 (Or.inr (by decide))); omega), (absurd (show 57 < (M.1 132 (Int32.toNatClampNeg (M.1 124 17))) from (by rw [← (show (M24_.1 132 (Int32.toNatClampNeg (M24_.1 124 17))) = (M.1 132 (Int32.toNatClampNeg (M.1 124 17))) from by rw [(pvu_n e25_ 124 17 (Or.inr (by decide)))]; exact pvu_n e25_ 132 _ (Or.inl (by decide)))]; exact c49_)) c19_)⟩
            · refine pw_eqI (if_neg c49_) ?_
              have b52_ : 48 ≤ Int32.toInt (M24_.1 132 (Int32.toNatClampNeg (M24_.1 124 17))) ∧ Int32.toInt (M24_.1 132 (Int32.toNatClampNeg (M24_.1 124 17))) ≤ 57 := zr_nlt_r 57 c49_ b48_ (show 57 ≤ Int32.toInt 57 ∧ Int32.toInt 57 ≤ 57 from (by decide)) (by decide)
              show PW 86 d (25, [some (pvR 124), some (pvI 0)], [pvI 1], M24_) _
              refine pw_if hT (c := 1 = 0) rfl rfl (fun c53_ => absurd c53_ (by decide)) (fun c53_ => ?_)
              have e54_ : (M24_.1 124 18) = 0 := (pvu_s e25_)
              have b55_ : 0 ≤ Int32.toInt (M24_.1 124 18) ∧ Int32.toInt (M24_.1 124 18) ≤ 0 := (by rw [e54_]; exact (show 0 ≤ Int32.toInt 0 ∧ Int32.toInt 0 ≤ 0 from (by decide)))
              have q56_ : Int32.toInt (10 * (M24_.1 124 18)) = 10 * Int32.toInt (M24_.1 124 18) := by have u0 : Int32.toInt 10 = 10 := (by decide); have u1 := b55_; have u2 := zmul 10 (M24_.1 124 18) (by rw [u0]; omega) (by rw [u0]; omega); rw [u0] at u2; omega
              have b57_ : 0 ≤ Int32.toInt (10 * (M24_.1 124 18)) ∧ Int32.toInt (10 * (M24_.1 124 18)) ≤ 0 := (by have u1 := b55_; omega)
              refine pw_blk hT 6 (S' := (37, [some (pvR 124), some (pvI 0)], [pvR 124, pvI (10 * (M24_.1 124 18)), pvR 124], M24_)) rfl ⟨trivial, trivial, trivial, rfl, trivial, trivial, trivial⟩ ?_
              refine pw_callT hT (as := [pvR 124]) (lo1 := [some (pvR 124)]) (d1 := d) (rest := [pvI (10 * (M24_.1 124 18)), pvR 124]) rfl rfl rfl rfl rfl (fun _ => rfl) (Nat.zero_le _) rfl rfl rfl (sf_X10_peek_124 M24_ o26_ d) ?_
              refine pw_eqI (if_neg c38_) ?_
              show PW 86 d (40, [some (pvR 124), some (pvI 0)], [pvI (M24_.1 132 (Int32.toNatClampNeg (M24_.1 124 17))), pvI (10 * (M24_.1 124 18)), pvR 124], M24_) _
              obtain ⟨q64_, b63_⟩ : (Int32.toInt ((10 * (M24_.1 124 18)) + (M24_.1 132 (Int32.toNatClampNeg (M24_.1 124 17)))) = Int32.toInt (10 * (M24_.1 124 18)) + Int32.toInt (M24_.1 132 (Int32.toNatClampNeg (M24_.1 124 17)))) ∧ (48 ≤ Int32.toInt ((10 * (M24_.1 124 18)) + (M24_.1 132 (Int32.toNatClampNeg (M24_.1 124 17)))) ∧ Int32.toInt ((10 * (M24_.1 124 18)) + (M24_.1 132 (Int32.toNatClampNeg (M24_.1 124 17)))) ≤ 57) := zadd_r (10 * (M24_.1 124 18)) (M24_.1 132 (Int32.toNatClampNeg (M24_.1 124 17))) 48 57 b57_ b52_ (by decide) (by decide) (by decide) (by decide)
              obtain ⟨q66_, b65_⟩ : (Int32.toInt (((10 * (M24_.1 124 18)) + (M24_.1 132 (Int32.toNatClampNeg (M24_.1 124 17)))) - 48) = Int32.toInt ((10 * (M24_.1 124 18)) + (M24_.1 132 (Int32.toNatClampNeg (M24_.1 124 17)))) - 48) ∧ (0 ≤ Int32.toInt (((10 * (M24_.1 124 18)) + (M24_.1 132 (Int32.toNatClampNeg (M24_.1 124 17)))) - 48) ∧ Int32.toInt (((10 * (M24_.1 124 18)) + (M24_.1 132 (Int32.toNatClampNeg (M24_.1 124 17)))) - 48) ≤ 9) := zsub_k ((10 * (M24_.1 124 18)) + (M24_.1 132 (Int32.toNatClampNeg (M24_.1 124 17)))) 48 48 0 9 b63_ (by decide) (by decide) (by decide) (by decide) (by decide)
              refine pw_blkw hT 4 (pc := 47) (lo := [some (pvR 124), some (pvI 0)]) (st := []) (M := pvu M24_ 124 18 (((10 * (M24_.1 124 18)) + (M24_.1 132 (Int32.toNatClampNeg (M24_.1 124 17)))) - 48)) rfl ⟨trivial, trivial, trivial, rfl, trivial⟩ (fun M67_ e68_ => ?_)
              have o69_ : pvOk M67_ := pvok_u2 e68_ o26_ rfl (zr_wide b65_ (by decide) (by decide))
              have f70_ : pvFr fp_eX10_takesNumber_124 M M67_ := pvfr_u e68_ f27_ rfl
              have e71_ : (M67_.1 124 17) = (M24_.1 124 17) := (pvu_n e68_ 124 17 (Or.inr (by decide)))
              have b72_ : 0 ≤ Int32.toInt (M67_.1 124 17) ∧ Int32.toInt (M67_.1 124 17) ≤ 99 := (by rw [e71_]; exact b37_)
              obtain ⟨q74_, b73_⟩ : (Int32.toInt ((M67_.1 124 17) + 1) = Int32.toInt (M67_.1 124 17) + 1) ∧ (1 ≤ Int32.toInt ((M67_.1 124 17) + 1) ∧ Int32.toInt ((M67_.1 124 17) + 1) ≤ 100) := zadd_k (M67_.1 124 17) 1 1 1 100 b72_ (by decide) (by decide) (by decide) (by decide) (by decide)
              refine pw_blkw hT 6 (pc := 57) (lo := [some (pvR 124), some (pvI 0)]) (st := []) (M := pvu M67_ 124 17 ((M67_.1 124 17) + 1)) rfl ⟨trivial, trivial, rfl, trivial, trivial, rfl, trivial⟩ (fun M75_ e76_ => ?_)
              have o77_ : pvOk M75_ := pvok_u2 e76_ o69_ rfl (zr_wide b73_ (by decide) (by decide))
              have f78_ : pvFr fp_eX10_takesNumber_124 M M75_ := pvfr_u e76_ f70_ rfl
              refine pw_blk hT 2 (S' := (16, [some (pvR 124), some (pvI (0 + 1))], [], M75_)) rfl ⟨trivial, trivial, trivial⟩ ?_
              refine pw_blk hT 2 (S' := (18, [some (pvR 124), some (pvI (0 + 1))], [pvI 2, pvI (0 + 1)], M75_)) rfl ⟨trivial, trivial, trivial⟩ ?_
              refine pw_ic hT (c := 2 ≤ (0 + 1)) rfl rfl (fun c79_ => absurd c79_ (by decide)) (fun c79_ => ?_)
              refine pw_blk hT 1 (S' := (22, [some (pvR 124), some (pvI (0 + 1))], [pvR 124], M75_)) rfl ⟨trivial, trivial⟩ ?_
              refine pw_callT hT (as := [pvR 124]) (lo1 := [some (pvR 124)]) (d1 := d) (rest := []) rfl rfl rfl rfl rfl (fun _ => rfl) (Nat.zero_le _) rfl rfl rfl (sf_X10_isDigit_124 M75_ o77_ d) ?_
              have e85_ : (M75_.1 124 16) = (M24_.1 124 16) := ((pvu_n e76_ 124 16 (Or.inr (by decide))).trans (pvu_n e68_ 124 16 (Or.inr (by decide))))
              have b86_ : 1 ≤ Int32.toInt (M75_.1 124 16) ∧ Int32.toInt (M75_.1 124 16) ≤ 100 := (by rw [e85_]; exact b35_)
              have e87_ : (M75_.1 124 17) = ((M67_.1 124 17) + 1) := (pvu_s e76_)
              have b88_ : 1 ≤ Int32.toInt (M75_.1 124 17) ∧ Int32.toInt (M75_.1 124 17) ≤ 100 := (by rw [e87_]; exact b73_)
              by_cases c89_ : (M75_.1 124 16) ≤ (M75_.1 124 17)
              · refine pw_eqI (if_pos c89_) ?_
                have d90_ : Int32.toInt (M75_.1 124 16) ≤ Int32.toInt (M75_.1 124 17) := (zi_le _ _).mp c89_
                show PW 86 d (25, [some (pvR 124), some (pvI (0 + 1))], [pvI 0], M75_) _
                refine pw_if hT (c := 0 = 0) rfl rfl (fun c91_ => ?_) (fun c91_ => absurd (by decide) c91_)
                refine pw_blk hT 1 (S' := (64, [some (pvR 124), some (pvI (0 + 1))], [pvI 1], M75_)) rfl ⟨trivial, trivial⟩ ?_
                exact pw_ret hT rfl (r := some (pvI 1)) (M' := M75_) ⟨Or.inr rfl, rfl, rfl⟩ ⟨⟨_, rfl, (zr_wide (show 1 ≤ Int32.toInt 1 ∧ Int32.toInt 1 ≤ 1 from (by decide)) (by decide) (by decide))⟩, o77_, f78_, (by have w0 : Int32.toInt (M75_.1 124 17) = Int32.toInt ((M67_.1 124 17) + 1) := congrArg Int32.toInt (pvu_s e76_); have w1 : Int32.toInt (M67_.1 124 17) = Int32.toInt (M24_.1 124 17) := congrArg Int32.toInt (pvu_n e68_ 124 17 (Or.inr (by decide))); have w2 : Int32.toInt (M24_.1 124 17) = Int32.toInt (M.1 124 17) := congrArg Int32.toInt (pvu_n e25_ 124 17 (Or.inr (by decide))); omega), (zQn_2 hok c8_ c15_ c19_ e25_ e68_ e76_ (zdig_e o77_ c89_))⟩
              · refine pw_eqI (if_neg c89_) ?_
                have b92_ : 2 ≤ Int32.toInt (M75_.1 124 16) ∧ Int32.toInt (M75_.1 124 16) ≤ 100 := zr_nle_l 2 c89_ b86_ b88_ (by decide)
                have b93_ : 1 ≤ Int32.toInt (M75_.1 124 17) ∧ Int32.toInt (M75_.1 124 17) ≤ 99 := zr_nle_r 99 c89_ b88_ b92_ (by decide)
                have d94_ : Int32.toInt (M75_.1 124 16) > Int32.toInt (M75_.1 124 17) := Int.not_le.mp ((not_congr (zi_le _ _)).mp c89_)
                have b95_ : 0 ≤ Int32.toInt (M75_.1 132 (Int32.toNatClampNeg (M75_.1 124 17))) ∧ Int32.toInt (M75_.1 132 (Int32.toNatClampNeg (M75_.1 124 17))) ≤ 127 := pvok_r o77_ 132 (Int32.toNatClampNeg (M75_.1 124 17)) rfl
                by_cases c96_ : (M75_.1 132 (Int32.toNatClampNeg (M75_.1 124 17))) < 48
                · refine pw_eqI (if_pos c96_) ?_
                  have b97_ : 0 ≤ Int32.toInt (M75_.1 132 (Int32.toNatClampNeg (M75_.1 124 17))) ∧ Int32.toInt (M75_.1 132 (Int32.toNatClampNeg (M75_.1 124 17))) ≤ 47 := zr_lt_l 47 c96_ b95_ (show 48 ≤ Int32.toInt 48 ∧ Int32.toInt 48 ≤ 48 from (by decide)) (by decide)
                  show PW 86 d (25, [some (pvR 124), some (pvI (0 + 1))], [pvI 0], M75_) _
                  refine pw_if hT (c := 0 = 0) rfl rfl (fun c98_ => ?_) (fun c98_ => absurd (by decide) c98_)
                  refine pw_blk hT 1 (S' := (64, [some (pvR 124), some (pvI (0 + 1))], [pvI 1], M75_)) rfl ⟨trivial, trivial⟩ ?_
                  exact pw_ret hT rfl (r := some (pvI 1)) (M' := M75_) ⟨Or.inr rfl, rfl, rfl⟩ ⟨⟨_, rfl, (zr_wide (show 1 ≤ Int32.toInt 1 ∧ Int32.toInt 1 ≤ 1 from (by decide)) (by decide) (by decide))⟩, o77_, f78_, (by have w0 : Int32.toInt (M75_.1 124 17) = Int32.toInt ((M67_.1 124 17) + 1) := congrArg Int32.toInt (pvu_s e76_); have w1 : Int32.toInt (M67_.1 124 17) = Int32.toInt (M24_.1 124 17) := congrArg Int32.toInt (pvu_n e68_ 124 17 (Or.inr (by decide))); have w2 : Int32.toInt (M24_.1 124 17) = Int32.toInt (M.1 124 17) := congrArg Int32.toInt (pvu_n e25_ 124 17 (Or.inr (by decide))); omega), (zQn_2 hok c8_ c15_ c19_ e25_ e68_ e76_ (zdig_t o77_ c89_ (Or.inl c96_)))⟩
                · refine pw_eqI (if_neg c96_) ?_
                  have b99_ : 48 ≤ Int32.toInt (M75_.1 132 (Int32.toNatClampNeg (M75_.1 124 17))) ∧ Int32.toInt (M75_.1 132 (Int32.toNatClampNeg (M75_.1 124 17))) ≤ 127 := zr_nlt_l 48 c96_ b95_ (show 48 ≤ Int32.toInt 48 ∧ Int32.toInt 48 ≤ 48 from (by decide)) (by decide)
                  by_cases c100_ : 57 < (M75_.1 132 (Int32.toNatClampNeg (M75_.1 124 17)))
                  · refine pw_eqI (if_pos c100_) ?_
                    have b101_ : 58 ≤ Int32.toInt (M75_.1 132 (Int32.toNatClampNeg (M75_.1 124 17))) ∧ Int32.toInt (M75_.1 132 (Int32.toNatClampNeg (M75_.1 124 17))) ≤ 127 := zr_lt_r 58 c100_ b99_ (show 57 ≤ Int32.toInt 57 ∧ Int32.toInt 57 ≤ 57 from (by decide)) (by decide)
                    show PW 86 d (25, [some (pvR 124), some (pvI (0 + 1))], [pvI 0], M75_) _
                    refine pw_if hT (c := 0 = 0) rfl rfl (fun c102_ => ?_) (fun c102_ => absurd (by decide) c102_)
                    refine pw_blk hT 1 (S' := (64, [some (pvR 124), some (pvI (0 + 1))], [pvI 1], M75_)) rfl ⟨trivial, trivial⟩ ?_
                    exact pw_ret hT rfl (r := some (pvI 1)) (M' := M75_) ⟨Or.inr rfl, rfl, rfl⟩ ⟨⟨_, rfl, (zr_wide (show 1 ≤ Int32.toInt 1 ∧ Int32.toInt 1 ≤ 1 from (by decide)) (by decide) (by decide))⟩, o77_, f78_, (by have w0 : Int32.toInt (M75_.1 124 17) = Int32.toInt ((M67_.1 124 17) + 1) := congrArg Int32.toInt (pvu_s e76_); have w1 : Int32.toInt (M67_.1 124 17) = Int32.toInt (M24_.1 124 17) := congrArg Int32.toInt (pvu_n e68_ 124 17 (Or.inr (by decide))); have w2 : Int32.toInt (M24_.1 124 17) = Int32.toInt (M.1 124 17) := congrArg Int32.toInt (pvu_n e25_ 124 17 (Or.inr (by decide))); omega), (zQn_2 hok c8_ c15_ c19_ e25_ e68_ e76_ (zdig_t o77_ c89_ (Or.inr c100_)))⟩
                  · refine pw_eqI (if_neg c100_) ?_
                    have b103_ : 48 ≤ Int32.toInt (M75_.1 132 (Int32.toNatClampNeg (M75_.1 124 17))) ∧ Int32.toInt (M75_.1 132 (Int32.toNatClampNeg (M75_.1 124 17))) ≤ 57 := zr_nlt_r 57 c100_ b99_ (show 57 ≤ Int32.toInt 57 ∧ Int32.toInt 57 ≤ 57 from (by decide)) (by decide)
                    show PW 86 d (25, [some (pvR 124), some (pvI (0 + 1))], [pvI 1], M75_) _
                    refine pw_if hT (c := 1 = 0) rfl rfl (fun c104_ => absurd c104_ (by decide)) (fun c104_ => ?_)
                    have e105_ : (M75_.1 124 18) = (((10 * (M24_.1 124 18)) + (M24_.1 132 (Int32.toNatClampNeg (M24_.1 124 17)))) - 48) := ((pvu_n e76_ 124 18 (Or.inr (by decide))).trans (pvu_s e68_))
                    have b106_ : 0 ≤ Int32.toInt (M75_.1 124 18) ∧ Int32.toInt (M75_.1 124 18) ≤ 9 := (by rw [e105_]; exact b65_)
                    have q107_ : Int32.toInt (10 * (M75_.1 124 18)) = 10 * Int32.toInt (M75_.1 124 18) := by have u0 : Int32.toInt 10 = 10 := (by decide); have u1 := b106_; have u2 := zmul 10 (M75_.1 124 18) (by rw [u0]; omega) (by rw [u0]; omega); rw [u0] at u2; omega
                    have b108_ : 0 ≤ Int32.toInt (10 * (M75_.1 124 18)) ∧ Int32.toInt (10 * (M75_.1 124 18)) ≤ 90 := (by have u1 := b106_; omega)
                    refine pw_blk hT 6 (S' := (37, [some (pvR 124), some (pvI (0 + 1))], [pvR 124, pvI (10 * (M75_.1 124 18)), pvR 124], M75_)) rfl ⟨trivial, trivial, trivial, rfl, trivial, trivial, trivial⟩ ?_
                    refine pw_callT hT (as := [pvR 124]) (lo1 := [some (pvR 124)]) (d1 := d) (rest := [pvI (10 * (M75_.1 124 18)), pvR 124]) rfl rfl rfl rfl rfl (fun _ => rfl) (Nat.zero_le _) rfl rfl rfl (sf_X10_peek_124 M75_ o77_ d) ?_
                    refine pw_eqI (if_neg c89_) ?_
                    show PW 86 d (40, [some (pvR 124), some (pvI (0 + 1))], [pvI (M75_.1 132 (Int32.toNatClampNeg (M75_.1 124 17))), pvI (10 * (M75_.1 124 18)), pvR 124], M75_) _
                    obtain ⟨q115_, b114_⟩ : (Int32.toInt ((10 * (M75_.1 124 18)) + (M75_.1 132 (Int32.toNatClampNeg (M75_.1 124 17)))) = Int32.toInt (10 * (M75_.1 124 18)) + Int32.toInt (M75_.1 132 (Int32.toNatClampNeg (M75_.1 124 17)))) ∧ (48 ≤ Int32.toInt ((10 * (M75_.1 124 18)) + (M75_.1 132 (Int32.toNatClampNeg (M75_.1 124 17)))) ∧ Int32.toInt ((10 * (M75_.1 124 18)) + (M75_.1 132 (Int32.toNatClampNeg (M75_.1 124 17)))) ≤ 147) := zadd_r (10 * (M75_.1 124 18)) (M75_.1 132 (Int32.toNatClampNeg (M75_.1 124 17))) 48 147 b108_ b103_ (by decide) (by decide) (by decide) (by decide)
                    obtain ⟨q117_, b116_⟩ : (Int32.toInt (((10 * (M75_.1 124 18)) + (M75_.1 132 (Int32.toNatClampNeg (M75_.1 124 17)))) - 48) = Int32.toInt ((10 * (M75_.1 124 18)) + (M75_.1 132 (Int32.toNatClampNeg (M75_.1 124 17)))) - 48) ∧ (0 ≤ Int32.toInt (((10 * (M75_.1 124 18)) + (M75_.1 132 (Int32.toNatClampNeg (M75_.1 124 17)))) - 48) ∧ Int32.toInt (((10 * (M75_.1 124 18)) + (M75_.1 132 (Int32.toNatClampNeg (M75_.1 124 17)))) - 48) ≤ 99) := zsub_k ((10 * (M75_.1 124 18)) + (M75_.1 132 (Int32.toNatClampNeg (M75_.1 124 17)))) 48 48 0 99 b114_ (by decide) (by decide) (by decide) (by decide) (by decide)
                    refine pw_blkw hT 4 (pc := 47) (lo := [some (pvR 124), some (pvI (0 + 1))]) (st := []) (M := pvu M75_ 124 18 (((10 * (M75_.1 124 18)) + (M75_.1 132 (Int32.toNatClampNeg (M75_.1 124 17)))) - 48)) rfl ⟨trivial, trivial, trivial, rfl, trivial⟩ (fun M118_ e119_ => ?_)
                    have o120_ : pvOk M118_ := pvok_u2 e119_ o77_ rfl b116_
                    have f121_ : pvFr fp_eX10_takesNumber_124 M M118_ := pvfr_u e119_ f78_ rfl
                    have e122_ : (M118_.1 124 17) = (M75_.1 124 17) := (pvu_n e119_ 124 17 (Or.inr (by decide)))
                    have b123_ : 1 ≤ Int32.toInt (M118_.1 124 17) ∧ Int32.toInt (M118_.1 124 17) ≤ 99 := (by rw [e122_]; exact b93_)
                    obtain ⟨q125_, b124_⟩ : (Int32.toInt ((M118_.1 124 17) + 1) = Int32.toInt (M118_.1 124 17) + 1) ∧ (2 ≤ Int32.toInt ((M118_.1 124 17) + 1) ∧ Int32.toInt ((M118_.1 124 17) + 1) ≤ 100) := zadd_k (M118_.1 124 17) 1 1 2 100 b123_ (by decide) (by decide) (by decide) (by decide) (by decide)
                    refine pw_blkw hT 6 (pc := 57) (lo := [some (pvR 124), some (pvI (0 + 1))]) (st := []) (M := pvu M118_ 124 17 ((M118_.1 124 17) + 1)) rfl ⟨trivial, trivial, rfl, trivial, trivial, rfl, trivial⟩ (fun M126_ e127_ => ?_)
                    have o128_ : pvOk M126_ := pvok_u2 e127_ o120_ rfl (zr_wide b124_ (by decide) (by decide))
                    have f129_ : pvFr fp_eX10_takesNumber_124 M M126_ := pvfr_u e127_ f121_ rfl
                    refine pw_blk hT 2 (S' := (16, [some (pvR 124), some (pvI ((0 + 1) + 1))], [], M126_)) rfl ⟨trivial, trivial, trivial⟩ ?_
                    refine pw_blk hT 2 (S' := (18, [some (pvR 124), some (pvI ((0 + 1) + 1))], [pvI 2, pvI ((0 + 1) + 1)], M126_)) rfl ⟨trivial, trivial, trivial⟩ ?_
                    refine pw_ic hT (c := 2 ≤ ((0 + 1) + 1)) rfl rfl (fun c130_ => ?_) (fun c130_ => absurd (by decide) c130_)
                    refine pw_blk hT 1 (S' := (64, [some (pvR 124), some (pvI ((0 + 1) + 1))], [pvI 1], M126_)) rfl ⟨trivial, trivial⟩ ?_
                    exact pw_ret hT rfl (r := some (pvI 1)) (M' := M126_) ⟨Or.inr rfl, rfl, rfl⟩ ⟨⟨_, rfl, (zr_wide (show 1 ≤ Int32.toInt 1 ∧ Int32.toInt 1 ≤ 1 from (by decide)) (by decide) (by decide))⟩, o128_, f129_, (by have w0 : Int32.toInt (M126_.1 124 17) = Int32.toInt ((M118_.1 124 17) + 1) := congrArg Int32.toInt (pvu_s e127_); have w1 : Int32.toInt (M118_.1 124 17) = Int32.toInt (M75_.1 124 17) := congrArg Int32.toInt (pvu_n e119_ 124 17 (Or.inr (by decide))); have w2 : Int32.toInt (M75_.1 124 17) = Int32.toInt ((M67_.1 124 17) + 1) := congrArg Int32.toInt (pvu_s e76_); have w3 : Int32.toInt (M67_.1 124 17) = Int32.toInt (M24_.1 124 17) := congrArg Int32.toInt (pvu_n e68_ 124 17 (Or.inr (by decide))); have w4 : Int32.toInt (M24_.1 124 17) = Int32.toInt (M.1 124 17) := congrArg Int32.toInt (pvu_n e25_ 124 17 (Or.inr (by decide))); omega), (zQn_3 hok c8_ c15_ c19_ e25_ e68_ e76_ o77_ c89_ c96_ c100_ e119_ e127_)⟩
set_option maxHeartbeats 4000000 in
set_option maxRecDepth 10000 in
theorem se_X10_place_124_x (M : pvM) (hok : pvOk M) (n1 : Int32) (d : Nat) : PW 65 d (0, [some (pvR 124), some (pvI n1)], [], M) (fun r X => (∃ x : Int32, r = some (pvI x) ∧ ((-1) ≤ Int32.toInt x ∧ Int32.toInt x ≤ 5) ∧ (0 ≤ Int32.toInt n1 ∨ Int32.toInt x ≤ -1) ∧ x = zlf n1) ∧ X = M) := by
  have hT : pvdom 65 = pvD_65 := rfl
  refine pw_blk hT 1 (S' := (1, [some (pvR 124), some (pvI n1)], [pvI n1], M)) rfl ⟨trivial, trivial⟩ ?_
  refine pw_sw hT rfl rfl ?_
  refine And.intro (fun c1_ => ?_) (fun c1_ => ?_)
  · show PW 65 d (92, [some (pvR 124), some (pvI n1)], [], M) _
    have b2_ : 102 ≤ Int32.toInt n1 ∧ Int32.toInt n1 ≤ 102 := (by have u0 := (zbnd n1); have u1 := (zi_eq _ _).mp c1_; have u2 := (show 102 ≤ Int32.toInt 102 ∧ Int32.toInt 102 ≤ 102 from (by decide)); omega)
    refine pw_blk hT 1 (S' := (93, [some (pvR 124), some (pvI n1)], [pvI 2], M)) rfl ⟨trivial, trivial⟩ ?_
    exact pw_ret hT rfl (r := some (pvI 2)) (M' := M) ⟨rfl, rfl⟩ ⟨⟨_, rfl, (zr_wide (show 2 ≤ Int32.toInt 2 ∧ Int32.toInt 2 ≤ 2 from (by decide)) (by decide) (by decide)), (by have u9 : Int32.toInt 0 = 0 := (by decide); have u8 : Int32.toInt (-1) = -1 := (by decide); omega), (by rw [c1_]; decide)⟩, rfl⟩
  · refine And.intro (fun c3_ => ?_) (fun c3_ => ?_)
    · show PW 65 d (100, [some (pvR 124), some (pvI n1)], [], M) _
      have b4_ : 103 ≤ Int32.toInt n1 ∧ Int32.toInt n1 ≤ 103 := (by have u0 := (zbnd n1); have u1 := (zi_eq _ _).mp c3_; have u2 := (show 103 ≤ Int32.toInt 103 ∧ Int32.toInt 103 ≤ 103 from (by decide)); omega)
      refine pw_blk hT 1 (S' := (101, [some (pvR 124), some (pvI n1)], [pvI (-1)], M)) rfl ⟨trivial, trivial⟩ ?_
      exact pw_ret hT rfl (r := some (pvI (-1))) (M' := M) ⟨rfl, rfl⟩ ⟨⟨_, rfl, (zr_wide (show (-1) ≤ Int32.toInt (-1) ∧ Int32.toInt (-1) ≤ (-1) from (by decide)) (by decide) (by decide)), (by have u9 : Int32.toInt 0 = 0 := (by decide); have u8 : Int32.toInt (-1) = -1 := (by decide); omega), (by rw [c3_]; decide)⟩, rfl⟩
    · refine And.intro (fun c5_ => ?_) (fun c5_ => ?_)
      · show PW 65 d (100, [some (pvR 124), some (pvI n1)], [], M) _
        have b6_ : 104 ≤ Int32.toInt n1 ∧ Int32.toInt n1 ≤ 104 := (by have u0 := (zbnd n1); have u1 := (zi_eq _ _).mp c5_; have u2 := (show 104 ≤ Int32.toInt 104 ∧ Int32.toInt 104 ≤ 104 from (by decide)); omega)
        refine pw_blk hT 1 (S' := (101, [some (pvR 124), some (pvI n1)], [pvI (-1)], M)) rfl ⟨trivial, trivial⟩ ?_
        exact pw_ret hT rfl (r := some (pvI (-1))) (M' := M) ⟨rfl, rfl⟩ ⟨⟨_, rfl, (zr_wide (show (-1) ≤ Int32.toInt (-1) ∧ Int32.toInt (-1) ≤ (-1) from (by decide)) (by decide) (by decide)), (by have u9 : Int32.toInt 0 = 0 := (by decide); have u8 : Int32.toInt (-1) = -1 := (by decide); omega), (by rw [c5_]; decide)⟩, rfl⟩
      · refine And.intro (fun c7_ => ?_) (fun c7_ => ?_)
        · show PW 65 d (100, [some (pvR 124), some (pvI n1)], [], M) _
          have b8_ : 105 ≤ Int32.toInt n1 ∧ Int32.toInt n1 ≤ 105 := (by have u0 := (zbnd n1); have u1 := (zi_eq _ _).mp c7_; have u2 := (show 105 ≤ Int32.toInt 105 ∧ Int32.toInt 105 ≤ 105 from (by decide)); omega)
          refine pw_blk hT 1 (S' := (101, [some (pvR 124), some (pvI n1)], [pvI (-1)], M)) rfl ⟨trivial, trivial⟩ ?_
          exact pw_ret hT rfl (r := some (pvI (-1))) (M' := M) ⟨rfl, rfl⟩ ⟨⟨_, rfl, (zr_wide (show (-1) ≤ Int32.toInt (-1) ∧ Int32.toInt (-1) ≤ (-1) from (by decide)) (by decide) (by decide)), (by have u9 : Int32.toInt 0 = 0 := (by decide); have u8 : Int32.toInt (-1) = -1 := (by decide); omega), (by rw [c7_]; decide)⟩, rfl⟩
        · refine And.intro (fun c9_ => ?_) (fun c9_ => ?_)
          · show PW 65 d (100, [some (pvR 124), some (pvI n1)], [], M) _
            have b10_ : 106 ≤ Int32.toInt n1 ∧ Int32.toInt n1 ≤ 106 := (by have u0 := (zbnd n1); have u1 := (zi_eq _ _).mp c9_; have u2 := (show 106 ≤ Int32.toInt 106 ∧ Int32.toInt 106 ≤ 106 from (by decide)); omega)
            refine pw_blk hT 1 (S' := (101, [some (pvR 124), some (pvI n1)], [pvI (-1)], M)) rfl ⟨trivial, trivial⟩ ?_
            exact pw_ret hT rfl (r := some (pvI (-1))) (M' := M) ⟨rfl, rfl⟩ ⟨⟨_, rfl, (zr_wide (show (-1) ≤ Int32.toInt (-1) ∧ Int32.toInt (-1) ≤ (-1) from (by decide)) (by decide) (by decide)), (by have u9 : Int32.toInt 0 = 0 := (by decide); have u8 : Int32.toInt (-1) = -1 := (by decide); omega), (by rw [c9_]; decide)⟩, rfl⟩
          · refine And.intro (fun c11_ => ?_) (fun c11_ => ?_)
            · show PW 65 d (90, [some (pvR 124), some (pvI n1)], [], M) _
              have b12_ : 107 ≤ Int32.toInt n1 ∧ Int32.toInt n1 ≤ 107 := (by have u0 := (zbnd n1); have u1 := (zi_eq _ _).mp c11_; have u2 := (show 107 ≤ Int32.toInt 107 ∧ Int32.toInt 107 ≤ 107 from (by decide)); omega)
              refine pw_blk hT 1 (S' := (91, [some (pvR 124), some (pvI n1)], [pvI 1], M)) rfl ⟨trivial, trivial⟩ ?_
              exact pw_ret hT rfl (r := some (pvI 1)) (M' := M) ⟨rfl, rfl⟩ ⟨⟨_, rfl, (zr_wide (show 1 ≤ Int32.toInt 1 ∧ Int32.toInt 1 ≤ 1 from (by decide)) (by decide) (by decide)), (by have u9 : Int32.toInt 0 = 0 := (by decide); have u8 : Int32.toInt (-1) = -1 := (by decide); omega), (by rw [c11_]; decide)⟩, rfl⟩
            · refine And.intro (fun c13_ => ?_) (fun c13_ => ?_)
              · show PW 65 d (100, [some (pvR 124), some (pvI n1)], [], M) _
                have b14_ : 108 ≤ Int32.toInt n1 ∧ Int32.toInt n1 ≤ 108 := (by have u0 := (zbnd n1); have u1 := (zi_eq _ _).mp c13_; have u2 := (show 108 ≤ Int32.toInt 108 ∧ Int32.toInt 108 ≤ 108 from (by decide)); omega)
                refine pw_blk hT 1 (S' := (101, [some (pvR 124), some (pvI n1)], [pvI (-1)], M)) rfl ⟨trivial, trivial⟩ ?_
                exact pw_ret hT rfl (r := some (pvI (-1))) (M' := M) ⟨rfl, rfl⟩ ⟨⟨_, rfl, (zr_wide (show (-1) ≤ Int32.toInt (-1) ∧ Int32.toInt (-1) ≤ (-1) from (by decide)) (by decide) (by decide)), (by have u9 : Int32.toInt 0 = 0 := (by decide); have u8 : Int32.toInt (-1) = -1 := (by decide); omega), (by rw [c13_]; decide)⟩, rfl⟩
              · refine And.intro (fun c15_ => ?_) (fun c15_ => ?_)
                · show PW 65 d (100, [some (pvR 124), some (pvI n1)], [], M) _
                  have b16_ : 109 ≤ Int32.toInt n1 ∧ Int32.toInt n1 ≤ 109 := (by have u0 := (zbnd n1); have u1 := (zi_eq _ _).mp c15_; have u2 := (show 109 ≤ Int32.toInt 109 ∧ Int32.toInt 109 ≤ 109 from (by decide)); omega)
                  refine pw_blk hT 1 (S' := (101, [some (pvR 124), some (pvI n1)], [pvI (-1)], M)) rfl ⟨trivial, trivial⟩ ?_
                  exact pw_ret hT rfl (r := some (pvI (-1))) (M' := M) ⟨rfl, rfl⟩ ⟨⟨_, rfl, (zr_wide (show (-1) ≤ Int32.toInt (-1) ∧ Int32.toInt (-1) ≤ (-1) from (by decide)) (by decide) (by decide)), (by have u9 : Int32.toInt 0 = 0 := (by decide); have u8 : Int32.toInt (-1) = -1 := (by decide); omega), (by rw [c15_]; decide)⟩, rfl⟩
                · refine And.intro (fun c17_ => ?_) (fun c17_ => ?_)
                  · show PW 65 d (100, [some (pvR 124), some (pvI n1)], [], M) _
                    have b18_ : 110 ≤ Int32.toInt n1 ∧ Int32.toInt n1 ≤ 110 := (by have u0 := (zbnd n1); have u1 := (zi_eq _ _).mp c17_; have u2 := (show 110 ≤ Int32.toInt 110 ∧ Int32.toInt 110 ≤ 110 from (by decide)); omega)
                    refine pw_blk hT 1 (S' := (101, [some (pvR 124), some (pvI n1)], [pvI (-1)], M)) rfl ⟨trivial, trivial⟩ ?_
                    exact pw_ret hT rfl (r := some (pvI (-1))) (M' := M) ⟨rfl, rfl⟩ ⟨⟨_, rfl, (zr_wide (show (-1) ≤ Int32.toInt (-1) ∧ Int32.toInt (-1) ≤ (-1) from (by decide)) (by decide) (by decide)), (by have u9 : Int32.toInt 0 = 0 := (by decide); have u8 : Int32.toInt (-1) = -1 := (by decide); omega), (by rw [c17_]; decide)⟩, rfl⟩
                  · refine And.intro (fun c19_ => ?_) (fun c19_ => ?_)
                    · show PW 65 d (100, [some (pvR 124), some (pvI n1)], [], M) _
                      have b20_ : 111 ≤ Int32.toInt n1 ∧ Int32.toInt n1 ≤ 111 := (by have u0 := (zbnd n1); have u1 := (zi_eq _ _).mp c19_; have u2 := (show 111 ≤ Int32.toInt 111 ∧ Int32.toInt 111 ≤ 111 from (by decide)); omega)
                      refine pw_blk hT 1 (S' := (101, [some (pvR 124), some (pvI n1)], [pvI (-1)], M)) rfl ⟨trivial, trivial⟩ ?_
                      exact pw_ret hT rfl (r := some (pvI (-1))) (M' := M) ⟨rfl, rfl⟩ ⟨⟨_, rfl, (zr_wide (show (-1) ≤ Int32.toInt (-1) ∧ Int32.toInt (-1) ≤ (-1) from (by decide)) (by decide) (by decide)), (by have u9 : Int32.toInt 0 = 0 := (by decide); have u8 : Int32.toInt (-1) = -1 := (by decide); omega), (by rw [c19_]; decide)⟩, rfl⟩
                    · refine And.intro (fun c21_ => ?_) (fun c21_ => ?_)
                      · show PW 65 d (100, [some (pvR 124), some (pvI n1)], [], M) _
                        have b22_ : 112 ≤ Int32.toInt n1 ∧ Int32.toInt n1 ≤ 112 := (by have u0 := (zbnd n1); have u1 := (zi_eq _ _).mp c21_; have u2 := (show 112 ≤ Int32.toInt 112 ∧ Int32.toInt 112 ≤ 112 from (by decide)); omega)
                        refine pw_blk hT 1 (S' := (101, [some (pvR 124), some (pvI n1)], [pvI (-1)], M)) rfl ⟨trivial, trivial⟩ ?_
                        exact pw_ret hT rfl (r := some (pvI (-1))) (M' := M) ⟨rfl, rfl⟩ ⟨⟨_, rfl, (zr_wide (show (-1) ≤ Int32.toInt (-1) ∧ Int32.toInt (-1) ≤ (-1) from (by decide)) (by decide) (by decide)), (by have u9 : Int32.toInt 0 = 0 := (by decide); have u8 : Int32.toInt (-1) = -1 := (by decide); omega), (by rw [c21_]; decide)⟩, rfl⟩
                      · refine And.intro (fun c23_ => ?_) (fun c23_ => ?_)
                        · show PW 65 d (100, [some (pvR 124), some (pvI n1)], [], M) _
                          have b24_ : 113 ≤ Int32.toInt n1 ∧ Int32.toInt n1 ≤ 113 := (by have u0 := (zbnd n1); have u1 := (zi_eq _ _).mp c23_; have u2 := (show 113 ≤ Int32.toInt 113 ∧ Int32.toInt 113 ≤ 113 from (by decide)); omega)
                          refine pw_blk hT 1 (S' := (101, [some (pvR 124), some (pvI n1)], [pvI (-1)], M)) rfl ⟨trivial, trivial⟩ ?_
                          exact pw_ret hT rfl (r := some (pvI (-1))) (M' := M) ⟨rfl, rfl⟩ ⟨⟨_, rfl, (zr_wide (show (-1) ≤ Int32.toInt (-1) ∧ Int32.toInt (-1) ≤ (-1) from (by decide)) (by decide) (by decide)), (by have u9 : Int32.toInt 0 = 0 := (by decide); have u8 : Int32.toInt (-1) = -1 := (by decide); omega), (by rw [c23_]; decide)⟩, rfl⟩
                        · refine And.intro (fun c25_ => ?_) (fun c25_ => ?_)
                          · show PW 65 d (94, [some (pvR 124), some (pvI n1)], [], M) _
                            have b26_ : 114 ≤ Int32.toInt n1 ∧ Int32.toInt n1 ≤ 114 := (by have u0 := (zbnd n1); have u1 := (zi_eq _ _).mp c25_; have u2 := (show 114 ≤ Int32.toInt 114 ∧ Int32.toInt 114 ≤ 114 from (by decide)); omega)
                            refine pw_blk hT 1 (S' := (95, [some (pvR 124), some (pvI n1)], [pvI 3], M)) rfl ⟨trivial, trivial⟩ ?_
                            exact pw_ret hT rfl (r := some (pvI 3)) (M' := M) ⟨rfl, rfl⟩ ⟨⟨_, rfl, (zr_wide (show 3 ≤ Int32.toInt 3 ∧ Int32.toInt 3 ≤ 3 from (by decide)) (by decide) (by decide)), (by have u9 : Int32.toInt 0 = 0 := (by decide); have u8 : Int32.toInt (-1) = -1 := (by decide); omega), (by rw [c25_]; decide)⟩, rfl⟩
                          · refine And.intro (fun c27_ => ?_) (fun c27_ => ?_)
                            · show PW 65 d (96, [some (pvR 124), some (pvI n1)], [], M) _
                              have b28_ : 115 ≤ Int32.toInt n1 ∧ Int32.toInt n1 ≤ 115 := (by have u0 := (zbnd n1); have u1 := (zi_eq _ _).mp c27_; have u2 := (show 115 ≤ Int32.toInt 115 ∧ Int32.toInt 115 ≤ 115 from (by decide)); omega)
                              refine pw_blk hT 1 (S' := (97, [some (pvR 124), some (pvI n1)], [pvI 4], M)) rfl ⟨trivial, trivial⟩ ?_
                              exact pw_ret hT rfl (r := some (pvI 4)) (M' := M) ⟨rfl, rfl⟩ ⟨⟨_, rfl, (zr_wide (show 4 ≤ Int32.toInt 4 ∧ Int32.toInt 4 ≤ 4 from (by decide)) (by decide) (by decide)), (by have u9 : Int32.toInt 0 = 0 := (by decide); have u8 : Int32.toInt (-1) = -1 := (by decide); omega), (by rw [c27_]; decide)⟩, rfl⟩
                            · refine And.intro (fun c29_ => ?_) (fun c29_ => ?_)
                              · show PW 65 d (98, [some (pvR 124), some (pvI n1)], [], M) _
                                have b30_ : 116 ≤ Int32.toInt n1 ∧ Int32.toInt n1 ≤ 116 := (by have u0 := (zbnd n1); have u1 := (zi_eq _ _).mp c29_; have u2 := (show 116 ≤ Int32.toInt 116 ∧ Int32.toInt 116 ≤ 116 from (by decide)); omega)
                                refine pw_blk hT 1 (S' := (99, [some (pvR 124), some (pvI n1)], [pvI 5], M)) rfl ⟨trivial, trivial⟩ ?_
                                exact pw_ret hT rfl (r := some (pvI 5)) (M' := M) ⟨rfl, rfl⟩ ⟨⟨_, rfl, (zr_wide (show 5 ≤ Int32.toInt 5 ∧ Int32.toInt 5 ≤ 5 from (by decide)) (by decide) (by decide)), (by have u9 : Int32.toInt 0 = 0 := (by decide); have u8 : Int32.toInt (-1) = -1 := (by decide); omega), (by rw [c29_]; decide)⟩, rfl⟩
                              · refine And.intro (fun c31_ => ?_) (fun c31_ => ?_)
                                · show PW 65 d (100, [some (pvR 124), some (pvI n1)], [], M) _
                                  have b32_ : 117 ≤ Int32.toInt n1 ∧ Int32.toInt n1 ≤ 117 := (by have u0 := (zbnd n1); have u1 := (zi_eq _ _).mp c31_; have u2 := (show 117 ≤ Int32.toInt 117 ∧ Int32.toInt 117 ≤ 117 from (by decide)); omega)
                                  refine pw_blk hT 1 (S' := (101, [some (pvR 124), some (pvI n1)], [pvI (-1)], M)) rfl ⟨trivial, trivial⟩ ?_
                                  exact pw_ret hT rfl (r := some (pvI (-1))) (M' := M) ⟨rfl, rfl⟩ ⟨⟨_, rfl, (zr_wide (show (-1) ≤ Int32.toInt (-1) ∧ Int32.toInt (-1) ≤ (-1) from (by decide)) (by decide) (by decide)), (by have u9 : Int32.toInt 0 = 0 := (by decide); have u8 : Int32.toInt (-1) = -1 := (by decide); omega), (by rw [c31_]; decide)⟩, rfl⟩
                                · refine And.intro (fun c33_ => ?_) (fun c33_ => ?_)
                                  · show PW 65 d (100, [some (pvR 124), some (pvI n1)], [], M) _
                                    have b34_ : 118 ≤ Int32.toInt n1 ∧ Int32.toInt n1 ≤ 118 := (by have u0 := (zbnd n1); have u1 := (zi_eq _ _).mp c33_; have u2 := (show 118 ≤ Int32.toInt 118 ∧ Int32.toInt 118 ≤ 118 from (by decide)); omega)
                                    refine pw_blk hT 1 (S' := (101, [some (pvR 124), some (pvI n1)], [pvI (-1)], M)) rfl ⟨trivial, trivial⟩ ?_
                                    exact pw_ret hT rfl (r := some (pvI (-1))) (M' := M) ⟨rfl, rfl⟩ ⟨⟨_, rfl, (zr_wide (show (-1) ≤ Int32.toInt (-1) ∧ Int32.toInt (-1) ≤ (-1) from (by decide)) (by decide) (by decide)), (by have u9 : Int32.toInt 0 = 0 := (by decide); have u8 : Int32.toInt (-1) = -1 := (by decide); omega), (by rw [c33_]; decide)⟩, rfl⟩
                                  · refine And.intro (fun c35_ => ?_) (fun c35_ => ?_)
                                    · show PW 65 d (88, [some (pvR 124), some (pvI n1)], [], M) _
                                      have b36_ : 119 ≤ Int32.toInt n1 ∧ Int32.toInt n1 ≤ 119 := (by have u0 := (zbnd n1); have u1 := (zi_eq _ _).mp c35_; have u2 := (show 119 ≤ Int32.toInt 119 ∧ Int32.toInt 119 ≤ 119 from (by decide)); omega)
                                      refine pw_blk hT 1 (S' := (89, [some (pvR 124), some (pvI n1)], [pvI 0], M)) rfl ⟨trivial, trivial⟩ ?_
                                      exact pw_ret hT rfl (r := some (pvI 0)) (M' := M) ⟨rfl, rfl⟩ ⟨⟨_, rfl, (zr_wide (show 0 ≤ Int32.toInt 0 ∧ Int32.toInt 0 ≤ 0 from (by decide)) (by decide) (by decide)), (by have u9 : Int32.toInt 0 = 0 := (by decide); have u8 : Int32.toInt (-1) = -1 := (by decide); omega), (by rw [c35_]; decide)⟩, rfl⟩
                                    · show PW 65 d (100, [some (pvR 124), some (pvI n1)], [], M) _
                                      refine pw_blk hT 1 (S' := (101, [some (pvR 124), some (pvI n1)], [pvI (-1)], M)) rfl ⟨trivial, trivial⟩ ?_
                                      exact pw_ret hT rfl (r := some (pvI (-1))) (M' := M) ⟨rfl, rfl⟩ ⟨⟨_, rfl, (zr_wide (show (-1) ≤ Int32.toInt (-1) ∧ Int32.toInt (-1) ≤ (-1) from (by decide)) (by decide) (by decide)), (by have u9 : Int32.toInt 0 = 0 := (by decide); have u8 : Int32.toInt (-1) = -1 := (by decide); omega), (by rw [← zplc, if_neg c1_, if_neg c11_, if_neg c25_, if_neg c27_, if_neg c29_, if_neg c35_])⟩, rfl⟩
