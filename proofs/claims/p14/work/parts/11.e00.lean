def fpL_eX10_add_124_x : List (Nat × Nat × Nat) := [(0, 124, 38), (0, 145, 0)]
def fp_eX10_add_124_x (q k : Nat) : Bool := pvfp fpL_eX10_add_124_x q k
set_option maxHeartbeats 4000000 in
set_option maxRecDepth 10000 in
theorem se_X10_add_124_x (M : pvM) (hok : pvOk M) (n1 : Int32) (d : Nat) : PW 6 d (0, [some (pvR 124), some (pvI n1), none], [], M) (fun r X => (∃ x : Int32, r = some (pvI x) ∧ ((-4) ≤ Int32.toInt x ∧ Int32.toInt x ≤ 7) ∧ x = (if n1 = (-1) then 0 else (if n1 < 0 then (-1) else (if ((M.1 124 0) - 1) < n1 then (-1) else (if zhas (M.1 145) (Int32.toNatClampNeg (M.1 124 37)) n1 then (-2) else (if (M.1 124 37) = 7 then (-4) else ((M.1 124 37) + 1))))))) ∧ pvOk X ∧ pvFr fp_eX10_add_124_x M X ∧ zAd 124 37 145 7 n1 r M X ∧ X.1 124 37 = (if n1 = (-1) then 0 else (if n1 < 0 then (M.1 124 37) else (if ((M.1 124 0) - 1) < n1 then (M.1 124 37) else (if zhas (M.1 145) (Int32.toNatClampNeg (M.1 124 37)) n1 then (M.1 124 37) else (if (M.1 124 37) = 7 then (M.1 124 37) else ((M.1 124 37) + 1))))))) := by
  have hT : pvdom 6 = pvD_6 := rfl
  refine pw_blk hT 2 (S' := (2, [some (pvR 124), some (pvI n1), none], [pvI (-1), pvI n1], M)) rfl ⟨trivial, trivial, trivial⟩ ?_
  refine pw_icn hT (c := n1 = (-1)) rfl rfl (fun c1_ => ?_) (fun c1_ => ?_)
  · refine pw_blk hT 2 (S' := (14, [some (pvR 124), some (pvI n1), none], [pvI n1, pvR 124], M)) rfl ⟨trivial, trivial, trivial⟩ ?_
    refine pw_callT hT (as := [pvR 124, pvI n1]) (lo1 := [some (pvR 124), some (pvI n1)]) (d1 := d) (rest := []) rfl rfl rfl rfl rfl (fun _ => rfl) (Nat.zero_le _) rfl rfl rfl (sf_X10_isWindow_124_x M hok n1 d) ?_
    by_cases c7_ : n1 < 0
    · refine pw_eqI (if_pos c7_) ?_
      have b8_ : (-2147483648) ≤ Int32.toInt n1 ∧ Int32.toInt n1 ≤ (-2) := (by have u0 := (zbnd n1); have u9 := (show _ ∧ _ from ⟨(zi_lt _ _).mp c7_, (show 0 ≤ Int32.toInt 0 ∧ Int32.toInt 0 ≤ 0 from (by decide))⟩); have v1 := (not_congr (zi_eq _ _)).mp c1_; have w1 : ((-1) : Int32).toInt = -1 := (by decide); omega)
      show PW 6 d (17, [some (pvR 124), some (pvI n1), none], [pvI 0], M) _
      refine pw_ifn hT (c := 0 = 0) rfl rfl (fun c9_ => absurd (by decide) c9_) (fun c9_ => ?_)
      refine pw_blk hT 1 (S' := (21, [some (pvR 124), some (pvI n1), none], [pvI (-1)], M)) rfl ⟨trivial, trivial⟩ ?_
      exact pw_ret hT rfl (r := some (pvI (-1))) (M' := M) ⟨rfl, rfl⟩ ⟨⟨_, rfl, (zr_wide (show (-1) ≤ Int32.toInt (-1) ∧ Int32.toInt (-1) ≤ (-1) from (by decide)) (by decide) (by decide)), (by rw [if_neg c1_, if_pos c7_]; first | done | (rw [if_pos c7_]; done))⟩, hok, pvfr_0, ⟨_, rfl, Or.inl ⟨by decide, rfl, fun i _ => rfl⟩⟩, (by rw [if_neg c1_, if_pos c7_]; first | done | exact rfl | (rw [if_pos c7_]; done) | (rw [if_pos c7_]; exact rfl))⟩
    · refine pw_eqI (if_neg c7_) ?_
      have b10_ : 0 ≤ Int32.toInt n1 ∧ Int32.toInt n1 ≤ 2147483647 := zr_nlt_l 0 c7_ (zbnd n1) (show 0 ≤ Int32.toInt 0 ∧ Int32.toInt 0 ≤ 0 from (by decide)) (by decide)
      have b11_ : 0 ≤ Int32.toInt (M.1 124 0) ∧ Int32.toInt (M.1 124 0) ≤ 7 := pvok_r hok 124 0 rfl
      obtain ⟨q13_, b12_⟩ : (Int32.toInt ((M.1 124 0) - 1) = Int32.toInt (M.1 124 0) - 1) ∧ ((-1) ≤ Int32.toInt ((M.1 124 0) - 1) ∧ Int32.toInt ((M.1 124 0) - 1) ≤ 6) := zsub_k (M.1 124 0) 1 1 (-1) 6 b11_ (by decide) (by decide) (by decide) (by decide) (by decide)
      by_cases c14_ : ((M.1 124 0) - 1) < n1
      · refine pw_eqI (if_pos c14_) ?_
        have d15_ : Int32.toInt ((M.1 124 0) - 1) < Int32.toInt n1 := (zi_lt _ _).mp c14_
        show PW 6 d (17, [some (pvR 124), some (pvI n1), none], [pvI 0], M) _
        refine pw_ifn hT (c := 0 = 0) rfl rfl (fun c16_ => absurd (by decide) c16_) (fun c16_ => ?_)
        refine pw_blk hT 1 (S' := (21, [some (pvR 124), some (pvI n1), none], [pvI (-1)], M)) rfl ⟨trivial, trivial⟩ ?_
        exact pw_ret hT rfl (r := some (pvI (-1))) (M' := M) ⟨rfl, rfl⟩ ⟨⟨_, rfl, (zr_wide (show (-1) ≤ Int32.toInt (-1) ∧ Int32.toInt (-1) ≤ (-1) from (by decide)) (by decide) (by decide)), (by rw [if_neg c1_, if_neg c7_, if_pos c14_]; first | done | (rw [if_pos c14_]; done))⟩, hok, pvfr_0, ⟨_, rfl, Or.inl ⟨by decide, rfl, fun i _ => rfl⟩⟩, (by rw [if_neg c1_, if_neg c7_, if_pos c14_]; first | done | exact rfl | (rw [if_pos c14_]; done) | (rw [if_pos c14_]; exact rfl))⟩
      · refine pw_eqI (if_neg c14_) ?_
        have b17_ : 0 ≤ Int32.toInt ((M.1 124 0) - 1) ∧ Int32.toInt ((M.1 124 0) - 1) ≤ 6 := zr_nlt_l 0 c14_ b12_ b10_ (by decide)
        have b18_ : 0 ≤ Int32.toInt n1 ∧ Int32.toInt n1 ≤ 6 := zr_nlt_r 6 c14_ b10_ b17_ (by decide)
        have d19_ : Int32.toInt ((M.1 124 0) - 1) ≥ Int32.toInt n1 := Int.not_lt.mp ((not_congr (zi_lt _ _)).mp c14_)
        show PW 6 d (17, [some (pvR 124), some (pvI n1), none], [pvI 1], M) _
        refine pw_ifn hT (c := 1 = 0) rfl rfl (fun c20_ => ?_) (fun c20_ => absurd c20_ (by decide))
        refine pw_blk hT 2 (S' := (24, [some (pvR 124), some (pvI n1), some (pvI 0)], [], M)) rfl ⟨trivial, trivial, trivial⟩ ?_
        have hlz112_ : ∀ (nz112_ : Nat) (i2z112_ : Int32), (0 ≤ Int32.toInt i2z112_ ∧ Int32.toInt i2z112_ ≤ 7) → (∀ j : Nat, j < Int32.toNatClampNeg i2z112_ → M.1 145 j ≠ n1) → (zhide ((8 - Int32.toInt i2z112_).toNat < nz112_)) → PW 6 d (24, [some (pvR 124), some (pvI n1), some (pvI i2z112_)], [], M) (fun r X => (∃ x : Int32, r = some (pvI x) ∧ ((-4) ≤ Int32.toInt x ∧ Int32.toInt x ≤ 7) ∧ x = (if n1 = (-1) then 0 else (if n1 < 0 then (-1) else (if ((M.1 124 0) - 1) < n1 then (-1) else (if zhas (M.1 145) (Int32.toNatClampNeg (M.1 124 37)) n1 then (-2) else (if (M.1 124 37) = 7 then (-4) else ((M.1 124 37) + 1))))))) ∧ pvOk X ∧ pvFr fp_eX10_add_124_x M X ∧ zAd 124 37 145 7 n1 r M X ∧ X.1 124 37 = (if n1 = (-1) then 0 else (if n1 < 0 then (M.1 124 37) else (if ((M.1 124 0) - 1) < n1 then (M.1 124 37) else (if zhas (M.1 145) (Int32.toNatClampNeg (M.1 124 37)) n1 then (M.1 124 37) else (if (M.1 124 37) = 7 then (M.1 124 37) else ((M.1 124 37) + 1))))))) := by
          intro nz112_
          induction nz112_ with
          | zero => intro i2z112_ h2z112_ j0z112_ hmz112_; exact absurd (zshow hmz112_) (Nat.not_lt_zero _)
          | succ nz112_ ihz112_ =>
            intro i2z112_ h2z112_ j0z112_ hmz112_
            have b113_ : 0 ≤ Int32.toInt (M.1 124 37) ∧ Int32.toInt (M.1 124 37) ≤ 7 := pvok_r hok 124 37 rfl
            refine pw_blk hT 3 (S' := (29, [some (pvR 124), some (pvI n1), some (pvI i2z112_)], [pvI (M.1 124 37), pvI i2z112_], M)) rfl ⟨trivial, trivial, rfl, trivial⟩ ?_
            refine pw_ic hT (c := (M.1 124 37) ≤ i2z112_) rfl rfl (fun c114_ => ?_) (fun c114_ => ?_)
            · have d115_ : Int32.toInt (M.1 124 37) ≤ Int32.toInt i2z112_ := (zi_le _ _).mp c114_
              have c116_ : ¬ zhas (M.1 145) (Int32.toNatClampNeg (M.1 124 37)) n1 := (znm_o j0z112_ c114_)
              refine pw_blk hT 3 (S' := (57, [some (pvR 124), some (pvI n1), some (pvI i2z112_)], [pvI 7, pvI (M.1 124 37)], M)) rfl ⟨trivial, rfl, trivial, trivial⟩ ?_
              refine pw_icn hT (c := (M.1 124 37) = 7) rfl rfl (fun c117_ => ?_) (fun c117_ => ?_)
              · have b118_ : 0 ≤ Int32.toInt (M.1 124 37) ∧ Int32.toInt (M.1 124 37) ≤ 6 := (by have u0 := b113_; have u1 := (not_congr (zi_eq _ _)).mp c117_; have u2 := (show 7 ≤ Int32.toInt 7 ∧ Int32.toInt 7 ≤ 7 from (by decide)); omega)
                refine pw_blkw hT 6 (pc := 73) (lo := [some (pvR 124), some (pvI n1), some (pvI i2z112_)]) (st := []) (M := pvu M 145 (Int32.toNatClampNeg (M.1 124 37)) n1) rfl ⟨trivial, rfl, trivial, rfl, trivial, ⟨rfl, (zr_in (n := 7) b118_ (by decide) (by decide))⟩, trivial⟩ (fun M119_ e120_ => ?_)
                have o121_ : pvOk M119_ := pvok_u2 e120_ hok rfl b18_
                have f122_ : pvFr fp_eX10_add_124_x M M119_ := pvfr_u e120_ pvfr_0 rfl
                have e123_ : (M119_.1 124 37) = (M.1 124 37) := (pvu_n e120_ 124 37 (Or.inl (by decide)))
                have b124_ : 0 ≤ Int32.toInt (M119_.1 124 37) ∧ Int32.toInt (M119_.1 124 37) ≤ 6 := (by rw [e123_]; exact b118_)
                obtain ⟨q126_, b125_⟩ : (Int32.toInt ((M119_.1 124 37) + 1) = Int32.toInt (M119_.1 124 37) + 1) ∧ (1 ≤ Int32.toInt ((M119_.1 124 37) + 1) ∧ Int32.toInt ((M119_.1 124 37) + 1) ≤ 7) := zadd_k (M119_.1 124 37) 1 1 1 7 b124_ (by decide) (by decide) (by decide) (by decide) (by decide)
                refine pw_blkw hT 6 (pc := 83) (lo := [some (pvR 124), some (pvI n1), some (pvI i2z112_)]) (st := []) (M := pvu M119_ 124 37 ((M119_.1 124 37) + 1)) rfl ⟨trivial, trivial, rfl, trivial, trivial, rfl, trivial⟩ (fun M127_ e128_ => ?_)
                have o129_ : pvOk M127_ := pvok_u2 e128_ o121_ rfl (zr_wide b125_ (by decide) (by decide))
                have f130_ : pvFr fp_eX10_add_124_x M M127_ := pvfr_u e128_ f122_ rfl
                have e131_ : (M127_.1 124 37) = ((M119_.1 124 37) + 1) := (pvu_s e128_)
                have b132_ : 1 ≤ Int32.toInt (M127_.1 124 37) ∧ Int32.toInt (M127_.1 124 37) ≤ 7 := (by rw [e131_]; exact b125_)
                refine pw_blk hT 2 (S' := (87, [some (pvR 124), some (pvI n1), some (pvI i2z112_)], [pvI (M127_.1 124 37)], M127_)) rfl ⟨trivial, rfl, trivial⟩ ?_
                exact pw_ret hT rfl (r := some (pvI (M127_.1 124 37))) (M' := M127_) ⟨rfl, rfl⟩ ⟨⟨_, rfl, (zr_wide b132_ (by decide) (by decide)), (by rw [if_neg c1_, if_neg c7_, if_neg c14_, if_neg c116_, if_neg c117_]; first | done | exact (show (M127_.1 124 37) = ((M.1 124 37) + 1) from by rw [((pvu_s e128_).trans (show ((M119_.1 124 37) + 1) = ((M.1 124 37) + 1) from by rw [(pvu_n e120_ 124 37 (Or.inl (by decide)))]))]) | (rw [if_neg c117_]; exact (show (M127_.1 124 37) = ((M.1 124 37) + 1) from by rw [((pvu_s e128_).trans (show ((M119_.1 124 37) + 1) = ((M.1 124 37) + 1) from by rw [(pvu_n e120_ 124 37 (Or.inl (by decide)))]))])))⟩, o129_, f130_, (zAd_10 (by decide) (by decide) (by have u := b118_; omega) e120_ e128_ (show ((M119_.1 124 37) + 1) = ((M.1 124 37) + 1) from by rw [(pvu_n e120_ 124 37 (Or.inl (by decide)))])), (by rw [if_neg c1_, if_neg c7_, if_neg c14_, if_neg c116_, if_neg c117_]; first | done | exact ((pvu_s e128_).trans (show ((M119_.1 124 37) + 1) = ((M.1 124 37) + 1) from by rw [(pvu_n e120_ 124 37 (Or.inl (by decide)))])) | (rw [if_neg c117_]; done) | (rw [if_neg c117_]; exact ((pvu_s e128_).trans (show ((M119_.1 124 37) + 1) = ((M.1 124 37) + 1) from by rw [(pvu_n e120_ 124 37 (Or.inl (by decide)))]))))⟩
              · have b133_ : 7 ≤ Int32.toInt (M.1 124 37) ∧ Int32.toInt (M.1 124 37) ≤ 7 := (by have u0 := b113_; have u1 := (zi_eq _ _).mp c117_; have u2 := (show 7 ≤ Int32.toInt 7 ∧ Int32.toInt 7 ≤ 7 from (by decide)); omega)
                refine pw_blk hT 1 (S' := (62, [some (pvR 124), some (pvI n1), some (pvI i2z112_)], [pvI (-4)], M)) rfl ⟨trivial, trivial⟩ ?_
                exact pw_ret hT rfl (r := some (pvI (-4))) (M' := M) ⟨rfl, rfl⟩ ⟨⟨_, rfl, (zr_wide (show (-4) ≤ Int32.toInt (-4) ∧ Int32.toInt (-4) ≤ (-4) from (by decide)) (by decide) (by decide)), (by rw [if_neg c1_, if_neg c7_, if_neg c14_, if_neg c116_, if_pos c117_]; first | done | (rw [if_pos c117_]; done))⟩, hok, pvfr_0, ⟨_, rfl, Or.inl ⟨by decide, rfl, fun i _ => rfl⟩⟩, (by rw [if_neg c1_, if_neg c7_, if_neg c14_, if_neg c116_, if_pos c117_]; first | done | exact rfl | (rw [if_pos c117_]; done) | (rw [if_pos c117_]; exact rfl))⟩
            · have b134_ : 1 ≤ Int32.toInt (M.1 124 37) ∧ Int32.toInt (M.1 124 37) ≤ 7 := zr_nle_l 1 c114_ b113_ h2z112_ (by decide)
              have b135_ : 0 ≤ Int32.toInt i2z112_ ∧ Int32.toInt i2z112_ ≤ 6 := zr_nle_r 6 c114_ h2z112_ b134_ (by decide)
              have d136_ : Int32.toInt (M.1 124 37) > Int32.toInt i2z112_ := Int.not_le.mp ((not_congr (zi_le _ _)).mp c114_)
              have b137_ : 0 ≤ Int32.toInt (M.1 145 (Int32.toNatClampNeg i2z112_)) ∧ Int32.toInt (M.1 145 (Int32.toNatClampNeg i2z112_)) ≤ 6 := pvok_r hok 145 (Int32.toNatClampNeg i2z112_) rfl
              refine pw_blk hT 5 (S' := (39, [some (pvR 124), some (pvI n1), some (pvI i2z112_)], [pvI n1, pvI (M.1 145 (Int32.toNatClampNeg i2z112_))], M)) rfl ⟨trivial, rfl, trivial, ⟨rfl, (zr_in (n := 7) b135_ (by decide) (by decide))⟩, trivial, trivial⟩ ?_
              refine pw_icn hT (c := (M.1 145 (Int32.toNatClampNeg i2z112_)) = n1) rfl rfl (fun c138_ => ?_) (fun c138_ => ?_)
              · obtain ⟨q140_, b139_⟩ : (Int32.toInt (i2z112_ + 1) = Int32.toInt i2z112_ + 1) ∧ (1 ≤ Int32.toInt (i2z112_ + 1) ∧ Int32.toInt (i2z112_ + 1) ≤ 7) := zadd_k i2z112_ 1 1 1 7 b135_ (by decide) (by decide) (by decide) (by decide) (by decide)
                refine pw_blk hT 2 (S' := (24, [some (pvR 124), some (pvI n1), some (pvI (i2z112_ + 1))], [], M)) rfl ⟨trivial, trivial, trivial⟩ ?_
                have j141_ : ∀ j : Nat, j < Int32.toNatClampNeg (i2z112_ + 1) → M.1 145 j ≠ n1 := (znm_s b135_ (by decide) (by decide) j0z112_ c138_)
                exact ihz112_ (i2z112_ + 1) (zr_wide b139_ (by decide) (by decide)) j141_ (zhid (pvms_up (zshow hmz112_) h2z112_ q140_ (by decide) (by decide)))
              · have d142_ : Int32.toInt (M.1 145 (Int32.toNatClampNeg i2z112_)) = Int32.toInt n1 := (zi_eq _ _).mp c138_
                have c143_ : zhas (M.1 145) (Int32.toNatClampNeg (M.1 124 37)) n1 := (znm_i (b135_).1 c114_ c138_)
                refine pw_blk hT 1 (S' := (44, [some (pvR 124), some (pvI n1), some (pvI i2z112_)], [pvI (-2)], M)) rfl ⟨trivial, trivial⟩ ?_
                exact pw_ret hT rfl (r := some (pvI (-2))) (M' := M) ⟨rfl, rfl⟩ ⟨⟨_, rfl, (zr_wide (show (-2) ≤ Int32.toInt (-2) ∧ Int32.toInt (-2) ≤ (-2) from (by decide)) (by decide) (by decide)), (by rw [if_neg c1_, if_neg c7_, if_neg c14_, if_pos c143_]; first | done | (rw [if_pos c143_]; done))⟩, hok, pvfr_0, ⟨_, rfl, Or.inl ⟨by decide, rfl, fun i _ => rfl⟩⟩, (by rw [if_neg c1_, if_neg c7_, if_neg c14_, if_pos c143_]; first | done | exact rfl | (rw [if_pos c143_]; done) | (rw [if_pos c143_]; exact rfl))⟩
        have u144_ : Int32.toInt 0 = 0 := by decide
        have j145_ : ∀ j : Nat, j < Int32.toNatClampNeg 0 → M.1 145 j ≠ n1 := (znm_0 (M.1 145) n1)
        exact hlz112_ _ 0 (zr_wide (show 0 ≤ Int32.toInt 0 ∧ Int32.toInt 0 ≤ 0 from (by decide)) (by decide) (by decide)) j145_ (zhid (Nat.lt_succ_self _))
  · have b146_ : (-1) ≤ Int32.toInt n1 ∧ Int32.toInt n1 ≤ (-1) := (by have u0 := (zbnd n1); have u1 := (zi_eq _ _).mp c1_; have u2 := (show (-1) ≤ Int32.toInt (-1) ∧ Int32.toInt (-1) ≤ (-1) from (by decide)); omega)
    refine pw_blkw hT 3 (pc := 10) (lo := [some (pvR 124), some (pvI n1), none]) (st := []) (M := pvu M 124 37 0) rfl ⟨trivial, trivial, rfl, trivial⟩ (fun M147_ e148_ => ?_)
    have o149_ : pvOk M147_ := pvok_u2 e148_ hok rfl (zr_wide (show 0 ≤ Int32.toInt 0 ∧ Int32.toInt 0 ≤ 0 from (by decide)) (by decide) (by decide))
    have f150_ : pvFr fp_eX10_add_124_x M M147_ := pvfr_u e148_ pvfr_0 rfl
    refine pw_blk hT 1 (S' := (11, [some (pvR 124), some (pvI n1), none], [pvI 0], M147_)) rfl ⟨trivial, trivial⟩ ?_
    exact pw_ret hT rfl (r := some (pvI 0)) (M' := M147_) ⟨rfl, rfl⟩ ⟨⟨_, rfl, (zr_wide (show 0 ≤ Int32.toInt 0 ∧ Int32.toInt 0 ≤ 0 from (by decide)) (by decide) (by decide)), (by rw [if_pos c1_]; first | done | (rw [if_pos c1_]; done))⟩, o149_, f150_, ⟨_, rfl, Or.inr (Or.inl ⟨rfl, pvu_s e148_⟩)⟩, (by rw [if_pos c1_]; first | done | exact (pvu_s e148_) | (rw [if_pos c1_]; done) | (rw [if_pos c1_]; exact (pvu_s e148_)))⟩
def fpL_eX10_begin_124_x : List (Nat × Nat × Nat) := [(0, 124, 4), (0, 124, 33), (0, 124, 36), (0, 141, 0), (0, 142, 0), (0, 143, 0), (0, 144, 0)]
def fp_eX10_begin_124_x (q k : Nat) : Bool := pvfp fpL_eX10_begin_124_x q k
theorem fp_eX10_begin_124_x_fp_X10_costOfPath_124_x (a b : Nat) (h : fp_X10_costOfPath_124_x a b = true) : fp_eX10_begin_124_x a b = true := pvfp_sub (l1 := fpL_X10_costOfPath_124_x) (l2 := fpL_eX10_begin_124_x) (by decide) a b h
theorem fp_eX10_begin_124_x_fp_X10_layRain_124 (a b : Nat) (h : fp_X10_layRain_124 a b = true) : fp_eX10_begin_124_x a b = true := pvfp_sub (l1 := fpL_X10_layRain_124) (l2 := fpL_eX10_begin_124_x) (by decide) a b h
theorem fp_eX10_begin_124_x_fp_X10_layRound_124 (a b : Nat) (h : fp_X10_layRound_124 a b = true) : fp_eX10_begin_124_x a b = true := pvfp_sub (l1 := fpL_X10_layRound_124) (l2 := fpL_eX10_begin_124_x) (by decide) a b h
set_option maxHeartbeats 4000000 in
set_option maxRecDepth 10000 in
theorem se_X10_begin_124_x (M : pvM) (hok : pvOk M) (n1 : Int32) (hz : pvWF M) (d : Nat) : PW 8 d (0, [some (pvR 124), some (pvI n1), none, none, none, none], [], M) (fun r X => (∃ x : Int32, r = some (pvI x) ∧ (-1) ≤ Int32.toInt x ∧ Int32.toInt x ≤ 2147483647) ∧ pvOk X ∧ pvFr fp_eX10_begin_124_x M X ∧ X.1 124 3 = M.1 124 3) := by
  have hT : pvdom 8 = pvD_8 := rfl
  refine pw_blk hT 4 (S' := (4, [some (pvR 124), some (pvI n1), none, none, none, none], [pvI 1, pvI 0, pvI n1, pvR 124], M)) rfl ⟨trivial, trivial, trivial, trivial, trivial⟩ ?_
  refine pw_callT hT (as := [pvR 124, pvI n1, pvI 0, pvI 1]) (lo1 := [some (pvR 124), some (pvI n1), some (pvI 0), some (pvI 1)]) (d1 := d) (rest := []) rfl rfl rfl rfl rfl (fun _ => rfl) (Nat.zero_le _) rfl rfl rfl (sf_X10_in_124_x_x_x M hok n1 0 1 d) ?_
  by_cases c6_ : n1 < 0
  · refine pw_eqI (if_pos c6_) ?_
    have b7_ : (-2147483648) ≤ Int32.toInt n1 ∧ Int32.toInt n1 ≤ (-1) := zr_lt_l (-1) c6_ (zbnd n1) (show 0 ≤ Int32.toInt 0 ∧ Int32.toInt 0 ≤ 0 from (by decide)) (by decide)
    show PW 8 d (7, [some (pvR 124), some (pvI n1), none, none, none, none], [pvI 0], M) _
    refine pw_ifn hT (c := 0 = 0) rfl rfl (fun c8_ => absurd (by decide) c8_) (fun c8_ => ?_)
    refine pw_blk hT 1 (S' := (11, [some (pvR 124), some (pvI n1), none, none, none, none], [pvI (-1)], M)) rfl ⟨trivial, trivial⟩ ?_
    exact pw_ret hT rfl (r := some (pvI (-1))) (M' := M) ⟨rfl, rfl⟩ ⟨⟨_, rfl, (zr_wide (show (-1) ≤ Int32.toInt (-1) ∧ Int32.toInt (-1) ≤ (-1) from (by decide)) (by decide) (by decide))⟩, hok, pvfr_0, rfl⟩
  · refine pw_eqI (if_neg c6_) ?_
    have b9_ : 0 ≤ Int32.toInt n1 ∧ Int32.toInt n1 ≤ 2147483647 := zr_nlt_l 0 c6_ (zbnd n1) (show 0 ≤ Int32.toInt 0 ∧ Int32.toInt 0 ≤ 0 from (by decide)) (by decide)
    by_cases c10_ : 1 < n1
    · refine pw_eqI (if_pos c10_) ?_
      have b11_ : 2 ≤ Int32.toInt n1 ∧ Int32.toInt n1 ≤ 2147483647 := zr_lt_r 2 c10_ b9_ (show 1 ≤ Int32.toInt 1 ∧ Int32.toInt 1 ≤ 1 from (by decide)) (by decide)
      show PW 8 d (7, [some (pvR 124), some (pvI n1), none, none, none, none], [pvI 0], M) _
      refine pw_ifn hT (c := 0 = 0) rfl rfl (fun c12_ => absurd (by decide) c12_) (fun c12_ => ?_)
      refine pw_blk hT 1 (S' := (11, [some (pvR 124), some (pvI n1), none, none, none, none], [pvI (-1)], M)) rfl ⟨trivial, trivial⟩ ?_
      exact pw_ret hT rfl (r := some (pvI (-1))) (M' := M) ⟨rfl, rfl⟩ ⟨⟨_, rfl, (zr_wide (show (-1) ≤ Int32.toInt (-1) ∧ Int32.toInt (-1) ≤ (-1) from (by decide)) (by decide) (by decide))⟩, hok, pvfr_0, rfl⟩
    · refine pw_eqI (if_neg c10_) ?_
      have b13_ : 0 ≤ Int32.toInt n1 ∧ Int32.toInt n1 ≤ 1 := zr_nlt_r 1 c10_ b9_ (show 1 ≤ Int32.toInt 1 ∧ Int32.toInt 1 ≤ 1 from (by decide)) (by decide)
      show PW 8 d (7, [some (pvR 124), some (pvI n1), none, none, none, none], [pvI 1], M) _
      refine pw_ifn hT (c := 1 = 0) rfl rfl (fun c14_ => ?_) (fun c14_ => absurd c14_ (by decide))
      have b15_ : 0 ≤ Int32.toInt (M.1 124 3) ∧ Int32.toInt (M.1 124 3) ≤ 108 := pvok_r hok 124 3 rfl
      refine pw_blk hT 8 (S' := (23, [some (pvR 124), some (pvI n1), some (pvI (M.1 124 3)), some (pvI 0), some (pvI (-1)), none], [pvR 124], M)) rfl ⟨trivial, rfl, trivial, trivial, trivial, trivial, trivial, trivial, trivial⟩ ?_
      refine pw_callV hT (as := [pvR 124]) (lo1 := [some (pvR 124), none, none]) (d1 := d) (rest := []) rfl rfl rfl rfl rfl (fun _ => rfl) (Nat.zero_le _) rfl rfl rfl (sf_X10_layRain_124 M hok hz d) (fun M17_ o19_ g20_ => ?_)
      have f21_ : pvFr fp_eX10_begin_124_x M M17_ := pvfr_t g20_ pvfr_0 fp_eX10_begin_124_x_fp_X10_layRain_124
      refine pw_blk hT 1 (S' := (27, [some (pvR 124), some (pvI n1), some (pvI (M.1 124 3)), some (pvI 0), some (pvI (-1)), none], [pvR 124], M17_)) rfl ⟨trivial, trivial⟩ ?_
      refine pw_callV hT (as := [pvR 124]) (lo1 := [some (pvR 124), none]) (d1 := d) (rest := []) rfl rfl rfl rfl rfl (fun _ => rfl) (Nat.zero_le _) rfl rfl rfl (sf_X10_layRound_124 M17_ o19_ d) (fun M23_ o25_ g26_ => ?_)
      have f27_ : pvFr fp_eX10_begin_124_x M M23_ := pvfr_t g26_ f21_ fp_eX10_begin_124_x_fp_X10_layRound_124
      refine pw_blkw hT 3 (pc := 35) (lo := [some (pvR 124), some (pvI n1), some (pvI (M.1 124 3)), some (pvI 0), some (pvI (-1)), none]) (st := []) (M := pvu M23_ 124 3 0) rfl ⟨trivial, trivial, rfl, trivial⟩ (fun M28_ e29_ => ?_)
      have o30_ : pvOk M28_ := pvok_u2 e29_ o25_ rfl (zr_wide (show 0 ≤ Int32.toInt 0 ∧ Int32.toInt 0 ≤ 0 from (by decide)) (by decide) (by decide))
      have f31_ : pvFr fp_eX10_begin_124_x M M28_ := pvfr_u e29_ f27_ rfl
      have hlz160_ : ∀ (nz160_ : Nat) (i3z160_ : Int32) (i4z160_ : Int32) (v5z160_ : Option pvV) (Mz160_ : pvM), (pvOk Mz160_) → (pvFr fp_eX10_begin_124_x M Mz160_) → (0 ≤ Int32.toInt i3z160_ ∧ Int32.toInt i3z160_ ≤ 2147483647) → ((-1) ≤ Int32.toInt i4z160_ ∧ Int32.toInt i4z160_ ≤ 2147483647) → (zhide ((101 - Int32.toInt (Mz160_.1 124 3)).toNat < nz160_)) → PW 8 d (35, [some (pvR 124), some (pvI n1), some (pvI (M.1 124 3)), some (pvI i3z160_), some (pvI i4z160_), v5z160_], [], Mz160_) (fun r X => (∃ x : Int32, r = some (pvI x) ∧ (-1) ≤ Int32.toInt x ∧ Int32.toInt x ≤ 2147483647) ∧ pvOk X ∧ pvFr fp_eX10_begin_124_x M X ∧ X.1 124 3 = M.1 124 3) := by
        intro nz160_
        induction nz160_ with
        | zero => intro i3z160_ i4z160_ v5z160_ Mz160_ oz160_ fz160_ h3z160_ h4z160_ hmz160_; exact absurd (zshow hmz160_) (Nat.not_lt_zero _)
        | succ nz160_ ihz160_ =>
          intro i3z160_ i4z160_ v5z160_ Mz160_ oz160_ fz160_ h3z160_ h4z160_ hmz160_
          have b161_ : 0 ≤ Int32.toInt (Mz160_.1 124 3) ∧ Int32.toInt (Mz160_.1 124 3) ≤ 108 := pvok_r oz160_ 124 3 rfl
          refine pw_blk hT 3 (S' := (41, [some (pvR 124), some (pvI n1), some (pvI (M.1 124 3)), some (pvI i3z160_), some (pvI i4z160_), v5z160_], [pvI 100, pvI (Mz160_.1 124 3)], Mz160_)) rfl ⟨trivial, rfl, trivial, trivial⟩ ?_
          refine pw_ic hT (c := 100 ≤ (Mz160_.1 124 3)) rfl rfl (fun c162_ => ?_) (fun c162_ => ?_)
          · have b163_ : 100 ≤ Int32.toInt (Mz160_.1 124 3) ∧ Int32.toInt (Mz160_.1 124 3) ≤ 108 := zr_le_r 100 c162_ b161_ (show 100 ≤ Int32.toInt 100 ∧ Int32.toInt 100 ≤ 100 from (by decide)) (by decide)
            refine pw_blkw hT 3 (pc := 88) (lo := [some (pvR 124), some (pvI n1), some (pvI (M.1 124 3)), some (pvI i3z160_), some (pvI i4z160_), v5z160_]) (st := []) (M := pvu Mz160_ 124 3 (M.1 124 3)) rfl ⟨trivial, trivial, rfl, trivial⟩ (fun M164_ e165_ => ?_)
            have o166_ : pvOk M164_ := pvok_u2 e165_ oz160_ rfl b15_
            have f167_ : pvFr fp_eX10_begin_124_x M M164_ := pvfr_u e165_ fz160_ rfl
            refine pw_blk hT 1 (S' := (89, [some (pvR 124), some (pvI n1), some (pvI (M.1 124 3)), some (pvI i3z160_), some (pvI i4z160_), v5z160_], [pvI n1], M164_)) rfl ⟨trivial, trivial⟩ ?_
            refine pw_ifn hT (c := n1 = 0) rfl rfl (fun c168_ => ?_) (fun c168_ => ?_)
            · have b169_ : 1 ≤ Int32.toInt n1 ∧ Int32.toInt n1 ≤ 1 := (by have u0 := b13_; have u1 := (not_congr (zi_eq _ _)).mp c168_; have u2 := (show 0 ≤ Int32.toInt 0 ∧ Int32.toInt 0 ≤ 0 from (by decide)); omega)
              refine pw_blk hT 1 (S' := (98, [some (pvR 124), some (pvI n1), some (pvI (M.1 124 3)), some (pvI i3z160_), some (pvI i4z160_), v5z160_], [pvI i4z160_], M164_)) rfl ⟨trivial, trivial⟩ ?_
              exact pw_ret hT rfl (r := some (pvI i4z160_)) (M' := M164_) ⟨rfl, rfl⟩ ⟨⟨_, rfl, h4z160_⟩, o166_, f167_, (pvu_s e165_)⟩
            · have b170_ : 0 ≤ Int32.toInt n1 ∧ Int32.toInt n1 ≤ 0 := (by have u0 := b13_; have u1 := (zi_eq _ _).mp c168_; have u2 := (show 0 ≤ Int32.toInt 0 ∧ Int32.toInt 0 ≤ 0 from (by decide)); omega)
              refine pw_blk hT 2 (S' := (98, [some (pvR 124), some (pvI n1), some (pvI (M.1 124 3)), some (pvI i3z160_), some (pvI i4z160_), v5z160_], [pvI i3z160_], M164_)) rfl ⟨trivial, trivial, trivial⟩ ?_
              exact pw_ret hT rfl (r := some (pvI i3z160_)) (M' := M164_) ⟨rfl, rfl⟩ ⟨⟨_, rfl, (zr_wide h3z160_ (by decide) (by decide))⟩, o166_, f167_, (pvu_s e165_)⟩
          · have b171_ : 0 ≤ Int32.toInt (Mz160_.1 124 3) ∧ Int32.toInt (Mz160_.1 124 3) ≤ 99 := zr_nle_r 99 c162_ b161_ (show 100 ≤ Int32.toInt 100 ∧ Int32.toInt 100 ≤ 100 from (by decide)) (by decide)
            refine pw_blk hT 2 (S' := (46, [some (pvR 124), some (pvI n1), some (pvI (M.1 124 3)), some (pvI i3z160_), some (pvI i4z160_), v5z160_], [pvI 0, pvR 124], Mz160_)) rfl ⟨trivial, trivial, trivial⟩ ?_
            refine pw_callG hT (as := [pvR 124, pvI 0]) (lo1 := [some (pvR 124), some (pvI 0), none]) (d1 := d) (rest := []) rfl rfl rfl rfl rfl (fun _ => rfl) (Nat.zero_le _) rfl rfl rfl (sf_X10_costOfPath_124_x Mz160_ oz160_ 0 (zr_wide (show 0 ≤ Int32.toInt 0 ∧ Int32.toInt 0 ≤ 0 from (by decide)) (by decide) (by decide)) d) (fun x172_ M173_ b174_ o175_ g176_ => ?_)
            have f177_ : pvFr fp_eX10_begin_124_x M M173_ := pvfr_t g176_ fz160_ fp_eX10_begin_124_x_fp_X10_costOfPath_124_x
            refine pw_blk hT 3 (S' := (55, [some (pvR 124), some (pvI n1), some (pvI (M.1 124 3)), some (pvI i3z160_), some (pvI i4z160_), some (pvI x172_)], [pvI i4z160_, pvI x172_], M173_)) rfl ⟨trivial, trivial, trivial, trivial⟩ ?_
            refine pw_ic hT (c := i4z160_ < x172_) rfl rfl (fun c178_ => ?_) (fun c178_ => ?_)
            · have b179_ : (-1) ≤ Int32.toInt i4z160_ ∧ Int32.toInt i4z160_ ≤ 8999999 := zr_lt_l 8999999 c178_ h4z160_ b174_ (by decide)
              have d180_ : Int32.toInt i4z160_ < Int32.toInt x172_ := (zi_lt _ _).mp c178_
              have e181_ : (M173_.1 124 3) = (Mz160_.1 124 3) := (g176_ 124 3 rfl)
              have b182_ : 0 ≤ Int32.toInt (M173_.1 124 3) ∧ Int32.toInt (M173_.1 124 3) ≤ 99 := (by rw [e181_]; exact b171_)
              obtain ⟨q184_, b183_⟩ : (Int32.toInt ((M173_.1 124 3) + 1) = Int32.toInt (M173_.1 124 3) + 1) ∧ (1 ≤ Int32.toInt ((M173_.1 124 3) + 1) ∧ Int32.toInt ((M173_.1 124 3) + 1) ≤ 100) := zadd_k (M173_.1 124 3) 1 1 1 100 b182_ (by decide) (by decide) (by decide) (by decide) (by decide)
              refine pw_blkw hT 11 (pc := 80) (lo := [some (pvR 124), some (pvI n1), some (pvI (M.1 124 3)), some (pvI (M173_.1 124 3)), some (pvI x172_), some (pvI x172_)]) (st := []) (M := pvu M173_ 124 3 ((M173_.1 124 3) + 1)) rfl ⟨trivial, rfl, trivial, trivial, trivial, trivial, trivial, rfl, trivial, trivial, rfl, trivial⟩ (fun M185_ e186_ => ?_)
              have o187_ : pvOk M185_ := pvok_u2 e186_ o175_ rfl (zr_wide b183_ (by decide) (by decide))
              have f188_ : pvFr fp_eX10_begin_124_x M M185_ := pvfr_u e186_ f177_ rfl
              refine pw_blk hT 1 (S' := (35, [some (pvR 124), some (pvI n1), some (pvI (M.1 124 3)), some (pvI (M173_.1 124 3)), some (pvI x172_), some (pvI x172_)], [], M185_)) rfl ⟨trivial, trivial⟩ ?_
              exact ihz160_ (M173_.1 124 3) x172_ (some (pvI x172_)) M185_ o187_ f188_ (zr_wide b182_ (by decide) (by decide)) (zr_wide b174_ (by decide) (by decide)) (zhid (by have hm0 := zshow hmz160_; have z1 : Int32.toInt (M185_.1 124 3) = Int32.toInt ((M173_.1 124 3) + 1) := congrArg Int32.toInt (pvu_s e186_); have z2 : Int32.toInt (M173_.1 124 3) = Int32.toInt (Mz160_.1 124 3) := congrArg Int32.toInt (g176_ 124 3 rfl); omega))
            · have b189_ : 0 ≤ Int32.toInt i4z160_ ∧ Int32.toInt i4z160_ ≤ 2147483647 := zr_nlt_l 0 c178_ h4z160_ b174_ (by decide)
              have d190_ : Int32.toInt i4z160_ ≥ Int32.toInt x172_ := Int.not_lt.mp ((not_congr (zi_lt _ _)).mp c178_)
              have e191_ : (M173_.1 124 3) = (Mz160_.1 124 3) := (g176_ 124 3 rfl)
              have b192_ : 0 ≤ Int32.toInt (M173_.1 124 3) ∧ Int32.toInt (M173_.1 124 3) ≤ 99 := (by rw [e191_]; exact b171_)
              obtain ⟨q194_, b193_⟩ : (Int32.toInt ((M173_.1 124 3) + 1) = Int32.toInt (M173_.1 124 3) + 1) ∧ (1 ≤ Int32.toInt ((M173_.1 124 3) + 1) ∧ Int32.toInt ((M173_.1 124 3) + 1) ≤ 100) := zadd_k (M173_.1 124 3) 1 1 1 100 b192_ (by decide) (by decide) (by decide) (by decide) (by decide)
              refine pw_blkw hT 7 (pc := 80) (lo := [some (pvR 124), some (pvI n1), some (pvI (M.1 124 3)), some (pvI i3z160_), some (pvI i4z160_), some (pvI x172_)]) (st := []) (M := pvu M173_ 124 3 ((M173_.1 124 3) + 1)) rfl ⟨trivial, trivial, trivial, rfl, trivial, trivial, rfl, trivial⟩ (fun M195_ e196_ => ?_)
              have o197_ : pvOk M195_ := pvok_u2 e196_ o175_ rfl (zr_wide b193_ (by decide) (by decide))
              have f198_ : pvFr fp_eX10_begin_124_x M M195_ := pvfr_u e196_ f177_ rfl
              refine pw_blk hT 1 (S' := (35, [some (pvR 124), some (pvI n1), some (pvI (M.1 124 3)), some (pvI i3z160_), some (pvI i4z160_), some (pvI x172_)], [], M195_)) rfl ⟨trivial, trivial⟩ ?_
              exact ihz160_ i3z160_ i4z160_ (some (pvI x172_)) M195_ o197_ f198_ h3z160_ (zr_wide b189_ (by decide) (by decide)) (zhid (by have hm0 := zshow hmz160_; have z1 : Int32.toInt (M195_.1 124 3) = Int32.toInt ((M173_.1 124 3) + 1) := congrArg Int32.toInt (pvu_s e196_); have z2 : Int32.toInt (M173_.1 124 3) = Int32.toInt (Mz160_.1 124 3) := congrArg Int32.toInt (g176_ 124 3 rfl); omega))
      exact hlz160_ _ 0 (-1) none M28_ o30_ f31_ (zr_wide (show 0 ≤ Int32.toInt 0 ∧ Int32.toInt 0 ≤ 0 from (by decide)) (by decide) (by decide)) (zr_wide (show (-1) ≤ Int32.toInt (-1) ∧ Int32.toInt (-1) ≤ (-1) from (by decide)) (by decide) (by decide)) (zhid (Nat.lt_succ_self _))
def fpL_eX10_book_124_x_x : List (Nat × Nat × Nat) := [(0, 124, 44), (0, 149, 0), (0, 150, 0)]
def fp_eX10_book_124_x_x (q k : Nat) : Bool := pvfp fpL_eX10_book_124_x_x q k
set_option maxHeartbeats 4000000 in
set_option maxRecDepth 10000 in
theorem se_X10_book_124_x_x (M : pvM) (hok : pvOk M) (n1 : Int32) (n2 : Int32) (d : Nat) : PW 12 d (0, [some (pvR 124), some (pvI n1), some (pvI n2)], [], M) (fun r X => (∃ x : Int32, r = some (pvI x) ∧ ((-4) ≤ Int32.toInt x ∧ Int32.toInt x ≤ 8) ∧ x = (if n1 = (-1) then 0 else (if n1 < 0 then (-1) else (if ((M.1 124 0) - 1) < n1 then (-1) else (if n2 < 0 then (-2) else (if 9999 < n2 then (-2) else (if (M.1 124 43) = 8 then (-4) else ((M.1 124 43) + 1)))))))) ∧ pvOk X ∧ pvFr fp_eX10_book_124_x_x M X ∧ X.1 124 43 = (if n1 = (-1) then 0 else (if n1 < 0 then (M.1 124 43) else (if ((M.1 124 0) - 1) < n1 then (M.1 124 43) else (if n2 < 0 then (M.1 124 43) else (if 9999 < n2 then (M.1 124 43) else (if (M.1 124 43) = 8 then (M.1 124 43) else ((M.1 124 43) + 1)))))))) := by
  have hT : pvdom 12 = pvD_12 := rfl
  refine pw_blk hT 2 (S' := (2, [some (pvR 124), some (pvI n1), some (pvI n2)], [pvI (-1), pvI n1], M)) rfl ⟨trivial, trivial, trivial⟩ ?_
  refine pw_icn hT (c := n1 = (-1)) rfl rfl (fun c1_ => ?_) (fun c1_ => ?_)
  · refine pw_blk hT 2 (S' := (14, [some (pvR 124), some (pvI n1), some (pvI n2)], [pvI n1, pvR 124], M)) rfl ⟨trivial, trivial, trivial⟩ ?_
    refine pw_callT hT (as := [pvR 124, pvI n1]) (lo1 := [some (pvR 124), some (pvI n1)]) (d1 := d) (rest := []) rfl rfl rfl rfl rfl (fun _ => rfl) (Nat.zero_le _) rfl rfl rfl (sf_X10_isWindow_124_x M hok n1 d) ?_
    by_cases c7_ : n1 < 0
    · refine pw_eqI (if_pos c7_) ?_
      have b8_ : (-2147483648) ≤ Int32.toInt n1 ∧ Int32.toInt n1 ≤ (-2) := (by have u0 := (zbnd n1); have u9 := (show _ ∧ _ from ⟨(zi_lt _ _).mp c7_, (show 0 ≤ Int32.toInt 0 ∧ Int32.toInt 0 ≤ 0 from (by decide))⟩); have v1 := (not_congr (zi_eq _ _)).mp c1_; have w1 : ((-1) : Int32).toInt = -1 := (by decide); omega)
      show PW 12 d (17, [some (pvR 124), some (pvI n1), some (pvI n2)], [pvI 0], M) _
      refine pw_ifn hT (c := 0 = 0) rfl rfl (fun c9_ => absurd (by decide) c9_) (fun c9_ => ?_)
      refine pw_blk hT 1 (S' := (21, [some (pvR 124), some (pvI n1), some (pvI n2)], [pvI (-1)], M)) rfl ⟨trivial, trivial⟩ ?_
      exact pw_ret hT rfl (r := some (pvI (-1))) (M' := M) ⟨rfl, rfl⟩ ⟨⟨_, rfl, (zr_wide (show (-1) ≤ Int32.toInt (-1) ∧ Int32.toInt (-1) ≤ (-1) from (by decide)) (by decide) (by decide)), (by rw [if_neg c1_, if_pos c7_]; first | done | (rw [if_pos c7_]; done))⟩, hok, pvfr_0, (by rw [if_neg c1_, if_pos c7_]; first | done | exact rfl | (rw [if_pos c7_]; done) | (rw [if_pos c7_]; exact rfl))⟩
    · refine pw_eqI (if_neg c7_) ?_
      have b10_ : 0 ≤ Int32.toInt n1 ∧ Int32.toInt n1 ≤ 2147483647 := zr_nlt_l 0 c7_ (zbnd n1) (show 0 ≤ Int32.toInt 0 ∧ Int32.toInt 0 ≤ 0 from (by decide)) (by decide)
      have b11_ : 0 ≤ Int32.toInt (M.1 124 0) ∧ Int32.toInt (M.1 124 0) ≤ 7 := pvok_r hok 124 0 rfl
      obtain ⟨q13_, b12_⟩ : (Int32.toInt ((M.1 124 0) - 1) = Int32.toInt (M.1 124 0) - 1) ∧ ((-1) ≤ Int32.toInt ((M.1 124 0) - 1) ∧ Int32.toInt ((M.1 124 0) - 1) ≤ 6) := zsub_k (M.1 124 0) 1 1 (-1) 6 b11_ (by decide) (by decide) (by decide) (by decide) (by decide)
      by_cases c14_ : ((M.1 124 0) - 1) < n1
      · refine pw_eqI (if_pos c14_) ?_
        have d15_ : Int32.toInt ((M.1 124 0) - 1) < Int32.toInt n1 := (zi_lt _ _).mp c14_
        show PW 12 d (17, [some (pvR 124), some (pvI n1), some (pvI n2)], [pvI 0], M) _
        refine pw_ifn hT (c := 0 = 0) rfl rfl (fun c16_ => absurd (by decide) c16_) (fun c16_ => ?_)
        refine pw_blk hT 1 (S' := (21, [some (pvR 124), some (pvI n1), some (pvI n2)], [pvI (-1)], M)) rfl ⟨trivial, trivial⟩ ?_
        exact pw_ret hT rfl (r := some (pvI (-1))) (M' := M) ⟨rfl, rfl⟩ ⟨⟨_, rfl, (zr_wide (show (-1) ≤ Int32.toInt (-1) ∧ Int32.toInt (-1) ≤ (-1) from (by decide)) (by decide) (by decide)), (by rw [if_neg c1_, if_neg c7_, if_pos c14_]; first | done | (rw [if_pos c14_]; done))⟩, hok, pvfr_0, (by rw [if_neg c1_, if_neg c7_, if_pos c14_]; first | done | exact rfl | (rw [if_pos c14_]; done) | (rw [if_pos c14_]; exact rfl))⟩
      · refine pw_eqI (if_neg c14_) ?_
        have b17_ : 0 ≤ Int32.toInt ((M.1 124 0) - 1) ∧ Int32.toInt ((M.1 124 0) - 1) ≤ 6 := zr_nlt_l 0 c14_ b12_ b10_ (by decide)
        have b18_ : 0 ≤ Int32.toInt n1 ∧ Int32.toInt n1 ≤ 6 := zr_nlt_r 6 c14_ b10_ b17_ (by decide)
        have d19_ : Int32.toInt ((M.1 124 0) - 1) ≥ Int32.toInt n1 := Int.not_lt.mp ((not_congr (zi_lt _ _)).mp c14_)
        show PW 12 d (17, [some (pvR 124), some (pvI n1), some (pvI n2)], [pvI 1], M) _
        refine pw_ifn hT (c := 1 = 0) rfl rfl (fun c20_ => ?_) (fun c20_ => absurd c20_ (by decide))
        refine pw_blk hT 4 (S' := (28, [some (pvR 124), some (pvI n1), some (pvI n2)], [pvI 9999, pvI 0, pvI n2, pvR 124], M)) rfl ⟨trivial, trivial, trivial, trivial, trivial⟩ ?_
        refine pw_callT hT (as := [pvR 124, pvI n2, pvI 0, pvI 9999]) (lo1 := [some (pvR 124), some (pvI n2), some (pvI 0), some (pvI 9999)]) (d1 := d) (rest := []) rfl rfl rfl rfl rfl (fun _ => rfl) (Nat.zero_le _) rfl rfl rfl (sf_X10_in_124_x_x_x M hok n2 0 9999 d) ?_
        by_cases c26_ : n2 < 0
        · refine pw_eqI (if_pos c26_) ?_
          have b27_ : (-2147483648) ≤ Int32.toInt n2 ∧ Int32.toInt n2 ≤ (-1) := zr_lt_l (-1) c26_ (zbnd n2) (show 0 ≤ Int32.toInt 0 ∧ Int32.toInt 0 ≤ 0 from (by decide)) (by decide)
          show PW 12 d (31, [some (pvR 124), some (pvI n1), some (pvI n2)], [pvI 0], M) _
          refine pw_ifn hT (c := 0 = 0) rfl rfl (fun c28_ => absurd (by decide) c28_) (fun c28_ => ?_)
          refine pw_blk hT 1 (S' := (36, [some (pvR 124), some (pvI n1), some (pvI n2)], [pvI (-2)], M)) rfl ⟨trivial, trivial⟩ ?_
          exact pw_ret hT rfl (r := some (pvI (-2))) (M' := M) ⟨rfl, rfl⟩ ⟨⟨_, rfl, (zr_wide (show (-2) ≤ Int32.toInt (-2) ∧ Int32.toInt (-2) ≤ (-2) from (by decide)) (by decide) (by decide)), (by rw [if_neg c1_, if_neg c7_, if_neg c14_, if_pos c26_]; first | done | (rw [if_pos c26_]; done))⟩, hok, pvfr_0, (by rw [if_neg c1_, if_neg c7_, if_neg c14_, if_pos c26_]; first | done | exact rfl | (rw [if_pos c26_]; done) | (rw [if_pos c26_]; exact rfl))⟩
        · refine pw_eqI (if_neg c26_) ?_
          have b29_ : 0 ≤ Int32.toInt n2 ∧ Int32.toInt n2 ≤ 2147483647 := zr_nlt_l 0 c26_ (zbnd n2) (show 0 ≤ Int32.toInt 0 ∧ Int32.toInt 0 ≤ 0 from (by decide)) (by decide)
          by_cases c30_ : 9999 < n2
          · refine pw_eqI (if_pos c30_) ?_
            have b31_ : 10000 ≤ Int32.toInt n2 ∧ Int32.toInt n2 ≤ 2147483647 := zr_lt_r 10000 c30_ b29_ (show 9999 ≤ Int32.toInt 9999 ∧ Int32.toInt 9999 ≤ 9999 from (by decide)) (by decide)
            show PW 12 d (31, [some (pvR 124), some (pvI n1), some (pvI n2)], [pvI 0], M) _
            refine pw_ifn hT (c := 0 = 0) rfl rfl (fun c32_ => absurd (by decide) c32_) (fun c32_ => ?_)
            refine pw_blk hT 1 (S' := (36, [some (pvR 124), some (pvI n1), some (pvI n2)], [pvI (-2)], M)) rfl ⟨trivial, trivial⟩ ?_
            exact pw_ret hT rfl (r := some (pvI (-2))) (M' := M) ⟨rfl, rfl⟩ ⟨⟨_, rfl, (zr_wide (show (-2) ≤ Int32.toInt (-2) ∧ Int32.toInt (-2) ≤ (-2) from (by decide)) (by decide) (by decide)), (by rw [if_neg c1_, if_neg c7_, if_neg c14_, if_neg c26_, if_pos c30_]; first | done | (rw [if_pos c30_]; done))⟩, hok, pvfr_0, (by rw [if_neg c1_, if_neg c7_, if_neg c14_, if_neg c26_, if_pos c30_]; first | done | exact rfl | (rw [if_pos c30_]; done) | (rw [if_pos c30_]; exact rfl))⟩
          · refine pw_eqI (if_neg c30_) ?_
            have b33_ : 0 ≤ Int32.toInt n2 ∧ Int32.toInt n2 ≤ 9999 := zr_nlt_r 9999 c30_ b29_ (show 9999 ≤ Int32.toInt 9999 ∧ Int32.toInt 9999 ≤ 9999 from (by decide)) (by decide)
            show PW 12 d (31, [some (pvR 124), some (pvI n1), some (pvI n2)], [pvI 1], M) _
            refine pw_ifn hT (c := 1 = 0) rfl rfl (fun c34_ => ?_) (fun c34_ => absurd c34_ (by decide))
            have b35_ : 0 ≤ Int32.toInt (M.1 124 43) ∧ Int32.toInt (M.1 124 43) ≤ 8 := pvok_r hok 124 43 rfl
            refine pw_blk hT 3 (S' := (43, [some (pvR 124), some (pvI n1), some (pvI n2)], [pvI 8, pvI (M.1 124 43)], M)) rfl ⟨trivial, rfl, trivial, trivial⟩ ?_
            refine pw_icn hT (c := (M.1 124 43) = 8) rfl rfl (fun c36_ => ?_) (fun c36_ => ?_)
            · have b37_ : 0 ≤ Int32.toInt (M.1 124 43) ∧ Int32.toInt (M.1 124 43) ≤ 7 := (by have u0 := b35_; have u1 := (not_congr (zi_eq _ _)).mp c36_; have u2 := (show 8 ≤ Int32.toInt 8 ∧ Int32.toInt 8 ≤ 8 from (by decide)); omega)
              refine pw_blkw hT 6 (pc := 59) (lo := [some (pvR 124), some (pvI n1), some (pvI n2)]) (st := []) (M := pvu M 149 (Int32.toNatClampNeg (M.1 124 43)) n1) rfl ⟨trivial, rfl, trivial, rfl, trivial, ⟨rfl, (zr_in (n := 8) b37_ (by decide) (by decide))⟩, trivial⟩ (fun M38_ e39_ => ?_)
              have o40_ : pvOk M38_ := pvok_u2 e39_ hok rfl b18_
              have f41_ : pvFr fp_eX10_book_124_x_x M M38_ := pvfr_u e39_ pvfr_0 rfl
              have e42_ : (M38_.1 124 43) = (M.1 124 43) := (pvu_n e39_ 124 43 (Or.inl (by decide)))
              have b43_ : 0 ≤ Int32.toInt (M38_.1 124 43) ∧ Int32.toInt (M38_.1 124 43) ≤ 7 := (by rw [e42_]; exact b37_)
              refine pw_blkw hT 6 (pc := 69) (lo := [some (pvR 124), some (pvI n1), some (pvI n2)]) (st := []) (M := pvu M38_ 150 (Int32.toNatClampNeg (M38_.1 124 43)) n2) rfl ⟨trivial, rfl, trivial, rfl, trivial, ⟨rfl, (zr_in (n := 8) b43_ (by decide) (by decide))⟩, trivial⟩ (fun M44_ e45_ => ?_)
              have o46_ : pvOk M44_ := pvok_u2 e45_ o40_ rfl b33_
              have f47_ : pvFr fp_eX10_book_124_x_x M M44_ := pvfr_u e45_ f41_ rfl
              have e48_ : (M44_.1 124 43) = (M38_.1 124 43) := (pvu_n e45_ 124 43 (Or.inl (by decide)))
              have b49_ : 0 ≤ Int32.toInt (M44_.1 124 43) ∧ Int32.toInt (M44_.1 124 43) ≤ 7 := (by rw [e48_]; exact b43_)
              obtain ⟨q51_, b50_⟩ : (Int32.toInt ((M44_.1 124 43) + 1) = Int32.toInt (M44_.1 124 43) + 1) ∧ (1 ≤ Int32.toInt ((M44_.1 124 43) + 1) ∧ Int32.toInt ((M44_.1 124 43) + 1) ≤ 8) := zadd_k (M44_.1 124 43) 1 1 1 8 b49_ (by decide) (by decide) (by decide) (by decide) (by decide)
              refine pw_blkw hT 6 (pc := 79) (lo := [some (pvR 124), some (pvI n1), some (pvI n2)]) (st := []) (M := pvu M44_ 124 43 ((M44_.1 124 43) + 1)) rfl ⟨trivial, trivial, rfl, trivial, trivial, rfl, trivial⟩ (fun M52_ e53_ => ?_)
              have o54_ : pvOk M52_ := pvok_u2 e53_ o46_ rfl (zr_wide b50_ (by decide) (by decide))
              have f55_ : pvFr fp_eX10_book_124_x_x M M52_ := pvfr_u e53_ f47_ rfl
              have e56_ : (M52_.1 124 43) = ((M44_.1 124 43) + 1) := (pvu_s e53_)
              have b57_ : 1 ≤ Int32.toInt (M52_.1 124 43) ∧ Int32.toInt (M52_.1 124 43) ≤ 8 := (by rw [e56_]; exact b50_)
              refine pw_blk hT 2 (S' := (83, [some (pvR 124), some (pvI n1), some (pvI n2)], [pvI (M52_.1 124 43)], M52_)) rfl ⟨trivial, rfl, trivial⟩ ?_
              exact pw_ret hT rfl (r := some (pvI (M52_.1 124 43))) (M' := M52_) ⟨rfl, rfl⟩ ⟨⟨_, rfl, (zr_wide b57_ (by decide) (by decide)), (by rw [if_neg c1_, if_neg c7_, if_neg c14_, if_neg c26_, if_neg c30_, if_neg c36_]; first | done | exact (show (M52_.1 124 43) = ((M.1 124 43) + 1) from by rw [((pvu_s e53_).trans (show ((M44_.1 124 43) + 1) = ((M.1 124 43) + 1) from by rw [((pvu_n e45_ 124 43 (Or.inl (by decide))).trans (pvu_n e39_ 124 43 (Or.inl (by decide))))]))]) | (rw [if_neg c36_]; exact (show (M52_.1 124 43) = ((M.1 124 43) + 1) from by rw [((pvu_s e53_).trans (show ((M44_.1 124 43) + 1) = ((M.1 124 43) + 1) from by rw [((pvu_n e45_ 124 43 (Or.inl (by decide))).trans (pvu_n e39_ 124 43 (Or.inl (by decide))))]))])))⟩, o54_, f55_, (by rw [if_neg c1_, if_neg c7_, if_neg c14_, if_neg c26_, if_neg c30_, if_neg c36_]; first | done | exact ((pvu_s e53_).trans (show ((M44_.1 124 43) + 1) = ((M.1 124 43) + 1) from by rw [((pvu_n e45_ 124 43 (Or.inl (by decide))).trans (pvu_n e39_ 124 43 (Or.inl (by decide))))])) | (rw [if_neg c36_]; done) | (rw [if_neg c36_]; exact ((pvu_s e53_).trans (show ((M44_.1 124 43) + 1) = ((M.1 124 43) + 1) from by rw [((pvu_n e45_ 124 43 (Or.inl (by decide))).trans (pvu_n e39_ 124 43 (Or.inl (by decide))))]))))⟩
            · have b58_ : 8 ≤ Int32.toInt (M.1 124 43) ∧ Int32.toInt (M.1 124 43) ≤ 8 := (by have u0 := b35_; have u1 := (zi_eq _ _).mp c36_; have u2 := (show 8 ≤ Int32.toInt 8 ∧ Int32.toInt 8 ≤ 8 from (by decide)); omega)
              refine pw_blk hT 1 (S' := (48, [some (pvR 124), some (pvI n1), some (pvI n2)], [pvI (-4)], M)) rfl ⟨trivial, trivial⟩ ?_
              exact pw_ret hT rfl (r := some (pvI (-4))) (M' := M) ⟨rfl, rfl⟩ ⟨⟨_, rfl, (zr_wide (show (-4) ≤ Int32.toInt (-4) ∧ Int32.toInt (-4) ≤ (-4) from (by decide)) (by decide) (by decide)), (by rw [if_neg c1_, if_neg c7_, if_neg c14_, if_neg c26_, if_neg c30_, if_pos c36_]; first | done | (rw [if_pos c36_]; done))⟩, hok, pvfr_0, (by rw [if_neg c1_, if_neg c7_, if_neg c14_, if_neg c26_, if_neg c30_, if_pos c36_]; first | done | exact rfl | (rw [if_pos c36_]; done) | (rw [if_pos c36_]; exact rfl))⟩
  · have b59_ : (-1) ≤ Int32.toInt n1 ∧ Int32.toInt n1 ≤ (-1) := (by have u0 := (zbnd n1); have u1 := (zi_eq _ _).mp c1_; have u2 := (show (-1) ≤ Int32.toInt (-1) ∧ Int32.toInt (-1) ≤ (-1) from (by decide)); omega)
    refine pw_blkw hT 3 (pc := 10) (lo := [some (pvR 124), some (pvI n1), some (pvI n2)]) (st := []) (M := pvu M 124 43 0) rfl ⟨trivial, trivial, rfl, trivial⟩ (fun M60_ e61_ => ?_)
    have o62_ : pvOk M60_ := pvok_u2 e61_ hok rfl (zr_wide (show 0 ≤ Int32.toInt 0 ∧ Int32.toInt 0 ≤ 0 from (by decide)) (by decide) (by decide))
    have f63_ : pvFr fp_eX10_book_124_x_x M M60_ := pvfr_u e61_ pvfr_0 rfl
    refine pw_blk hT 1 (S' := (11, [some (pvR 124), some (pvI n1), some (pvI n2)], [pvI 0], M60_)) rfl ⟨trivial, trivial⟩ ?_
    exact pw_ret hT rfl (r := some (pvI 0)) (M' := M60_) ⟨rfl, rfl⟩ ⟨⟨_, rfl, (zr_wide (show 0 ≤ Int32.toInt 0 ∧ Int32.toInt 0 ≤ 0 from (by decide)) (by decide) (by decide)), (by rw [if_pos c1_]; first | done | (rw [if_pos c1_]; done))⟩, o62_, f63_, (by rw [if_pos c1_]; first | done | exact (pvu_s e61_) | (rw [if_pos c1_]; done) | (rw [if_pos c1_]; exact (pvu_s e61_)))⟩
def fpL_eX10_from_124 : List (Nat × Nat × Nat) := [(0, 124, 33), (0, 124, 5), (0, 141, 0), (0, 142, 0), (0, 143, 0)]
def fp_eX10_from_124 (q k : Nat) : Bool := pvfp fpL_eX10_from_124 q k
theorem fp_eX10_from_124_fp_X10_layOpen_124 (a b : Nat) (h : fp_X10_layOpen_124 a b = true) : fp_eX10_from_124 a b = true := pvfp_sub (l1 := fpL_X10_layOpen_124) (l2 := fpL_eX10_from_124) (by decide) a b h
theorem fp_eX10_from_124_fp_X10_layRain_124 (a b : Nat) (h : fp_X10_layRain_124 a b = true) : fp_eX10_from_124 a b = true := pvfp_sub (l1 := fpL_X10_layRain_124) (l2 := fpL_eX10_from_124) (by decide) a b h
set_option maxHeartbeats 4000000 in
set_option maxRecDepth 10000 in
theorem se_X10_from_124 (M : pvM) (hok : pvOk M) (hz : pvWF M) (d : Nat) : PW 22 d (0, [some (pvR 124), none, none, none, none], [], M) (fun r X => (∃ x : Int32, r = some (pvI x) ∧ True) ∧ pvOk X ∧ pvFr fp_eX10_from_124 M X ∧ X.1 124 4 = M.1 124 4) := by
  have hT : pvdom 22 = pvD_22 := rfl
  have b1_ : 0 ≤ Int32.toInt (M.1 124 4) ∧ Int32.toInt (M.1 124 4) ≤ 4 := pvok_r hok 124 4 rfl
  refine pw_blk hT 6 (S' := (8, [some (pvR 124), some (pvI (M.1 124 4)), some (pvI 0), none, none], [pvR 124], M)) rfl ⟨trivial, rfl, trivial, trivial, trivial, trivial, trivial⟩ ?_
  refine pw_callV hT (as := [pvR 124]) (lo1 := [some (pvR 124), none]) (d1 := d) (rest := []) rfl rfl rfl rfl rfl (fun _ => rfl) (Nat.zero_le _) rfl rfl rfl (sf_X10_layOpen_124 M hok d) (fun M3_ o5_ g6_ => ?_)
  have f7_ : pvFr fp_eX10_from_124 M M3_ := pvfr_t g6_ pvfr_0 fp_eX10_from_124_fp_X10_layOpen_124
  refine pw_blkw hT 3 (pc := 16) (lo := [some (pvR 124), some (pvI (M.1 124 4)), some (pvI 0), none, none]) (st := []) (M := pvu M3_ 124 4 0) rfl ⟨trivial, trivial, rfl, trivial⟩ (fun M8_ e9_ => ?_)
  have o10_ : pvOk M8_ := pvok_u2 e9_ o5_ rfl (zr_wide (show 0 ≤ Int32.toInt 0 ∧ Int32.toInt 0 ≤ 0 from (by decide)) (by decide) (by decide))
  have f11_ : pvFr fp_eX10_from_124 M M8_ := pvfr_u e9_ f7_ rfl
  have hlz553_ : ∀ (nz553_ : Nat) (i2z553_ : Int32) (v3z553_ : Option pvV) (v4z553_ : Option pvV) (Mz553_ : pvM), (pvOk Mz553_) → (pvFr fp_eX10_from_124 M Mz553_) → (zhide ((5 - Int32.toInt (Mz553_.1 124 4)).toNat < nz553_)) → PW 22 d (16, [some (pvR 124), some (pvI (M.1 124 4)), some (pvI i2z553_), v3z553_, v4z553_], [], Mz553_) (fun r X => (∃ x : Int32, r = some (pvI x) ∧ True) ∧ pvOk X ∧ pvFr fp_eX10_from_124 M X ∧ X.1 124 4 = M.1 124 4) := by
    intro nz553_
    induction nz553_ with
    | zero => intro i2z553_ v3z553_ v4z553_ Mz553_ oz553_ fz553_ hmz553_; exact absurd (zshow hmz553_) (Nat.not_lt_zero _)
    | succ nz553_ ihz553_ =>
      intro i2z553_ v3z553_ v4z553_ Mz553_ oz553_ fz553_ hmz553_
      have b554_ : 0 ≤ Int32.toInt (Mz553_.1 124 4) ∧ Int32.toInt (Mz553_.1 124 4) ≤ 4 := pvok_r oz553_ 124 4 rfl
      refine pw_blk hT 3 (S' := (21, [some (pvR 124), some (pvI (M.1 124 4)), some (pvI i2z553_), v3z553_, v4z553_], [pvI 4, pvI (Mz553_.1 124 4)], Mz553_)) rfl ⟨trivial, rfl, trivial, trivial⟩ ?_
      refine pw_ic hT (c := 4 ≤ (Mz553_.1 124 4)) rfl rfl (fun c555_ => ?_) (fun c555_ => ?_)
      · have b556_ : 4 ≤ Int32.toInt (Mz553_.1 124 4) ∧ Int32.toInt (Mz553_.1 124 4) ≤ 4 := zr_le_r 4 c555_ b554_ (show 4 ≤ Int32.toInt 4 ∧ Int32.toInt 4 ≤ 4 from (by decide)) (by decide)
        refine pw_blkw hT 3 (pc := 114) (lo := [some (pvR 124), some (pvI (M.1 124 4)), some (pvI i2z553_), v3z553_, v4z553_]) (st := []) (M := pvu Mz553_ 124 4 (M.1 124 4)) rfl ⟨trivial, trivial, rfl, trivial⟩ (fun M557_ e558_ => ?_)
        have o559_ : pvOk M557_ := pvok_u2 e558_ oz553_ rfl b1_
        have f560_ : pvFr fp_eX10_from_124 M M557_ := pvfr_u e558_ fz553_ rfl
        refine pw_blk hT 1 (S' := (115, [some (pvR 124), some (pvI (M.1 124 4)), some (pvI i2z553_), v3z553_, v4z553_], [pvI i2z553_], M557_)) rfl ⟨trivial, trivial⟩ ?_
        exact pw_ret hT rfl (r := some (pvI i2z553_)) (M' := M557_) ⟨rfl, rfl⟩ ⟨⟨_, rfl, trivial⟩, o559_, f560_, (pvu_s e558_)⟩
      · have b561_ : 0 ≤ Int32.toInt (Mz553_.1 124 4) ∧ Int32.toInt (Mz553_.1 124 4) ≤ 3 := zr_nle_r 3 c555_ b554_ (show 4 ≤ Int32.toInt 4 ∧ Int32.toInt 4 ≤ 4 from (by decide)) (by decide)
        refine pw_blk hT 1 (S' := (25, [some (pvR 124), some (pvI (M.1 124 4)), some (pvI i2z553_), v3z553_, v4z553_], [pvR 124], Mz553_)) rfl ⟨trivial, trivial⟩ ?_
        refine pw_callV hT (as := [pvR 124]) (lo1 := [some (pvR 124), none, none]) (d1 := d) (rest := []) rfl rfl rfl rfl rfl (fun _ => rfl) (Nat.zero_le _) rfl rfl rfl (sf_X10_layRain_124 Mz553_ oz553_ (pvWF_fr (L := fpL_eX10_from_124) rfl fz553_ hz) d) (fun M563_ o565_ g566_ => ?_)
        have f567_ : pvFr fp_eX10_from_124 M M563_ := pvfr_t g566_ fz553_ fp_eX10_from_124_fp_X10_layRain_124
        refine pw_blk hT 4 (S' := (33, [some (pvR 124), some (pvI (M.1 124 4)), some (pvI i2z553_), some (pvI 1), some (pvI 0)], [], M563_)) rfl ⟨trivial, trivial, trivial, trivial, trivial⟩ ?_
        have e568_ : (M563_.1 124 4) = (Mz553_.1 124 4) := (g566_ 124 4 rfl)
        have b569_ : 0 ≤ Int32.toInt (M563_.1 124 4) ∧ Int32.toInt (M563_.1 124 4) ≤ 3 := (by rw [e568_]; exact b561_)
        have hlz689_ : ∀ (nz689_ : Nat) (i3z689_ : Int32) (i4z689_ : Int32), (0 ≤ Int32.toInt i3z689_ ∧ Int32.toInt i3z689_ ≤ 1) → (0 ≤ Int32.toInt i4z689_ ∧ Int32.toInt i4z689_ ≤ 6) → (zhide ((7 - Int32.toInt i4z689_).toNat < nz689_)) → PW 22 d (33, [some (pvR 124), some (pvI (M.1 124 4)), some (pvI i2z553_), some (pvI i3z689_), some (pvI i4z689_)], [], M563_) (fun r X => (∃ x : Int32, r = some (pvI x) ∧ True) ∧ pvOk X ∧ pvFr fp_eX10_from_124 M X ∧ X.1 124 4 = M.1 124 4) := by
          intro nz689_
          induction nz689_ with
          | zero => intro i3z689_ i4z689_ h3z689_ h4z689_ hmz689_; exact absurd (zshow hmz689_) (Nat.not_lt_zero _)
          | succ nz689_ ihz689_ =>
            intro i3z689_ i4z689_ h3z689_ h4z689_ hmz689_
            have b690_ : 0 ≤ Int32.toInt (M563_.1 124 40) ∧ Int32.toInt (M563_.1 124 40) ≤ 6 := pvok_r o565_ 124 40 rfl
            refine pw_blk hT 3 (S' := (39, [some (pvR 124), some (pvI (M.1 124 4)), some (pvI i2z553_), some (pvI i3z689_), some (pvI i4z689_)], [pvI (M563_.1 124 40), pvI i4z689_], M563_)) rfl ⟨trivial, trivial, rfl, trivial⟩ ?_
            refine pw_ic hT (c := (M563_.1 124 40) ≤ i4z689_) rfl rfl (fun c691_ => ?_) (fun c691_ => ?_)
            · have d692_ : Int32.toInt (M563_.1 124 40) ≤ Int32.toInt i4z689_ := (zi_le _ _).mp c691_
              refine pw_blk hT 2 (S' := (81, [some (pvR 124), some (pvI (M.1 124 4)), some (pvI i2z553_), some (pvI i3z689_), some (pvI i4z689_)], [pvI i3z689_, pvI i2z553_], M563_)) rfl ⟨trivial, trivial, trivial⟩ ?_
              refine pw_if hT (c := i3z689_ = 0) rfl rfl (fun c693_ => ?_) (fun c693_ => ?_)
              · have b694_ : 0 ≤ Int32.toInt i3z689_ ∧ Int32.toInt i3z689_ ≤ 0 := (by have u0 := h3z689_; have u1 := (zi_eq _ _).mp c693_; have u2 := (show 0 ≤ Int32.toInt 0 ∧ Int32.toInt 0 ≤ 0 from (by decide)); omega)
                obtain ⟨q696_, b695_⟩ : (Int32.toInt ((M563_.1 124 4) + 1) = Int32.toInt (M563_.1 124 4) + 1) ∧ (1 ≤ Int32.toInt ((M563_.1 124 4) + 1) ∧ Int32.toInt ((M563_.1 124 4) + 1) ≤ 4) := zadd_k (M563_.1 124 4) 1 1 1 4 b569_ (by decide) (by decide) (by decide) (by decide) (by decide)
                refine pw_blkw hT 9 (pc := 106) (lo := [some (pvR 124), some (pvI (M.1 124 4)), some (pvI (i2z553_ ||| 0)), some (pvI i3z689_), some (pvI i4z689_)]) (st := []) (M := pvu M563_ 124 4 ((M563_.1 124 4) + 1)) rfl ⟨trivial, trivial, trivial, trivial, trivial, rfl, trivial, trivial, rfl, trivial⟩ (fun M697_ e698_ => ?_)
                have o699_ : pvOk M697_ := pvok_u2 e698_ o565_ rfl (zr_wide b695_ (by decide) (by decide))
                have f700_ : pvFr fp_eX10_from_124 M M697_ := pvfr_u e698_ f567_ rfl
                refine pw_blk hT 1 (S' := (16, [some (pvR 124), some (pvI (M.1 124 4)), some (pvI (i2z553_ ||| 0)), some (pvI i3z689_), some (pvI i4z689_)], [], M697_)) rfl ⟨trivial, trivial⟩ ?_
                exact ihz553_ (i2z553_ ||| 0) (some (pvI i3z689_)) (some (pvI i4z689_)) M697_ o699_ f700_ (zhid (by have hm0 := zshow hmz553_; have z1 : Int32.toInt (M697_.1 124 4) = Int32.toInt ((M563_.1 124 4) + 1) := congrArg Int32.toInt (pvu_s e698_); have z2 : Int32.toInt (M563_.1 124 4) = Int32.toInt (Mz553_.1 124 4) := congrArg Int32.toInt (g566_ 124 4 rfl); omega))
              · have b701_ : 1 ≤ Int32.toInt i3z689_ ∧ Int32.toInt i3z689_ ≤ 1 := (by have u0 := h3z689_; have u1 := (not_congr (zi_eq _ _)).mp c693_; have u2 := (show 0 ≤ Int32.toInt 0 ∧ Int32.toInt 0 ≤ 0 from (by decide)); omega)
                obtain ⟨q703_, b702_⟩ : (Int32.toInt ((M563_.1 124 4) + 1) = Int32.toInt (M563_.1 124 4) + 1) ∧ (1 ≤ Int32.toInt ((M563_.1 124 4) + 1) ∧ Int32.toInt ((M563_.1 124 4) + 1) ≤ 4) := zadd_k (M563_.1 124 4) 1 1 1 4 b569_ (by decide) (by decide) (by decide) (by decide) (by decide)
                refine pw_blkw hT 13 (pc := 106) (lo := [some (pvR 124), some (pvI (M.1 124 4)), some (pvI (i2z553_ ||| (1 <<< ((M563_.1 124 4) &&& 31)))), some (pvI i3z689_), some (pvI i4z689_)]) (st := []) (M := pvu M563_ 124 4 ((M563_.1 124 4) + 1)) rfl ⟨trivial, trivial, rfl, trivial, trivial, trivial, trivial, trivial, trivial, rfl, trivial, trivial, rfl, trivial⟩ (fun M704_ e705_ => ?_)
                have o706_ : pvOk M704_ := pvok_u2 e705_ o565_ rfl (zr_wide b702_ (by decide) (by decide))
                have f707_ : pvFr fp_eX10_from_124 M M704_ := pvfr_u e705_ f567_ rfl
                refine pw_blk hT 1 (S' := (16, [some (pvR 124), some (pvI (M.1 124 4)), some (pvI (i2z553_ ||| (1 <<< ((M563_.1 124 4) &&& 31)))), some (pvI i3z689_), some (pvI i4z689_)], [], M704_)) rfl ⟨trivial, trivial⟩ ?_
                exact ihz553_ (i2z553_ ||| (1 <<< ((M563_.1 124 4) &&& 31))) (some (pvI i3z689_)) (some (pvI i4z689_)) M704_ o706_ f707_ (zhid (by have hm0 := zshow hmz553_; have z1 : Int32.toInt (M704_.1 124 4) = Int32.toInt ((M563_.1 124 4) + 1) := congrArg Int32.toInt (pvu_s e705_); have z2 : Int32.toInt (M563_.1 124 4) = Int32.toInt (Mz553_.1 124 4) := congrArg Int32.toInt (g566_ 124 4 rfl); omega))
            · have b708_ : 1 ≤ Int32.toInt (M563_.1 124 40) ∧ Int32.toInt (M563_.1 124 40) ≤ 6 := zr_nle_l 1 c691_ b690_ h4z689_ (by decide)
              have b709_ : 0 ≤ Int32.toInt i4z689_ ∧ Int32.toInt i4z689_ ≤ 5 := zr_nle_r 5 c691_ h4z689_ b708_ (by decide)
              have d710_ : Int32.toInt (M563_.1 124 40) > Int32.toInt i4z689_ := Int.not_le.mp ((not_congr (zi_le _ _)).mp c691_)
              refine pw_blk hT 1 (S' := (43, [some (pvR 124), some (pvI (M.1 124 4)), some (pvI i2z553_), some (pvI i3z689_), some (pvI i4z689_)], [pvI i3z689_], M563_)) rfl ⟨trivial, trivial⟩ ?_
              refine pw_if hT (c := i3z689_ = 0) rfl rfl (fun c711_ => ?_) (fun c711_ => ?_)
              · have b712_ : 0 ≤ Int32.toInt i3z689_ ∧ Int32.toInt i3z689_ ≤ 0 := (by have u0 := h3z689_; have u1 := (zi_eq _ _).mp c711_; have u2 := (show 0 ≤ Int32.toInt 0 ∧ Int32.toInt 0 ≤ 0 from (by decide)); omega)
                refine pw_blk hT 2 (S' := (81, [some (pvR 124), some (pvI (M.1 124 4)), some (pvI i2z553_), some (pvI i3z689_), some (pvI i4z689_)], [pvI i3z689_, pvI i2z553_], M563_)) rfl ⟨trivial, trivial, trivial⟩ ?_
                refine pw_if hT (c := i3z689_ = 0) rfl rfl (fun c713_ => ?_) (fun c713_ => absurd c711_ c713_)
                obtain ⟨q715_, b714_⟩ : (Int32.toInt ((M563_.1 124 4) + 1) = Int32.toInt (M563_.1 124 4) + 1) ∧ (1 ≤ Int32.toInt ((M563_.1 124 4) + 1) ∧ Int32.toInt ((M563_.1 124 4) + 1) ≤ 4) := zadd_k (M563_.1 124 4) 1 1 1 4 b569_ (by decide) (by decide) (by decide) (by decide) (by decide)
                refine pw_blkw hT 9 (pc := 106) (lo := [some (pvR 124), some (pvI (M.1 124 4)), some (pvI (i2z553_ ||| 0)), some (pvI i3z689_), some (pvI i4z689_)]) (st := []) (M := pvu M563_ 124 4 ((M563_.1 124 4) + 1)) rfl ⟨trivial, trivial, trivial, trivial, trivial, rfl, trivial, trivial, rfl, trivial⟩ (fun M716_ e717_ => ?_)
                have o718_ : pvOk M716_ := pvok_u2 e717_ o565_ rfl (zr_wide b714_ (by decide) (by decide))
                have f719_ : pvFr fp_eX10_from_124 M M716_ := pvfr_u e717_ f567_ rfl
                refine pw_blk hT 1 (S' := (16, [some (pvR 124), some (pvI (M.1 124 4)), some (pvI (i2z553_ ||| 0)), some (pvI i3z689_), some (pvI i4z689_)], [], M716_)) rfl ⟨trivial, trivial⟩ ?_
                exact ihz553_ (i2z553_ ||| 0) (some (pvI i3z689_)) (some (pvI i4z689_)) M716_ o718_ f719_ (zhid (by have hm0 := zshow hmz553_; have z1 : Int32.toInt (M716_.1 124 4) = Int32.toInt ((M563_.1 124 4) + 1) := congrArg Int32.toInt (pvu_s e717_); have z2 : Int32.toInt (M563_.1 124 4) = Int32.toInt (Mz553_.1 124 4) := congrArg Int32.toInt (g566_ 124 4 rfl); omega))
              · have b720_ : 1 ≤ Int32.toInt i3z689_ ∧ Int32.toInt i3z689_ ≤ 1 := (by have u0 := h3z689_; have u1 := (not_congr (zi_eq _ _)).mp c711_; have u2 := (show 0 ≤ Int32.toInt 0 ∧ Int32.toInt 0 ≤ 0 from (by decide)); omega)
                have b721_ : 0 ≤ Int32.toInt (M563_.1 147 (Int32.toNatClampNeg i4z689_)) ∧ Int32.toInt (M563_.1 147 (Int32.toNatClampNeg i4z689_)) ≤ 6 := pvok_r o565_ 147 (Int32.toNatClampNeg i4z689_) rfl
                refine pw_blk hT 5 (S' := (54, [some (pvR 124), some (pvI (M.1 124 4)), some (pvI i2z553_), some (pvI i3z689_), some (pvI i4z689_)], [pvI (M563_.1 147 (Int32.toNatClampNeg i4z689_)), pvR 124], M563_)) rfl ⟨trivial, trivial, rfl, trivial, ⟨rfl, (zr_in (n := 6) b709_ (by decide) (by decide))⟩, trivial⟩ ?_
                refine pw_callGp hT (as := [pvR 124, pvI (M563_.1 147 (Int32.toNatClampNeg i4z689_))]) (lo1 := [some (pvR 124), some (pvI (M563_.1 147 (Int32.toNatClampNeg i4z689_))), none, none]) (d1 := d) (rest := []) rfl rfl rfl rfl rfl (fun _ => rfl) (Nat.zero_le _) rfl rfl rfl (sf_X10_harmOf_124_x M563_ o565_ (M563_.1 147 (Int32.toNatClampNeg i4z689_)) b721_ d) (fun x722_ b724_ => ?_)
                have b727_ : 0 ≤ Int32.toInt (M563_.1 148 (Int32.toNatClampNeg i4z689_)) ∧ Int32.toInt (M563_.1 148 (Int32.toNatClampNeg i4z689_)) ≤ 9999 := pvok_r o565_ 148 (Int32.toNatClampNeg i4z689_) rfl
                refine pw_blk hT 4 (S' := (64, [some (pvR 124), some (pvI (M.1 124 4)), some (pvI i2z553_), some (pvI i3z689_), some (pvI i4z689_)], [pvI (M563_.1 148 (Int32.toNatClampNeg i4z689_)), pvI x722_], M563_)) rfl ⟨trivial, rfl, trivial, ⟨rfl, (zr_in (n := 6) b709_ (by decide) (by decide))⟩, trivial⟩ ?_
                refine pw_icn hT (c := x722_ = (M563_.1 148 (Int32.toNatClampNeg i4z689_))) rfl rfl (fun c728_ => ?_) (fun c728_ => ?_)
                · obtain ⟨q730_, b729_⟩ : (Int32.toInt (i4z689_ + 1) = Int32.toInt i4z689_ + 1) ∧ (1 ≤ Int32.toInt (i4z689_ + 1) ∧ Int32.toInt (i4z689_ + 1) ≤ 6) := zadd_k i4z689_ 1 1 1 6 b709_ (by decide) (by decide) (by decide) (by decide) (by decide)
                  refine pw_blk hT 4 (S' := (33, [some (pvR 124), some (pvI (M.1 124 4)), some (pvI i2z553_), some (pvI 0), some (pvI (i4z689_ + 1))], [], M563_)) rfl ⟨trivial, trivial, trivial, trivial, trivial⟩ ?_
                  exact ihz689_ 0 (i4z689_ + 1) (zr_wide (show 0 ≤ Int32.toInt 0 ∧ Int32.toInt 0 ≤ 0 from (by decide)) (by decide) (by decide)) (zr_wide b729_ (by decide) (by decide)) (zhid (pvms_up (zshow hmz689_) h4z689_ q730_ (by decide) (by decide)))
                · have b731_ : 0 ≤ Int32.toInt x722_ ∧ Int32.toInt x722_ ≤ 9999 := (by have u0 := b724_; have u1 := (zi_eq _ _).mp c728_; have u2 := b727_; omega)
                  have d732_ : Int32.toInt x722_ = Int32.toInt (M563_.1 148 (Int32.toNatClampNeg i4z689_)) := (zi_eq _ _).mp c728_
                  obtain ⟨q734_, b733_⟩ : (Int32.toInt (i4z689_ + 1) = Int32.toInt i4z689_ + 1) ∧ (1 ≤ Int32.toInt (i4z689_ + 1) ∧ Int32.toInt (i4z689_ + 1) ≤ 6) := zadd_k i4z689_ 1 1 1 6 b709_ (by decide) (by decide) (by decide) (by decide) (by decide)
                  refine pw_blk hT 5 (S' := (33, [some (pvR 124), some (pvI (M.1 124 4)), some (pvI i2z553_), some (pvI 1), some (pvI (i4z689_ + 1))], [], M563_)) rfl ⟨trivial, trivial, trivial, trivial, trivial, trivial⟩ ?_
                  exact ihz689_ 1 (i4z689_ + 1) (zr_wide (show 1 ≤ Int32.toInt 1 ∧ Int32.toInt 1 ≤ 1 from (by decide)) (by decide) (by decide)) (zr_wide b733_ (by decide) (by decide)) (zhid (pvms_up (zshow hmz689_) h4z689_ q734_ (by decide) (by decide)))
        exact hlz689_ _ 1 0 (zr_wide (show 1 ≤ Int32.toInt 1 ∧ Int32.toInt 1 ≤ 1 from (by decide)) (by decide) (by decide)) (zr_wide (show 0 ≤ Int32.toInt 0 ∧ Int32.toInt 0 ≤ 0 from (by decide)) (by decide) (by decide)) (zhid (Nat.lt_succ_self _))
  exact hlz553_ _ 0 none none M8_ o10_ f11_ (zhid (Nat.lt_succ_self _))
def fpL_eX10_image_124 : List (Nat × Nat × Nat) := [(0, 124, 47), (0, 124, 48), (0, 124, 49), (0, 124, 50), (0, 124, 51), (0, 124, 52), (0, 124, 53), (0, 124, 54), (0, 124, 55), (0, 124, 56), (0, 124, 57), (0, 124, 58), (0, 151, 0), (0, 152, 0), (0, 153, 0), (0, 154, 0), (0, 155, 0), (0, 156, 0), (0, 157, 0), (0, 158, 0), (0, 159, 0), (0, 160, 0), (0, 161, 0), (0, 162, 0)]
def fp_eX10_image_124 (q k : Nat) : Bool := pvfp fpL_eX10_image_124 q k
set_option maxHeartbeats 4000000 in
set_option maxRecDepth 10000 in
theorem se_X10_image_124 (M : pvM) (hok : pvOk M) (d : Nat) : PW 35 d (0, [some (pvR 124), none], [], M) (fun r X => (∃ x : Int32, r = some (pvI x) ∧ (0 ≤ Int32.toInt x ∧ Int32.toInt x ≤ 7) ∧ x = (M.1 124 0)) ∧ pvOk X ∧ pvFr fp_eX10_image_124 M X ∧ ((pvWF M → pvWF X) ∧ (Int32.toInt (M.1 124 3) ≤ 99 → Int32.toInt (M.1 124 51) ≤ 99 → Int32.toInt (X.1 124 51) ≤ 99)) ∧ zC1 157 145 7 M X ∧ zC1 158 147 6 M X ∧ zC1 159 148 6 M X ∧ zC1 160 149 8 M X ∧ zC1 161 150 8 M X ∧ X.1 124 48 = (M.1 124 0) ∧ X.1 124 51 = (M.1 124 3) ∧ X.1 124 52 = (M.1 124 4) ∧ X.1 124 46 = 1 ∧ X.1 124 56 = (M.1 124 40) ∧ X.1 124 57 = (M.1 124 43) ∧ X.1 124 55 = (M.1 124 37)) := by
  have hT : pvdom 35 = pvD_35 := rfl
  refine pw_blkw hT 3 (pc := 5) (lo := [some (pvR 124), none]) (st := []) (M := pvu M 124 46 1) rfl ⟨trivial, trivial, ⟨rfl, Or.inr rfl⟩, trivial⟩ (fun M1_ e2_ => ?_)
  have o3_ : pvOk M1_ := pvok_u2 e2_ hok rfl (zr_wide (show 1 ≤ Int32.toInt 1 ∧ Int32.toInt 1 ≤ 1 from (by decide)) (by decide) (by decide))
  have f4_ : pvFr fp_eX10_image_124 M M1_ := pvfr_u e2_ pvfr_0 rfl
  have b5_ : (-1) ≤ Int32.toInt (M1_.1 124 15) ∧ Int32.toInt (M1_.1 124 15) ≤ 5 := pvok_r o3_ 124 15 rfl
  refine pw_blkw hT 4 (pc := 13) (lo := [some (pvR 124), none]) (st := []) (M := pvu M1_ 124 47 (M1_.1 124 15)) rfl ⟨trivial, trivial, rfl, rfl, trivial⟩ (fun M6_ e7_ => ?_)
  have o8_ : pvOk M6_ := pvok_u2 e7_ o3_ rfl b5_
  have f9_ : pvFr fp_eX10_image_124 M M6_ := pvfr_u e7_ f4_ rfl
  have b10_ : 0 ≤ Int32.toInt (M6_.1 124 0) ∧ Int32.toInt (M6_.1 124 0) ≤ 7 := pvok_r o8_ 124 0 rfl
  refine pw_blkw hT 4 (pc := 21) (lo := [some (pvR 124), none]) (st := []) (M := pvu M6_ 124 48 (M6_.1 124 0)) rfl ⟨trivial, trivial, rfl, rfl, trivial⟩ (fun M11_ e12_ => ?_)
  have o13_ : pvOk M11_ := pvok_u2 e12_ o8_ rfl b10_
  have f14_ : pvFr fp_eX10_image_124 M M11_ := pvfr_u e12_ f9_ rfl
  have b15_ : 0 ≤ Int32.toInt (M11_.1 124 1) ∧ Int32.toInt (M11_.1 124 1) ≤ 9999 := pvok_r o13_ 124 1 rfl
  refine pw_blkw hT 4 (pc := 29) (lo := [some (pvR 124), none]) (st := []) (M := pvu M11_ 124 49 (M11_.1 124 1)) rfl ⟨trivial, trivial, rfl, rfl, trivial⟩ (fun M16_ e17_ => ?_)
  have o18_ : pvOk M16_ := pvok_u2 e17_ o13_ rfl b15_
  have f19_ : pvFr fp_eX10_image_124 M M16_ := pvfr_u e17_ f14_ rfl
  have b20_ : 0 ≤ Int32.toInt (M16_.1 124 2) ∧ Int32.toInt (M16_.1 124 2) ≤ 999999 := pvok_r o18_ 124 2 rfl
  refine pw_blkw hT 4 (pc := 37) (lo := [some (pvR 124), none]) (st := []) (M := pvu M16_ 124 50 (M16_.1 124 2)) rfl ⟨trivial, trivial, rfl, rfl, trivial⟩ (fun M21_ e22_ => ?_)
  have o23_ : pvOk M21_ := pvok_u2 e22_ o18_ rfl b20_
  have f24_ : pvFr fp_eX10_image_124 M M21_ := pvfr_u e22_ f19_ rfl
  have b25_ : 0 ≤ Int32.toInt (M21_.1 124 3) ∧ Int32.toInt (M21_.1 124 3) ≤ 108 := pvok_r o23_ 124 3 rfl
  refine pw_blkw hT 4 (pc := 45) (lo := [some (pvR 124), none]) (st := []) (M := pvu M21_ 124 51 (M21_.1 124 3)) rfl ⟨trivial, trivial, rfl, rfl, trivial⟩ (fun M26_ e27_ => ?_)
  have o28_ : pvOk M26_ := pvok_u2 e27_ o23_ rfl b25_
  have f29_ : pvFr fp_eX10_image_124 M M26_ := pvfr_u e27_ f24_ rfl
  have b30_ : 0 ≤ Int32.toInt (M26_.1 124 4) ∧ Int32.toInt (M26_.1 124 4) ≤ 4 := pvok_r o28_ 124 4 rfl
  refine pw_blkw hT 4 (pc := 53) (lo := [some (pvR 124), none]) (st := []) (M := pvu M26_ 124 52 (M26_.1 124 4)) rfl ⟨trivial, trivial, rfl, rfl, trivial⟩ (fun M31_ e32_ => ?_)
  have o33_ : pvOk M31_ := pvok_u2 e32_ o28_ rfl b30_
  have f34_ : pvFr fp_eX10_image_124 M M31_ := pvfr_u e32_ f29_ rfl
  have b35_ : 0 ≤ Int32.toInt (M31_.1 124 5) ∧ Int32.toInt (M31_.1 124 5) ≤ 3 := pvok_r o33_ 124 5 rfl
  refine pw_blkw hT 4 (pc := 61) (lo := [some (pvR 124), none]) (st := []) (M := pvu M31_ 124 53 (M31_.1 124 5)) rfl ⟨trivial, trivial, rfl, rfl, trivial⟩ (fun M36_ e37_ => ?_)
  have o38_ : pvOk M36_ := pvok_u2 e37_ o33_ rfl b35_
  have f39_ : pvFr fp_eX10_image_124 M M36_ := pvfr_u e37_ f34_ rfl
  have b40_ : 0 ≤ Int32.toInt (M36_.1 124 6) ∧ Int32.toInt (M36_.1 124 6) ≤ 4 := pvok_r o38_ 124 6 rfl
  refine pw_blkw hT 4 (pc := 69) (lo := [some (pvR 124), none]) (st := []) (M := pvu M36_ 124 54 (M36_.1 124 6)) rfl ⟨trivial, trivial, rfl, rfl, trivial⟩ (fun M41_ e42_ => ?_)
  have o43_ : pvOk M41_ := pvok_u2 e42_ o38_ rfl b40_
  have f44_ : pvFr fp_eX10_image_124 M M41_ := pvfr_u e42_ f39_ rfl
  have b45_ : 0 ≤ Int32.toInt (M41_.1 124 37) ∧ Int32.toInt (M41_.1 124 37) ≤ 7 := pvok_r o43_ 124 37 rfl
  refine pw_blkw hT 4 (pc := 77) (lo := [some (pvR 124), none]) (st := []) (M := pvu M41_ 124 55 (M41_.1 124 37)) rfl ⟨trivial, trivial, rfl, rfl, trivial⟩ (fun M46_ e47_ => ?_)
  have o48_ : pvOk M46_ := pvok_u2 e47_ o43_ rfl b45_
  have f49_ : pvFr fp_eX10_image_124 M M46_ := pvfr_u e47_ f44_ rfl
  have b50_ : 0 ≤ Int32.toInt (M46_.1 124 40) ∧ Int32.toInt (M46_.1 124 40) ≤ 6 := pvok_r o48_ 124 40 rfl
  refine pw_blkw hT 4 (pc := 85) (lo := [some (pvR 124), none]) (st := []) (M := pvu M46_ 124 56 (M46_.1 124 40)) rfl ⟨trivial, trivial, rfl, rfl, trivial⟩ (fun M51_ e52_ => ?_)
  have o53_ : pvOk M51_ := pvok_u2 e52_ o48_ rfl b50_
  have f54_ : pvFr fp_eX10_image_124 M M51_ := pvfr_u e52_ f49_ rfl
  have b55_ : 0 ≤ Int32.toInt (M51_.1 124 43) ∧ Int32.toInt (M51_.1 124 43) ≤ 8 := pvok_r o53_ 124 43 rfl
  refine pw_blkw hT 4 (pc := 93) (lo := [some (pvR 124), none]) (st := []) (M := pvu M51_ 124 57 (M51_.1 124 43)) rfl ⟨trivial, trivial, rfl, rfl, trivial⟩ (fun M56_ e57_ => ?_)
  have o58_ : pvOk M56_ := pvok_u2 e57_ o53_ rfl b55_
  have f59_ : pvFr fp_eX10_image_124 M M56_ := pvfr_u e57_ f54_ rfl
  refine pw_blk hT 2 (S' := (95, [some (pvR 124), some (pvI 0)], [], M56_)) rfl ⟨trivial, trivial, trivial⟩ ?_
  have hlz6729_ : ∀ (nz6729_ : Nat) (i1z6729_ : Int32) (Mz6729_ : pvM), (pvOk Mz6729_) → (pvFr fp_eX10_image_124 M Mz6729_) → (0 ≤ Int32.toInt i1z6729_ ∧ Int32.toInt i1z6729_ ≤ 7) → (Int32.toInt (Mz6729_.1 124 47) = Int32.toInt (M.1 124 15)) → (Int32.toInt (Mz6729_.1 124 51) = Int32.toInt (M.1 124 3)) → (Mz6729_.1 124 48 = (M.1 124 0)) → (Mz6729_.1 124 51 = (M.1 124 3)) → (Mz6729_.1 124 52 = (M.1 124 4)) → (Mz6729_.1 124 46 = 1) → (Mz6729_.1 124 56 = (M.1 124 40)) → (Mz6729_.1 124 57 = (M.1 124 43)) → (zC1 151 125 (Int32.toNatClampNeg i1z6729_) M Mz6729_) → (zC1 152 126 (Int32.toNatClampNeg i1z6729_) M Mz6729_) → (zC1 153 127 (Int32.toNatClampNeg i1z6729_) M Mz6729_) → (zC1 154 128 (Int32.toNatClampNeg i1z6729_) M Mz6729_) → (zC1 155 129 (Int32.toNatClampNeg i1z6729_) M Mz6729_) → (zC1 162 131 (Int32.toNatClampNeg i1z6729_) M Mz6729_) → (zC1 157 145 (Int32.toNatClampNeg i1z6729_) M Mz6729_) → (Mz6729_.1 124 55 = (M.1 124 37)) → (zhide ((8 - Int32.toInt i1z6729_).toNat < nz6729_)) → PW 35 d (95, [some (pvR 124), some (pvI i1z6729_)], [], Mz6729_) (fun r X => (∃ x : Int32, r = some (pvI x) ∧ (0 ≤ Int32.toInt x ∧ Int32.toInt x ≤ 7) ∧ x = (M.1 124 0)) ∧ pvOk X ∧ pvFr fp_eX10_image_124 M X ∧ ((pvWF M → pvWF X) ∧ (Int32.toInt (M.1 124 3) ≤ 99 → Int32.toInt (M.1 124 51) ≤ 99 → Int32.toInt (X.1 124 51) ≤ 99)) ∧ zC1 157 145 7 M X ∧ zC1 158 147 6 M X ∧ zC1 159 148 6 M X ∧ zC1 160 149 8 M X ∧ zC1 161 150 8 M X ∧ X.1 124 48 = (M.1 124 0) ∧ X.1 124 51 = (M.1 124 3) ∧ X.1 124 52 = (M.1 124 4) ∧ X.1 124 46 = 1 ∧ X.1 124 56 = (M.1 124 40) ∧ X.1 124 57 = (M.1 124 43) ∧ X.1 124 55 = (M.1 124 37)) := by
    intro nz6729_
    induction nz6729_ with
    | zero => intro i1z6729_ Mz6729_ oz6729_ fz6729_ h1z6729_ j0z6729_ j1z6729_ j2z6729_ j3z6729_ j4z6729_ j5z6729_ j6z6729_ j7z6729_ j8z6729_ j9z6729_ j10z6729_ j11z6729_ j12z6729_ j13z6729_ j14z6729_ j15z6729_ hmz6729_; exact absurd (zshow hmz6729_) (Nat.not_lt_zero _)
    | succ nz6729_ ihz6729_ =>
      intro i1z6729_ Mz6729_ oz6729_ fz6729_ h1z6729_ j0z6729_ j1z6729_ j2z6729_ j3z6729_ j4z6729_ j5z6729_ j6z6729_ j7z6729_ j8z6729_ j9z6729_ j10z6729_ j11z6729_ j12z6729_ j13z6729_ j14z6729_ j15z6729_ hmz6729_
      have b6730_ : (-1) ≤ Int32.toInt (Mz6729_.1 124 47) ∧ Int32.toInt (Mz6729_.1 124 47) ≤ 5 := pvok_r oz6729_ 124 47 rfl
      have b6731_ : 0 ≤ Int32.toInt (Mz6729_.1 124 51) ∧ Int32.toInt (Mz6729_.1 124 51) ≤ 108 := pvok_r oz6729_ 124 51 rfl
      refine pw_blk hT 2 (S' := (98, [some (pvR 124), some (pvI i1z6729_)], [pvI 7, pvI i1z6729_], Mz6729_)) rfl ⟨trivial, trivial, trivial⟩ ?_
      refine pw_ic hT (c := 7 ≤ i1z6729_) rfl rfl (fun c6732_ => ?_) (fun c6732_ => ?_)
      · have b6733_ : 7 ≤ Int32.toInt i1z6729_ ∧ Int32.toInt i1z6729_ ≤ 7 := zr_le_r 7 c6732_ h1z6729_ (show 7 ≤ Int32.toInt 7 ∧ Int32.toInt 7 ≤ 7 from (by decide)) (by decide)
        refine pw_blk hT 2 (S' := (193, [some (pvR 124), some (pvI 0)], [], Mz6729_)) rfl ⟨trivial, trivial, trivial⟩ ?_
        have hlz8348_ : ∀ (nz8348_ : Nat) (i1z8348_ : Int32) (Mz8348_ : pvM), (pvOk Mz8348_) → (pvFr fp_eX10_image_124 M Mz8348_) → (0 ≤ Int32.toInt i1z8348_ ∧ Int32.toInt i1z8348_ ≤ 28) → (Int32.toInt (Mz8348_.1 124 47) = Int32.toInt (M.1 124 15)) → (Int32.toInt (Mz8348_.1 124 51) = Int32.toInt (M.1 124 3)) → (Mz8348_.1 124 48 = (M.1 124 0)) → (Mz8348_.1 124 51 = (M.1 124 3)) → (Mz8348_.1 124 52 = (M.1 124 4)) → (Mz8348_.1 124 46 = 1) → (Mz8348_.1 124 56 = (M.1 124 40)) → (Mz8348_.1 124 57 = (M.1 124 43)) → (zC1 151 125 7 M Mz8348_) → (zC1 152 126 7 M Mz8348_) → (zC1 153 127 7 M Mz8348_) → (zC1 154 128 7 M Mz8348_) → (zC1 155 129 7 M Mz8348_) → (zC1 162 131 7 M Mz8348_) → (zC1 157 145 7 M Mz8348_) → (zC1 156 130 (Int32.toNatClampNeg i1z8348_) M Mz8348_) → (Mz8348_.1 124 55 = (M.1 124 37)) → (zhide ((29 - Int32.toInt i1z8348_).toNat < nz8348_)) → PW 35 d (193, [some (pvR 124), some (pvI i1z8348_)], [], Mz8348_) (fun r X => (∃ x : Int32, r = some (pvI x) ∧ (0 ≤ Int32.toInt x ∧ Int32.toInt x ≤ 7) ∧ x = (M.1 124 0)) ∧ pvOk X ∧ pvFr fp_eX10_image_124 M X ∧ ((pvWF M → pvWF X) ∧ (Int32.toInt (M.1 124 3) ≤ 99 → Int32.toInt (M.1 124 51) ≤ 99 → Int32.toInt (X.1 124 51) ≤ 99)) ∧ zC1 157 145 7 M X ∧ zC1 158 147 6 M X ∧ zC1 159 148 6 M X ∧ zC1 160 149 8 M X ∧ zC1 161 150 8 M X ∧ X.1 124 48 = (M.1 124 0) ∧ X.1 124 51 = (M.1 124 3) ∧ X.1 124 52 = (M.1 124 4) ∧ X.1 124 46 = 1 ∧ X.1 124 56 = (M.1 124 40) ∧ X.1 124 57 = (M.1 124 43) ∧ X.1 124 55 = (M.1 124 37)) := by
          intro nz8348_
          induction nz8348_ with
          | zero => intro i1z8348_ Mz8348_ oz8348_ fz8348_ h1z8348_ j0z8348_ j1z8348_ j2z8348_ j3z8348_ j4z8348_ j5z8348_ j6z8348_ j7z8348_ j8z8348_ j9z8348_ j10z8348_ j11z8348_ j12z8348_ j13z8348_ j14z8348_ j15z8348_ j16z8348_ hmz8348_; exact absurd (zshow hmz8348_) (Nat.not_lt_zero _)
          | succ nz8348_ ihz8348_ =>
            intro i1z8348_ Mz8348_ oz8348_ fz8348_ h1z8348_ j0z8348_ j1z8348_ j2z8348_ j3z8348_ j4z8348_ j5z8348_ j6z8348_ j7z8348_ j8z8348_ j9z8348_ j10z8348_ j11z8348_ j12z8348_ j13z8348_ j14z8348_ j15z8348_ j16z8348_ hmz8348_
            have b8349_ : (-1) ≤ Int32.toInt (Mz8348_.1 124 47) ∧ Int32.toInt (Mz8348_.1 124 47) ≤ 5 := pvok_r oz8348_ 124 47 rfl
            have b8350_ : 0 ≤ Int32.toInt (Mz8348_.1 124 51) ∧ Int32.toInt (Mz8348_.1 124 51) ≤ 108 := pvok_r oz8348_ 124 51 rfl
            refine pw_blk hT 2 (S' := (196, [some (pvR 124), some (pvI i1z8348_)], [pvI 28, pvI i1z8348_], Mz8348_)) rfl ⟨trivial, trivial, trivial⟩ ?_
            refine pw_ic hT (c := 28 ≤ i1z8348_) rfl rfl (fun c8351_ => ?_) (fun c8351_ => ?_)
            · have b8352_ : 28 ≤ Int32.toInt i1z8348_ ∧ Int32.toInt i1z8348_ ≤ 28 := zr_le_r 28 c8351_ h1z8348_ (show 28 ≤ Int32.toInt 28 ∧ Int32.toInt 28 ≤ 28 from (by decide)) (by decide)
              refine pw_blk hT 2 (S' := (219, [some (pvR 124), some (pvI 0)], [], Mz8348_)) rfl ⟨trivial, trivial, trivial⟩ ?_
              have hlz8733_ : ∀ (nz8733_ : Nat) (i1z8733_ : Int32) (Mz8733_ : pvM), (pvOk Mz8733_) → (pvFr fp_eX10_image_124 M Mz8733_) → (0 ≤ Int32.toInt i1z8733_ ∧ Int32.toInt i1z8733_ ≤ 6) → (Int32.toInt (Mz8733_.1 124 47) = Int32.toInt (M.1 124 15)) → (Int32.toInt (Mz8733_.1 124 51) = Int32.toInt (M.1 124 3)) → (Mz8733_.1 124 48 = (M.1 124 0)) → (Mz8733_.1 124 51 = (M.1 124 3)) → (Mz8733_.1 124 52 = (M.1 124 4)) → (Mz8733_.1 124 46 = 1) → (Mz8733_.1 124 56 = (M.1 124 40)) → (Mz8733_.1 124 57 = (M.1 124 43)) → (zC1 151 125 7 M Mz8733_) → (zC1 152 126 7 M Mz8733_) → (zC1 153 127 7 M Mz8733_) → (zC1 154 128 7 M Mz8733_) → (zC1 155 129 7 M Mz8733_) → (zC1 162 131 7 M Mz8733_) → (zC1 157 145 7 M Mz8733_) → (zC1 156 130 28 M Mz8733_) → (zC1 158 147 (Int32.toNatClampNeg i1z8733_) M Mz8733_) → (zC1 159 148 (Int32.toNatClampNeg i1z8733_) M Mz8733_) → (Mz8733_.1 124 55 = (M.1 124 37)) → (zhide ((7 - Int32.toInt i1z8733_).toNat < nz8733_)) → PW 35 d (219, [some (pvR 124), some (pvI i1z8733_)], [], Mz8733_) (fun r X => (∃ x : Int32, r = some (pvI x) ∧ (0 ≤ Int32.toInt x ∧ Int32.toInt x ≤ 7) ∧ x = (M.1 124 0)) ∧ pvOk X ∧ pvFr fp_eX10_image_124 M X ∧ ((pvWF M → pvWF X) ∧ (Int32.toInt (M.1 124 3) ≤ 99 → Int32.toInt (M.1 124 51) ≤ 99 → Int32.toInt (X.1 124 51) ≤ 99)) ∧ zC1 157 145 7 M X ∧ zC1 158 147 6 M X ∧ zC1 159 148 6 M X ∧ zC1 160 149 8 M X ∧ zC1 161 150 8 M X ∧ X.1 124 48 = (M.1 124 0) ∧ X.1 124 51 = (M.1 124 3) ∧ X.1 124 52 = (M.1 124 4) ∧ X.1 124 46 = 1 ∧ X.1 124 56 = (M.1 124 40) ∧ X.1 124 57 = (M.1 124 43) ∧ X.1 124 55 = (M.1 124 37)) := by
                intro nz8733_
                induction nz8733_ with
                | zero => intro i1z8733_ Mz8733_ oz8733_ fz8733_ h1z8733_ j0z8733_ j1z8733_ j2z8733_ j3z8733_ j4z8733_ j5z8733_ j6z8733_ j7z8733_ j8z8733_ j9z8733_ j10z8733_ j11z8733_ j12z8733_ j13z8733_ j14z8733_ j15z8733_ j16z8733_ j17z8733_ j18z8733_ hmz8733_; exact absurd (zshow hmz8733_) (Nat.not_lt_zero _)
                | succ nz8733_ ihz8733_ =>
                  intro i1z8733_ Mz8733_ oz8733_ fz8733_ h1z8733_ j0z8733_ j1z8733_ j2z8733_ j3z8733_ j4z8733_ j5z8733_ j6z8733_ j7z8733_ j8z8733_ j9z8733_ j10z8733_ j11z8733_ j12z8733_ j13z8733_ j14z8733_ j15z8733_ j16z8733_ j17z8733_ j18z8733_ hmz8733_
                  have b8734_ : (-1) ≤ Int32.toInt (Mz8733_.1 124 47) ∧ Int32.toInt (Mz8733_.1 124 47) ≤ 5 := pvok_r oz8733_ 124 47 rfl
                  have b8735_ : 0 ≤ Int32.toInt (Mz8733_.1 124 51) ∧ Int32.toInt (Mz8733_.1 124 51) ≤ 108 := pvok_r oz8733_ 124 51 rfl
                  refine pw_blk hT 2 (S' := (222, [some (pvR 124), some (pvI i1z8733_)], [pvI 6, pvI i1z8733_], Mz8733_)) rfl ⟨trivial, trivial, trivial⟩ ?_
                  refine pw_ic hT (c := 6 ≤ i1z8733_) rfl rfl (fun c8736_ => ?_) (fun c8736_ => ?_)
                  · have b8737_ : 6 ≤ Int32.toInt i1z8733_ ∧ Int32.toInt i1z8733_ ≤ 6 := zr_le_r 6 c8736_ h1z8733_ (show 6 ≤ Int32.toInt 6 ∧ Int32.toInt 6 ≤ 6 from (by decide)) (by decide)
                    refine pw_blk hT 2 (S' := (257, [some (pvR 124), some (pvI 0)], [], Mz8733_)) rfl ⟨trivial, trivial, trivial⟩ ?_
                    have hlz8803_ : ∀ (nz8803_ : Nat) (i1z8803_ : Int32) (Mz8803_ : pvM), (pvOk Mz8803_) → (pvFr fp_eX10_image_124 M Mz8803_) → (0 ≤ Int32.toInt i1z8803_ ∧ Int32.toInt i1z8803_ ≤ 8) → (Int32.toInt (Mz8803_.1 124 47) = Int32.toInt (M.1 124 15)) → (Int32.toInt (Mz8803_.1 124 51) = Int32.toInt (M.1 124 3)) → (Mz8803_.1 124 48 = (M.1 124 0)) → (Mz8803_.1 124 51 = (M.1 124 3)) → (Mz8803_.1 124 52 = (M.1 124 4)) → (Mz8803_.1 124 46 = 1) → (Mz8803_.1 124 56 = (M.1 124 40)) → (Mz8803_.1 124 57 = (M.1 124 43)) → (zC1 151 125 7 M Mz8803_) → (zC1 152 126 7 M Mz8803_) → (zC1 153 127 7 M Mz8803_) → (zC1 154 128 7 M Mz8803_) → (zC1 155 129 7 M Mz8803_) → (zC1 162 131 7 M Mz8803_) → (zC1 157 145 7 M Mz8803_) → (zC1 156 130 28 M Mz8803_) → (zC1 158 147 6 M Mz8803_) → (zC1 159 148 6 M Mz8803_) → (zC1 160 149 (Int32.toNatClampNeg i1z8803_) M Mz8803_) → (zC1 161 150 (Int32.toNatClampNeg i1z8803_) M Mz8803_) → (Mz8803_.1 124 55 = (M.1 124 37)) → (zhide ((9 - Int32.toInt i1z8803_).toNat < nz8803_)) → PW 35 d (257, [some (pvR 124), some (pvI i1z8803_)], [], Mz8803_) (fun r X => (∃ x : Int32, r = some (pvI x) ∧ (0 ≤ Int32.toInt x ∧ Int32.toInt x ≤ 7) ∧ x = (M.1 124 0)) ∧ pvOk X ∧ pvFr fp_eX10_image_124 M X ∧ ((pvWF M → pvWF X) ∧ (Int32.toInt (M.1 124 3) ≤ 99 → Int32.toInt (M.1 124 51) ≤ 99 → Int32.toInt (X.1 124 51) ≤ 99)) ∧ zC1 157 145 7 M X ∧ zC1 158 147 6 M X ∧ zC1 159 148 6 M X ∧ zC1 160 149 8 M X ∧ zC1 161 150 8 M X ∧ X.1 124 48 = (M.1 124 0) ∧ X.1 124 51 = (M.1 124 3) ∧ X.1 124 52 = (M.1 124 4) ∧ X.1 124 46 = 1 ∧ X.1 124 56 = (M.1 124 40) ∧ X.1 124 57 = (M.1 124 43) ∧ X.1 124 55 = (M.1 124 37)) := by
                      intro nz8803_
                      induction nz8803_ with
                      | zero => intro i1z8803_ Mz8803_ oz8803_ fz8803_ h1z8803_ j0z8803_ j1z8803_ j2z8803_ j3z8803_ j4z8803_ j5z8803_ j6z8803_ j7z8803_ j8z8803_ j9z8803_ j10z8803_ j11z8803_ j12z8803_ j13z8803_ j14z8803_ j15z8803_ j16z8803_ j17z8803_ j18z8803_ j19z8803_ j20z8803_ hmz8803_; exact absurd (zshow hmz8803_) (Nat.not_lt_zero _)
                      | succ nz8803_ ihz8803_ =>
                        intro i1z8803_ Mz8803_ oz8803_ fz8803_ h1z8803_ j0z8803_ j1z8803_ j2z8803_ j3z8803_ j4z8803_ j5z8803_ j6z8803_ j7z8803_ j8z8803_ j9z8803_ j10z8803_ j11z8803_ j12z8803_ j13z8803_ j14z8803_ j15z8803_ j16z8803_ j17z8803_ j18z8803_ j19z8803_ j20z8803_ hmz8803_
                        have b8804_ : (-1) ≤ Int32.toInt (Mz8803_.1 124 47) ∧ Int32.toInt (Mz8803_.1 124 47) ≤ 5 := pvok_r oz8803_ 124 47 rfl
                        have b8805_ : 0 ≤ Int32.toInt (Mz8803_.1 124 51) ∧ Int32.toInt (Mz8803_.1 124 51) ≤ 108 := pvok_r oz8803_ 124 51 rfl
                        refine pw_blk hT 2 (S' := (260, [some (pvR 124), some (pvI i1z8803_)], [pvI 8, pvI i1z8803_], Mz8803_)) rfl ⟨trivial, trivial, trivial⟩ ?_
                        refine pw_ic hT (c := 8 ≤ i1z8803_) rfl rfl (fun c8806_ => ?_) (fun c8806_ => ?_)
                        · have b8807_ : 8 ≤ Int32.toInt i1z8803_ ∧ Int32.toInt i1z8803_ ≤ 8 := zr_le_r 8 c8806_ h1z8803_ (show 8 ≤ Int32.toInt 8 ∧ Int32.toInt 8 ≤ 8 from (by decide)) (by decide)
                          have b8808_ : 0 ≤ Int32.toInt (Mz8803_.1 124 0) ∧ Int32.toInt (Mz8803_.1 124 0) ≤ 7 := pvok_r oz8803_ 124 0 rfl
                          refine pw_blk hT 2 (S' := (297, [some (pvR 124), some (pvI i1z8803_)], [pvI (Mz8803_.1 124 0)], Mz8803_)) rfl ⟨trivial, rfl, trivial⟩ ?_
                          exact pw_ret hT rfl (r := some (pvI (Mz8803_.1 124 0))) (M' := Mz8803_) ⟨rfl, rfl⟩ ⟨⟨_, rfl, b8808_, (show (Mz8803_.1 124 0) = (M.1 124 0) from by rw [(fz8803_ 124 0 rfl)])⟩, oz8803_, fz8803_, ⟨fun hz => ⟨by have z3 := hz.1; have z4 := hz.2.1; have w0 : Int32.toInt (Mz8803_.1 124 14) = Int32.toInt (M.1 124 14) := congrArg Int32.toInt (fz8803_ 124 14 rfl); have v0 : Int32.toInt (Mz8803_.1 124 15) = Int32.toInt (M.1 124 15) := congrArg Int32.toInt (fz8803_ 124 15 rfl); omega, by have z3 := hz.1; have z4 := hz.2.1; have w0 : Int32.toInt (Mz8803_.1 124 14) = Int32.toInt (M.1 124 14) := congrArg Int32.toInt (fz8803_ 124 14 rfl); omega, fun a ha => pvWh_r (pvfr_row (L := fpL_eX10_image_124) fz8803_ rfl) (pvfr_row (L := fpL_eX10_image_124) fz8803_ rfl) (pvfr_row (L := fpL_eX10_image_124) fz8803_ rfl) (pvfr_row (L := fpL_eX10_image_124) fz8803_ rfl) (pvfr_row (L := fpL_eX10_image_124) fz8803_ rfl) (hz.2.2 a (by have w0 : Int32.toInt (Mz8803_.1 124 14) = Int32.toInt (M.1 124 14) := congrArg Int32.toInt (fz8803_ 124 14 rfl); omega))⟩, fun hc hc2 => by omega⟩, j14z8803_, j16z8803_, j17z8803_, (zC1_n (znp0 b8807_) j18z8803_), (zC1_n (znp0 b8807_) j19z8803_), j2z8803_, j3z8803_, j4z8803_, j5z8803_, j6z8803_, j7z8803_, j20z8803_⟩
                        · have b8809_ : 0 ≤ Int32.toInt i1z8803_ ∧ Int32.toInt i1z8803_ ≤ 7 := zr_nle_r 7 c8806_ h1z8803_ (show 8 ≤ Int32.toInt 8 ∧ Int32.toInt 8 ≤ 8 from (by decide)) (by decide)
                          have b8810_ : 0 ≤ Int32.toInt (Mz8803_.1 149 (Int32.toNatClampNeg i1z8803_)) ∧ Int32.toInt (Mz8803_.1 149 (Int32.toNatClampNeg i1z8803_)) ≤ 6 := pvok_r oz8803_ 149 (Int32.toNatClampNeg i1z8803_) rfl
                          refine pw_blkw hT 8 (pc := 275) (lo := [some (pvR 124), some (pvI i1z8803_)]) (st := []) (M := pvu Mz8803_ 160 (Int32.toNatClampNeg i1z8803_) (Mz8803_.1 149 (Int32.toNatClampNeg i1z8803_))) rfl ⟨trivial, rfl, trivial, trivial, rfl, trivial, ⟨rfl, (zr_in (n := 8) b8809_ (by decide) (by decide))⟩, ⟨rfl, (zr_in (n := 8) b8809_ (by decide) (by decide))⟩, trivial⟩ (fun M8811_ e8812_ => ?_)
                          have o8813_ : pvOk M8811_ := pvok_u2 e8812_ oz8803_ rfl b8810_
                          have f8814_ : pvFr fp_eX10_image_124 M M8811_ := pvfr_u e8812_ fz8803_ rfl
                          have b8815_ : 0 ≤ Int32.toInt (M8811_.1 150 (Int32.toNatClampNeg i1z8803_)) ∧ Int32.toInt (M8811_.1 150 (Int32.toNatClampNeg i1z8803_)) ≤ 9999 := pvok_r o8813_ 150 (Int32.toNatClampNeg i1z8803_) rfl
                          refine pw_blkw hT 8 (pc := 287) (lo := [some (pvR 124), some (pvI i1z8803_)]) (st := []) (M := pvu M8811_ 161 (Int32.toNatClampNeg i1z8803_) (M8811_.1 150 (Int32.toNatClampNeg i1z8803_))) rfl ⟨trivial, rfl, trivial, trivial, rfl, trivial, ⟨rfl, (zr_in (n := 8) b8809_ (by decide) (by decide))⟩, ⟨rfl, (zr_in (n := 8) b8809_ (by decide) (by decide))⟩, trivial⟩ (fun M8816_ e8817_ => ?_)
                          have o8818_ : pvOk M8816_ := pvok_u2 e8817_ o8813_ rfl b8815_
                          have f8819_ : pvFr fp_eX10_image_124 M M8816_ := pvfr_u e8817_ f8814_ rfl
                          obtain ⟨q8821_, b8820_⟩ : (Int32.toInt (i1z8803_ + 1) = Int32.toInt i1z8803_ + 1) ∧ (1 ≤ Int32.toInt (i1z8803_ + 1) ∧ Int32.toInt (i1z8803_ + 1) ≤ 8) := zadd_k i1z8803_ 1 1 1 8 b8809_ (by decide) (by decide) (by decide) (by decide) (by decide)
                          refine pw_blk hT 2 (S' := (257, [some (pvR 124), some (pvI (i1z8803_ + 1))], [], M8816_)) rfl ⟨trivial, trivial, trivial⟩ ?_
                          have j8822_ : Int32.toInt (M8816_.1 124 47) = Int32.toInt (M.1 124 15) := (by have y01 : Int32.toInt (M8816_.1 124 47) = Int32.toInt (Mz8803_.1 124 47) := congrArg Int32.toInt ((pvu_n e8817_ 124 47 (Or.inl (by decide))).trans (pvu_n e8812_ 124 47 (Or.inl (by decide)))); omega)
                          have j8823_ : Int32.toInt (M8816_.1 124 51) = Int32.toInt (M.1 124 3) := (by have y01 : Int32.toInt (M8816_.1 124 51) = Int32.toInt (Mz8803_.1 124 51) := congrArg Int32.toInt ((pvu_n e8817_ 124 51 (Or.inl (by decide))).trans (pvu_n e8812_ 124 51 (Or.inl (by decide)))); omega)
                          have j8824_ : M8816_.1 124 48 = (M.1 124 0) := (((pvu_n e8817_ 124 48 (Or.inl (by decide))).trans (pvu_n e8812_ 124 48 (Or.inl (by decide)))).trans (j2z8803_))
                          have j8825_ : M8816_.1 124 51 = (M.1 124 3) := (((pvu_n e8817_ 124 51 (Or.inl (by decide))).trans (pvu_n e8812_ 124 51 (Or.inl (by decide)))).trans (j3z8803_))
                          have j8826_ : M8816_.1 124 52 = (M.1 124 4) := (((pvu_n e8817_ 124 52 (Or.inl (by decide))).trans (pvu_n e8812_ 124 52 (Or.inl (by decide)))).trans (j4z8803_))
                          have j8827_ : M8816_.1 124 46 = 1 := (((pvu_n e8817_ 124 46 (Or.inl (by decide))).trans (pvu_n e8812_ 124 46 (Or.inl (by decide)))).trans (j5z8803_))
                          have j8828_ : M8816_.1 124 56 = (M.1 124 40) := (((pvu_n e8817_ 124 56 (Or.inl (by decide))).trans (pvu_n e8812_ 124 56 (Or.inl (by decide)))).trans (j6z8803_))
                          have j8829_ : M8816_.1 124 57 = (M.1 124 43) := (((pvu_n e8817_ 124 57 (Or.inl (by decide))).trans (pvu_n e8812_ 124 57 (Or.inl (by decide)))).trans (j7z8803_))
                          have j8830_ : zC1 151 125 7 M M8816_ := (zC1_u (zC1_u j8z8803_ e8812_ (by decide)) e8817_ (by decide))
                          have j8831_ : zC1 152 126 7 M M8816_ := (zC1_u (zC1_u j9z8803_ e8812_ (by decide)) e8817_ (by decide))
                          have j8832_ : zC1 153 127 7 M M8816_ := (zC1_u (zC1_u j10z8803_ e8812_ (by decide)) e8817_ (by decide))
                          have j8833_ : zC1 154 128 7 M M8816_ := (zC1_u (zC1_u j11z8803_ e8812_ (by decide)) e8817_ (by decide))
                          have j8834_ : zC1 155 129 7 M M8816_ := (zC1_u (zC1_u j12z8803_ e8812_ (by decide)) e8817_ (by decide))
                          have j8835_ : zC1 162 131 7 M M8816_ := (zC1_u (zC1_u j13z8803_ e8812_ (by decide)) e8817_ (by decide))
                          have j8836_ : zC1 157 145 7 M M8816_ := (zC1_u (zC1_u j14z8803_ e8812_ (by decide)) e8817_ (by decide))
                          have j8837_ : zC1 156 130 28 M M8816_ := (zC1_u (zC1_u j15z8803_ e8812_ (by decide)) e8817_ (by decide))
                          have j8838_ : zC1 158 147 6 M M8816_ := (zC1_u (zC1_u j16z8803_ e8812_ (by decide)) e8817_ (by decide))
                          have j8839_ : zC1 159 148 6 M M8816_ := (zC1_u (zC1_u j17z8803_ e8812_ (by decide)) e8817_ (by decide))
                          have j8840_ : zC1 160 149 (Int32.toNatClampNeg (i1z8803_ + 1)) M M8816_ := (zC1_n (znp1 b8809_ (by decide) (by decide)) (zC1_u (zC1_w j18z8803_ e8812_ (fz8803_ 149 (Int32.toNatClampNeg i1z8803_) rfl)) e8817_ (by decide)))
                          have j8841_ : zC1 161 150 (Int32.toNatClampNeg (i1z8803_ + 1)) M M8816_ := (zC1_n (znp1 b8809_ (by decide) (by decide)) (zC1_w (zC1_u j19z8803_ e8812_ (by decide)) e8817_ ((pvu_n e8812_ 150 (Int32.toNatClampNeg i1z8803_) (Or.inl (by decide))).trans (fz8803_ 150 (Int32.toNatClampNeg i1z8803_) rfl))))
                          have j8842_ : M8816_.1 124 55 = (M.1 124 37) := (((pvu_n e8817_ 124 55 (Or.inl (by decide))).trans (pvu_n e8812_ 124 55 (Or.inl (by decide)))).trans (j20z8803_))
                          exact ihz8803_ (i1z8803_ + 1) M8816_ o8818_ f8819_ (zr_wide b8820_ (by decide) (by decide)) j8822_ j8823_ j8824_ j8825_ j8826_ j8827_ j8828_ j8829_ j8830_ j8831_ j8832_ j8833_ j8834_ j8835_ j8836_ j8837_ j8838_ j8839_ j8840_ j8841_ j8842_ (zhid (by have hm0 := zshow hmz8803_; have y01 : Int32.toInt (M8816_.1 124 47) = Int32.toInt (Mz8803_.1 124 47) := congrArg Int32.toInt ((pvu_n e8817_ 124 47 (Or.inl (by decide))).trans (pvu_n e8812_ 124 47 (Or.inl (by decide)))); have y11 : Int32.toInt (M8816_.1 124 51) = Int32.toInt (Mz8803_.1 124 51) := congrArg Int32.toInt ((pvu_n e8817_ 124 51 (Or.inl (by decide))).trans (pvu_n e8812_ 124 51 (Or.inl (by decide)))); omega))
                    have u8843_ : Int32.toInt 0 = 0 := by decide
                    have j8844_ : Int32.toInt (Mz8733_.1 124 47) = Int32.toInt (M.1 124 15) := (by omega)
                    have j8845_ : Int32.toInt (Mz8733_.1 124 51) = Int32.toInt (M.1 124 3) := (by omega)
                    have j8846_ : Mz8733_.1 124 48 = (M.1 124 0) := j2z8733_
                    have j8847_ : Mz8733_.1 124 51 = (M.1 124 3) := j3z8733_
                    have j8848_ : Mz8733_.1 124 52 = (M.1 124 4) := j4z8733_
                    have j8849_ : Mz8733_.1 124 46 = 1 := j5z8733_
                    have j8850_ : Mz8733_.1 124 56 = (M.1 124 40) := j6z8733_
                    have j8851_ : Mz8733_.1 124 57 = (M.1 124 43) := j7z8733_
                    have j8852_ : zC1 151 125 7 M Mz8733_ := j8z8733_
                    have j8853_ : zC1 152 126 7 M Mz8733_ := j9z8733_
                    have j8854_ : zC1 153 127 7 M Mz8733_ := j10z8733_
                    have j8855_ : zC1 154 128 7 M Mz8733_ := j11z8733_
                    have j8856_ : zC1 155 129 7 M Mz8733_ := j12z8733_
                    have j8857_ : zC1 162 131 7 M Mz8733_ := j13z8733_
                    have j8858_ : zC1 157 145 7 M Mz8733_ := j14z8733_
                    have j8859_ : zC1 156 130 28 M Mz8733_ := j15z8733_
                    have j8860_ : zC1 158 147 6 M Mz8733_ := (zC1_n (znp0 b8737_) j16z8733_)
                    have j8861_ : zC1 159 148 6 M Mz8733_ := (zC1_n (znp0 b8737_) j17z8733_)
                    have j8862_ : zC1 160 149 (Int32.toNatClampNeg 0) M Mz8733_ := (zC1_0 160 149 M Mz8733_)
                    have j8863_ : zC1 161 150 (Int32.toNatClampNeg 0) M Mz8733_ := (zC1_0 161 150 M Mz8733_)
                    have j8864_ : Mz8733_.1 124 55 = (M.1 124 37) := j18z8733_
                    exact hlz8803_ _ 0 Mz8733_ oz8733_ fz8733_ (zr_wide (show 0 ≤ Int32.toInt 0 ∧ Int32.toInt 0 ≤ 0 from (by decide)) (by decide) (by decide)) j8844_ j8845_ j8846_ j8847_ j8848_ j8849_ j8850_ j8851_ j8852_ j8853_ j8854_ j8855_ j8856_ j8857_ j8858_ j8859_ j8860_ j8861_ j8862_ j8863_ j8864_ (zhid (Nat.lt_succ_self _))
                  · have b8865_ : 0 ≤ Int32.toInt i1z8733_ ∧ Int32.toInt i1z8733_ ≤ 5 := zr_nle_r 5 c8736_ h1z8733_ (show 6 ≤ Int32.toInt 6 ∧ Int32.toInt 6 ≤ 6 from (by decide)) (by decide)
                    have b8866_ : 0 ≤ Int32.toInt (Mz8733_.1 147 (Int32.toNatClampNeg i1z8733_)) ∧ Int32.toInt (Mz8733_.1 147 (Int32.toNatClampNeg i1z8733_)) ≤ 6 := pvok_r oz8733_ 147 (Int32.toNatClampNeg i1z8733_) rfl
                    refine pw_blkw hT 8 (pc := 237) (lo := [some (pvR 124), some (pvI i1z8733_)]) (st := []) (M := pvu Mz8733_ 158 (Int32.toNatClampNeg i1z8733_) (Mz8733_.1 147 (Int32.toNatClampNeg i1z8733_))) rfl ⟨trivial, rfl, trivial, trivial, rfl, trivial, ⟨rfl, (zr_in (n := 6) b8865_ (by decide) (by decide))⟩, ⟨rfl, (zr_in (n := 6) b8865_ (by decide) (by decide))⟩, trivial⟩ (fun M8867_ e8868_ => ?_)
                    have o8869_ : pvOk M8867_ := pvok_u2 e8868_ oz8733_ rfl b8866_
                    have f8870_ : pvFr fp_eX10_image_124 M M8867_ := pvfr_u e8868_ fz8733_ rfl
                    have b8871_ : 0 ≤ Int32.toInt (M8867_.1 148 (Int32.toNatClampNeg i1z8733_)) ∧ Int32.toInt (M8867_.1 148 (Int32.toNatClampNeg i1z8733_)) ≤ 9999 := pvok_r o8869_ 148 (Int32.toNatClampNeg i1z8733_) rfl
                    refine pw_blkw hT 8 (pc := 249) (lo := [some (pvR 124), some (pvI i1z8733_)]) (st := []) (M := pvu M8867_ 159 (Int32.toNatClampNeg i1z8733_) (M8867_.1 148 (Int32.toNatClampNeg i1z8733_))) rfl ⟨trivial, rfl, trivial, trivial, rfl, trivial, ⟨rfl, (zr_in (n := 6) b8865_ (by decide) (by decide))⟩, ⟨rfl, (zr_in (n := 6) b8865_ (by decide) (by decide))⟩, trivial⟩ (fun M8872_ e8873_ => ?_)
                    have o8874_ : pvOk M8872_ := pvok_u2 e8873_ o8869_ rfl b8871_
                    have f8875_ : pvFr fp_eX10_image_124 M M8872_ := pvfr_u e8873_ f8870_ rfl
                    obtain ⟨q8877_, b8876_⟩ : (Int32.toInt (i1z8733_ + 1) = Int32.toInt i1z8733_ + 1) ∧ (1 ≤ Int32.toInt (i1z8733_ + 1) ∧ Int32.toInt (i1z8733_ + 1) ≤ 6) := zadd_k i1z8733_ 1 1 1 6 b8865_ (by decide) (by decide) (by decide) (by decide) (by decide)
                    refine pw_blk hT 2 (S' := (219, [some (pvR 124), some (pvI (i1z8733_ + 1))], [], M8872_)) rfl ⟨trivial, trivial, trivial⟩ ?_
                    have j8878_ : Int32.toInt (M8872_.1 124 47) = Int32.toInt (M.1 124 15) := (by have y01 : Int32.toInt (M8872_.1 124 47) = Int32.toInt (Mz8733_.1 124 47) := congrArg Int32.toInt ((pvu_n e8873_ 124 47 (Or.inl (by decide))).trans (pvu_n e8868_ 124 47 (Or.inl (by decide)))); omega)
                    have j8879_ : Int32.toInt (M8872_.1 124 51) = Int32.toInt (M.1 124 3) := (by have y01 : Int32.toInt (M8872_.1 124 51) = Int32.toInt (Mz8733_.1 124 51) := congrArg Int32.toInt ((pvu_n e8873_ 124 51 (Or.inl (by decide))).trans (pvu_n e8868_ 124 51 (Or.inl (by decide)))); omega)
                    have j8880_ : M8872_.1 124 48 = (M.1 124 0) := (((pvu_n e8873_ 124 48 (Or.inl (by decide))).trans (pvu_n e8868_ 124 48 (Or.inl (by decide)))).trans (j2z8733_))
                    have j8881_ : M8872_.1 124 51 = (M.1 124 3) := (((pvu_n e8873_ 124 51 (Or.inl (by decide))).trans (pvu_n e8868_ 124 51 (Or.inl (by decide)))).trans (j3z8733_))
                    have j8882_ : M8872_.1 124 52 = (M.1 124 4) := (((pvu_n e8873_ 124 52 (Or.inl (by decide))).trans (pvu_n e8868_ 124 52 (Or.inl (by decide)))).trans (j4z8733_))
                    have j8883_ : M8872_.1 124 46 = 1 := (((pvu_n e8873_ 124 46 (Or.inl (by decide))).trans (pvu_n e8868_ 124 46 (Or.inl (by decide)))).trans (j5z8733_))
                    have j8884_ : M8872_.1 124 56 = (M.1 124 40) := (((pvu_n e8873_ 124 56 (Or.inl (by decide))).trans (pvu_n e8868_ 124 56 (Or.inl (by decide)))).trans (j6z8733_))
                    have j8885_ : M8872_.1 124 57 = (M.1 124 43) := (((pvu_n e8873_ 124 57 (Or.inl (by decide))).trans (pvu_n e8868_ 124 57 (Or.inl (by decide)))).trans (j7z8733_))
                    have j8886_ : zC1 151 125 7 M M8872_ := (zC1_u (zC1_u j8z8733_ e8868_ (by decide)) e8873_ (by decide))
                    have j8887_ : zC1 152 126 7 M M8872_ := (zC1_u (zC1_u j9z8733_ e8868_ (by decide)) e8873_ (by decide))
                    have j8888_ : zC1 153 127 7 M M8872_ := (zC1_u (zC1_u j10z8733_ e8868_ (by decide)) e8873_ (by decide))
                    have j8889_ : zC1 154 128 7 M M8872_ := (zC1_u (zC1_u j11z8733_ e8868_ (by decide)) e8873_ (by decide))
                    have j8890_ : zC1 155 129 7 M M8872_ := (zC1_u (zC1_u j12z8733_ e8868_ (by decide)) e8873_ (by decide))
                    have j8891_ : zC1 162 131 7 M M8872_ := (zC1_u (zC1_u j13z8733_ e8868_ (by decide)) e8873_ (by decide))
                    have j8892_ : zC1 157 145 7 M M8872_ := (zC1_u (zC1_u j14z8733_ e8868_ (by decide)) e8873_ (by decide))
                    have j8893_ : zC1 156 130 28 M M8872_ := (zC1_u (zC1_u j15z8733_ e8868_ (by decide)) e8873_ (by decide))
                    have j8894_ : zC1 158 147 (Int32.toNatClampNeg (i1z8733_ + 1)) M M8872_ := (zC1_n (znp1 b8865_ (by decide) (by decide)) (zC1_u (zC1_w j16z8733_ e8868_ (fz8733_ 147 (Int32.toNatClampNeg i1z8733_) rfl)) e8873_ (by decide)))
                    have j8895_ : zC1 159 148 (Int32.toNatClampNeg (i1z8733_ + 1)) M M8872_ := (zC1_n (znp1 b8865_ (by decide) (by decide)) (zC1_w (zC1_u j17z8733_ e8868_ (by decide)) e8873_ ((pvu_n e8868_ 148 (Int32.toNatClampNeg i1z8733_) (Or.inl (by decide))).trans (fz8733_ 148 (Int32.toNatClampNeg i1z8733_) rfl))))
                    have j8896_ : M8872_.1 124 55 = (M.1 124 37) := (((pvu_n e8873_ 124 55 (Or.inl (by decide))).trans (pvu_n e8868_ 124 55 (Or.inl (by decide)))).trans (j18z8733_))
                    exact ihz8733_ (i1z8733_ + 1) M8872_ o8874_ f8875_ (zr_wide b8876_ (by decide) (by decide)) j8878_ j8879_ j8880_ j8881_ j8882_ j8883_ j8884_ j8885_ j8886_ j8887_ j8888_ j8889_ j8890_ j8891_ j8892_ j8893_ j8894_ j8895_ j8896_ (zhid (by have hm0 := zshow hmz8733_; have y01 : Int32.toInt (M8872_.1 124 47) = Int32.toInt (Mz8733_.1 124 47) := congrArg Int32.toInt ((pvu_n e8873_ 124 47 (Or.inl (by decide))).trans (pvu_n e8868_ 124 47 (Or.inl (by decide)))); have y11 : Int32.toInt (M8872_.1 124 51) = Int32.toInt (Mz8733_.1 124 51) := congrArg Int32.toInt ((pvu_n e8873_ 124 51 (Or.inl (by decide))).trans (pvu_n e8868_ 124 51 (Or.inl (by decide)))); omega))
              have u8897_ : Int32.toInt 0 = 0 := by decide
              have j8898_ : Int32.toInt (Mz8348_.1 124 47) = Int32.toInt (M.1 124 15) := (by omega)
              have j8899_ : Int32.toInt (Mz8348_.1 124 51) = Int32.toInt (M.1 124 3) := (by omega)
              have j8900_ : Mz8348_.1 124 48 = (M.1 124 0) := j2z8348_
              have j8901_ : Mz8348_.1 124 51 = (M.1 124 3) := j3z8348_
              have j8902_ : Mz8348_.1 124 52 = (M.1 124 4) := j4z8348_
              have j8903_ : Mz8348_.1 124 46 = 1 := j5z8348_
              have j8904_ : Mz8348_.1 124 56 = (M.1 124 40) := j6z8348_
              have j8905_ : Mz8348_.1 124 57 = (M.1 124 43) := j7z8348_
              have j8906_ : zC1 151 125 7 M Mz8348_ := j8z8348_
              have j8907_ : zC1 152 126 7 M Mz8348_ := j9z8348_
              have j8908_ : zC1 153 127 7 M Mz8348_ := j10z8348_
              have j8909_ : zC1 154 128 7 M Mz8348_ := j11z8348_
              have j8910_ : zC1 155 129 7 M Mz8348_ := j12z8348_
              have j8911_ : zC1 162 131 7 M Mz8348_ := j13z8348_
              have j8912_ : zC1 157 145 7 M Mz8348_ := j14z8348_
              have j8913_ : zC1 156 130 28 M Mz8348_ := (zC1_n (znp0 b8352_) j15z8348_)
              have j8914_ : zC1 158 147 (Int32.toNatClampNeg 0) M Mz8348_ := (zC1_0 158 147 M Mz8348_)
              have j8915_ : zC1 159 148 (Int32.toNatClampNeg 0) M Mz8348_ := (zC1_0 159 148 M Mz8348_)
              have j8916_ : Mz8348_.1 124 55 = (M.1 124 37) := j16z8348_
              exact hlz8733_ _ 0 Mz8348_ oz8348_ fz8348_ (zr_wide (show 0 ≤ Int32.toInt 0 ∧ Int32.toInt 0 ≤ 0 from (by decide)) (by decide) (by decide)) j8898_ j8899_ j8900_ j8901_ j8902_ j8903_ j8904_ j8905_ j8906_ j8907_ j8908_ j8909_ j8910_ j8911_ j8912_ j8913_ j8914_ j8915_ j8916_ (zhid (Nat.lt_succ_self _))
            · have b8917_ : 0 ≤ Int32.toInt i1z8348_ ∧ Int32.toInt i1z8348_ ≤ 27 := zr_nle_r 27 c8351_ h1z8348_ (show 28 ≤ Int32.toInt 28 ∧ Int32.toInt 28 ≤ 28 from (by decide)) (by decide)
              have b8918_ : 0 ≤ Int32.toInt (Mz8348_.1 130 (Int32.toNatClampNeg i1z8348_)) ∧ Int32.toInt (Mz8348_.1 130 (Int32.toNatClampNeg i1z8348_)) ≤ 9 := pvok_r oz8348_ 130 (Int32.toNatClampNeg i1z8348_) rfl
              refine pw_blkw hT 8 (pc := 211) (lo := [some (pvR 124), some (pvI i1z8348_)]) (st := []) (M := pvu Mz8348_ 156 (Int32.toNatClampNeg i1z8348_) (Mz8348_.1 130 (Int32.toNatClampNeg i1z8348_))) rfl ⟨trivial, rfl, trivial, trivial, rfl, trivial, ⟨rfl, (zr_in (n := 28) b8917_ (by decide) (by decide))⟩, ⟨rfl, (zr_in (n := 28) b8917_ (by decide) (by decide))⟩, trivial⟩ (fun M8919_ e8920_ => ?_)
              have o8921_ : pvOk M8919_ := pvok_u2 e8920_ oz8348_ rfl b8918_
              have f8922_ : pvFr fp_eX10_image_124 M M8919_ := pvfr_u e8920_ fz8348_ rfl
              obtain ⟨q8924_, b8923_⟩ : (Int32.toInt (i1z8348_ + 1) = Int32.toInt i1z8348_ + 1) ∧ (1 ≤ Int32.toInt (i1z8348_ + 1) ∧ Int32.toInt (i1z8348_ + 1) ≤ 28) := zadd_k i1z8348_ 1 1 1 28 b8917_ (by decide) (by decide) (by decide) (by decide) (by decide)
              refine pw_blk hT 2 (S' := (193, [some (pvR 124), some (pvI (i1z8348_ + 1))], [], M8919_)) rfl ⟨trivial, trivial, trivial⟩ ?_
              have j8925_ : Int32.toInt (M8919_.1 124 47) = Int32.toInt (M.1 124 15) := (by have y01 : Int32.toInt (M8919_.1 124 47) = Int32.toInt (Mz8348_.1 124 47) := congrArg Int32.toInt (pvu_n e8920_ 124 47 (Or.inl (by decide))); omega)
              have j8926_ : Int32.toInt (M8919_.1 124 51) = Int32.toInt (M.1 124 3) := (by have y01 : Int32.toInt (M8919_.1 124 51) = Int32.toInt (Mz8348_.1 124 51) := congrArg Int32.toInt (pvu_n e8920_ 124 51 (Or.inl (by decide))); omega)
              have j8927_ : M8919_.1 124 48 = (M.1 124 0) := ((pvu_n e8920_ 124 48 (Or.inl (by decide))).trans (j2z8348_))
              have j8928_ : M8919_.1 124 51 = (M.1 124 3) := ((pvu_n e8920_ 124 51 (Or.inl (by decide))).trans (j3z8348_))
              have j8929_ : M8919_.1 124 52 = (M.1 124 4) := ((pvu_n e8920_ 124 52 (Or.inl (by decide))).trans (j4z8348_))
              have j8930_ : M8919_.1 124 46 = 1 := ((pvu_n e8920_ 124 46 (Or.inl (by decide))).trans (j5z8348_))
              have j8931_ : M8919_.1 124 56 = (M.1 124 40) := ((pvu_n e8920_ 124 56 (Or.inl (by decide))).trans (j6z8348_))
              have j8932_ : M8919_.1 124 57 = (M.1 124 43) := ((pvu_n e8920_ 124 57 (Or.inl (by decide))).trans (j7z8348_))
              have j8933_ : zC1 151 125 7 M M8919_ := (zC1_u j8z8348_ e8920_ (by decide))
              have j8934_ : zC1 152 126 7 M M8919_ := (zC1_u j9z8348_ e8920_ (by decide))
              have j8935_ : zC1 153 127 7 M M8919_ := (zC1_u j10z8348_ e8920_ (by decide))
              have j8936_ : zC1 154 128 7 M M8919_ := (zC1_u j11z8348_ e8920_ (by decide))
              have j8937_ : zC1 155 129 7 M M8919_ := (zC1_u j12z8348_ e8920_ (by decide))
              have j8938_ : zC1 162 131 7 M M8919_ := (zC1_u j13z8348_ e8920_ (by decide))
              have j8939_ : zC1 157 145 7 M M8919_ := (zC1_u j14z8348_ e8920_ (by decide))
              have j8940_ : zC1 156 130 (Int32.toNatClampNeg (i1z8348_ + 1)) M M8919_ := (zC1_n (znp1 b8917_ (by decide) (by decide)) (zC1_w j15z8348_ e8920_ (fz8348_ 130 (Int32.toNatClampNeg i1z8348_) rfl)))
              have j8941_ : M8919_.1 124 55 = (M.1 124 37) := ((pvu_n e8920_ 124 55 (Or.inl (by decide))).trans (j16z8348_))
              exact ihz8348_ (i1z8348_ + 1) M8919_ o8921_ f8922_ (zr_wide b8923_ (by decide) (by decide)) j8925_ j8926_ j8927_ j8928_ j8929_ j8930_ j8931_ j8932_ j8933_ j8934_ j8935_ j8936_ j8937_ j8938_ j8939_ j8940_ j8941_ (zhid (by have hm0 := zshow hmz8348_; have y01 : Int32.toInt (M8919_.1 124 47) = Int32.toInt (Mz8348_.1 124 47) := congrArg Int32.toInt (pvu_n e8920_ 124 47 (Or.inl (by decide))); have y11 : Int32.toInt (M8919_.1 124 51) = Int32.toInt (Mz8348_.1 124 51) := congrArg Int32.toInt (pvu_n e8920_ 124 51 (Or.inl (by decide))); omega))
        have u8942_ : Int32.toInt 0 = 0 := by decide
        have j8943_ : Int32.toInt (Mz6729_.1 124 47) = Int32.toInt (M.1 124 15) := (by omega)
        have j8944_ : Int32.toInt (Mz6729_.1 124 51) = Int32.toInt (M.1 124 3) := (by omega)
        have j8945_ : Mz6729_.1 124 48 = (M.1 124 0) := j2z6729_
        have j8946_ : Mz6729_.1 124 51 = (M.1 124 3) := j3z6729_
        have j8947_ : Mz6729_.1 124 52 = (M.1 124 4) := j4z6729_
        have j8948_ : Mz6729_.1 124 46 = 1 := j5z6729_
        have j8949_ : Mz6729_.1 124 56 = (M.1 124 40) := j6z6729_
        have j8950_ : Mz6729_.1 124 57 = (M.1 124 43) := j7z6729_
        have j8951_ : zC1 151 125 7 M Mz6729_ := (zC1_n (znp0 b6733_) j8z6729_)
        have j8952_ : zC1 152 126 7 M Mz6729_ := (zC1_n (znp0 b6733_) j9z6729_)
        have j8953_ : zC1 153 127 7 M Mz6729_ := (zC1_n (znp0 b6733_) j10z6729_)
        have j8954_ : zC1 154 128 7 M Mz6729_ := (zC1_n (znp0 b6733_) j11z6729_)
        have j8955_ : zC1 155 129 7 M Mz6729_ := (zC1_n (znp0 b6733_) j12z6729_)
        have j8956_ : zC1 162 131 7 M Mz6729_ := (zC1_n (znp0 b6733_) j13z6729_)
        have j8957_ : zC1 157 145 7 M Mz6729_ := (zC1_n (znp0 b6733_) j14z6729_)
        have j8958_ : zC1 156 130 (Int32.toNatClampNeg 0) M Mz6729_ := (zC1_0 156 130 M Mz6729_)
        have j8959_ : Mz6729_.1 124 55 = (M.1 124 37) := j15z6729_
        exact hlz8348_ _ 0 Mz6729_ oz6729_ fz6729_ (zr_wide (show 0 ≤ Int32.toInt 0 ∧ Int32.toInt 0 ≤ 0 from (by decide)) (by decide) (by decide)) j8943_ j8944_ j8945_ j8946_ j8947_ j8948_ j8949_ j8950_ j8951_ j8952_ j8953_ j8954_ j8955_ j8956_ j8957_ j8958_ j8959_ (zhid (Nat.lt_succ_self _))
      · have b8960_ : 0 ≤ Int32.toInt i1z6729_ ∧ Int32.toInt i1z6729_ ≤ 6 := zr_nle_r 6 c6732_ h1z6729_ (show 7 ≤ Int32.toInt 7 ∧ Int32.toInt 7 ≤ 7 from (by decide)) (by decide)
        have b8961_ : 0 ≤ Int32.toInt (Mz6729_.1 125 (Int32.toNatClampNeg i1z6729_)) ∧ Int32.toInt (Mz6729_.1 125 (Int32.toNatClampNeg i1z6729_)) ≤ 6 := pvok_r oz6729_ 125 (Int32.toNatClampNeg i1z6729_) rfl
        refine pw_blkw hT 8 (pc := 113) (lo := [some (pvR 124), some (pvI i1z6729_)]) (st := []) (M := pvu Mz6729_ 151 (Int32.toNatClampNeg i1z6729_) (Mz6729_.1 125 (Int32.toNatClampNeg i1z6729_))) rfl ⟨trivial, rfl, trivial, trivial, rfl, trivial, ⟨rfl, (zr_in (n := 7) b8960_ (by decide) (by decide))⟩, ⟨rfl, (zr_in (n := 7) b8960_ (by decide) (by decide))⟩, trivial⟩ (fun M8962_ e8963_ => ?_)
        have o8964_ : pvOk M8962_ := pvok_u2 e8963_ oz6729_ rfl b8961_
        have f8965_ : pvFr fp_eX10_image_124 M M8962_ := pvfr_u e8963_ fz6729_ rfl
        have b8966_ : 0 ≤ Int32.toInt (M8962_.1 126 (Int32.toNatClampNeg i1z6729_)) ∧ Int32.toInt (M8962_.1 126 (Int32.toNatClampNeg i1z6729_)) ≤ 9 := pvok_r o8964_ 126 (Int32.toNatClampNeg i1z6729_) rfl
        refine pw_blkw hT 8 (pc := 125) (lo := [some (pvR 124), some (pvI i1z6729_)]) (st := []) (M := pvu M8962_ 152 (Int32.toNatClampNeg i1z6729_) (M8962_.1 126 (Int32.toNatClampNeg i1z6729_))) rfl ⟨trivial, rfl, trivial, trivial, rfl, trivial, ⟨rfl, (zr_in (n := 7) b8960_ (by decide) (by decide))⟩, ⟨rfl, (zr_in (n := 7) b8960_ (by decide) (by decide))⟩, trivial⟩ (fun M8967_ e8968_ => ?_)
        have o8969_ : pvOk M8967_ := pvok_u2 e8968_ o8964_ rfl b8966_
        have f8970_ : pvFr fp_eX10_image_124 M M8967_ := pvfr_u e8968_ f8965_ rfl
        have b8971_ : 0 ≤ Int32.toInt (M8967_.1 127 (Int32.toNatClampNeg i1z6729_)) ∧ Int32.toInt (M8967_.1 127 (Int32.toNatClampNeg i1z6729_)) ≤ 3 := pvok_r o8969_ 127 (Int32.toNatClampNeg i1z6729_) rfl
        refine pw_blkw hT 8 (pc := 137) (lo := [some (pvR 124), some (pvI i1z6729_)]) (st := []) (M := pvu M8967_ 153 (Int32.toNatClampNeg i1z6729_) (M8967_.1 127 (Int32.toNatClampNeg i1z6729_))) rfl ⟨trivial, rfl, trivial, trivial, rfl, trivial, ⟨rfl, (zr_in (n := 7) b8960_ (by decide) (by decide))⟩, ⟨rfl, (zr_in (n := 7) b8960_ (by decide) (by decide))⟩, trivial⟩ (fun M8972_ e8973_ => ?_)
        have o8974_ : pvOk M8972_ := pvok_u2 e8973_ o8969_ rfl b8971_
        have f8975_ : pvFr fp_eX10_image_124 M M8972_ := pvfr_u e8973_ f8970_ rfl
        have b8976_ : 0 ≤ Int32.toInt (M8972_.1 128 (Int32.toNatClampNeg i1z6729_)) ∧ Int32.toInt (M8972_.1 128 (Int32.toNatClampNeg i1z6729_)) ≤ 4 := pvok_r o8974_ 128 (Int32.toNatClampNeg i1z6729_) rfl
        refine pw_blkw hT 8 (pc := 149) (lo := [some (pvR 124), some (pvI i1z6729_)]) (st := []) (M := pvu M8972_ 154 (Int32.toNatClampNeg i1z6729_) (M8972_.1 128 (Int32.toNatClampNeg i1z6729_))) rfl ⟨trivial, rfl, trivial, trivial, rfl, trivial, ⟨rfl, (zr_in (n := 7) b8960_ (by decide) (by decide))⟩, ⟨rfl, (zr_in (n := 7) b8960_ (by decide) (by decide))⟩, trivial⟩ (fun M8977_ e8978_ => ?_)
        have o8979_ : pvOk M8977_ := pvok_u2 e8978_ o8974_ rfl b8976_
        have f8980_ : pvFr fp_eX10_image_124 M M8977_ := pvfr_u e8978_ f8975_ rfl
        have b8981_ : 0 ≤ Int32.toInt (M8977_.1 129 (Int32.toNatClampNeg i1z6729_)) ∧ Int32.toInt (M8977_.1 129 (Int32.toNatClampNeg i1z6729_)) ≤ 9 := pvok_r o8979_ 129 (Int32.toNatClampNeg i1z6729_) rfl
        refine pw_blkw hT 8 (pc := 161) (lo := [some (pvR 124), some (pvI i1z6729_)]) (st := []) (M := pvu M8977_ 155 (Int32.toNatClampNeg i1z6729_) (M8977_.1 129 (Int32.toNatClampNeg i1z6729_))) rfl ⟨trivial, rfl, trivial, trivial, rfl, trivial, ⟨rfl, (zr_in (n := 7) b8960_ (by decide) (by decide))⟩, ⟨rfl, (zr_in (n := 7) b8960_ (by decide) (by decide))⟩, trivial⟩ (fun M8982_ e8983_ => ?_)
        have o8984_ : pvOk M8982_ := pvok_u2 e8983_ o8979_ rfl b8981_
        have f8985_ : pvFr fp_eX10_image_124 M M8982_ := pvfr_u e8983_ f8980_ rfl
        have b8986_ : 0 ≤ Int32.toInt (M8982_.1 131 (Int32.toNatClampNeg i1z6729_)) ∧ Int32.toInt (M8982_.1 131 (Int32.toNatClampNeg i1z6729_)) ≤ 1 := pvok_r o8984_ 131 (Int32.toNatClampNeg i1z6729_) rfl
        refine pw_blkw hT 8 (pc := 173) (lo := [some (pvR 124), some (pvI i1z6729_)]) (st := []) (M := pvu M8982_ 162 (Int32.toNatClampNeg i1z6729_) (vp_nar .boolean (M8982_.1 131 (Int32.toNatClampNeg i1z6729_)))) rfl ⟨trivial, rfl, trivial, trivial, rfl, trivial, ⟨rfl, (zr_in (n := 7) b8960_ (by decide) (by decide))⟩, ⟨rfl, (zr_in (n := 7) b8960_ (by decide) (by decide))⟩, trivial⟩ (fun M8987_ e8988_ => ?_)
        have o8989_ : pvOk M8987_ := pvok_u2 e8988_ o8984_ rfl (zboolr (M8982_.1 131 (Int32.toNatClampNeg i1z6729_)))
        have f8990_ : pvFr fp_eX10_image_124 M M8987_ := pvfr_u e8988_ f8985_ rfl
        have b8991_ : 0 ≤ Int32.toInt (M8987_.1 145 (Int32.toNatClampNeg i1z6729_)) ∧ Int32.toInt (M8987_.1 145 (Int32.toNatClampNeg i1z6729_)) ≤ 6 := pvok_r o8989_ 145 (Int32.toNatClampNeg i1z6729_) rfl
        refine pw_blkw hT 8 (pc := 185) (lo := [some (pvR 124), some (pvI i1z6729_)]) (st := []) (M := pvu M8987_ 157 (Int32.toNatClampNeg i1z6729_) (M8987_.1 145 (Int32.toNatClampNeg i1z6729_))) rfl ⟨trivial, rfl, trivial, trivial, rfl, trivial, ⟨rfl, (zr_in (n := 7) b8960_ (by decide) (by decide))⟩, ⟨rfl, (zr_in (n := 7) b8960_ (by decide) (by decide))⟩, trivial⟩ (fun M8992_ e8993_ => ?_)
        have o8994_ : pvOk M8992_ := pvok_u2 e8993_ o8989_ rfl b8991_
        have f8995_ : pvFr fp_eX10_image_124 M M8992_ := pvfr_u e8993_ f8990_ rfl
        obtain ⟨q8997_, b8996_⟩ : (Int32.toInt (i1z6729_ + 1) = Int32.toInt i1z6729_ + 1) ∧ (1 ≤ Int32.toInt (i1z6729_ + 1) ∧ Int32.toInt (i1z6729_ + 1) ≤ 7) := zadd_k i1z6729_ 1 1 1 7 b8960_ (by decide) (by decide) (by decide) (by decide) (by decide)
        refine pw_blk hT 2 (S' := (95, [some (pvR 124), some (pvI (i1z6729_ + 1))], [], M8992_)) rfl ⟨trivial, trivial, trivial⟩ ?_
        have j8998_ : Int32.toInt (M8992_.1 124 47) = Int32.toInt (M.1 124 15) := (by have y01 : Int32.toInt (M8992_.1 124 47) = Int32.toInt (Mz6729_.1 124 47) := congrArg Int32.toInt (((((((pvu_n e8993_ 124 47 (Or.inl (by decide))).trans (pvu_n e8988_ 124 47 (Or.inl (by decide)))).trans (pvu_n e8983_ 124 47 (Or.inl (by decide)))).trans (pvu_n e8978_ 124 47 (Or.inl (by decide)))).trans (pvu_n e8973_ 124 47 (Or.inl (by decide)))).trans (pvu_n e8968_ 124 47 (Or.inl (by decide)))).trans (pvu_n e8963_ 124 47 (Or.inl (by decide)))); omega)
        have j8999_ : Int32.toInt (M8992_.1 124 51) = Int32.toInt (M.1 124 3) := (by have y01 : Int32.toInt (M8992_.1 124 51) = Int32.toInt (Mz6729_.1 124 51) := congrArg Int32.toInt (((((((pvu_n e8993_ 124 51 (Or.inl (by decide))).trans (pvu_n e8988_ 124 51 (Or.inl (by decide)))).trans (pvu_n e8983_ 124 51 (Or.inl (by decide)))).trans (pvu_n e8978_ 124 51 (Or.inl (by decide)))).trans (pvu_n e8973_ 124 51 (Or.inl (by decide)))).trans (pvu_n e8968_ 124 51 (Or.inl (by decide)))).trans (pvu_n e8963_ 124 51 (Or.inl (by decide)))); omega)
        have j9000_ : M8992_.1 124 48 = (M.1 124 0) := ((((((((pvu_n e8993_ 124 48 (Or.inl (by decide))).trans (pvu_n e8988_ 124 48 (Or.inl (by decide)))).trans (pvu_n e8983_ 124 48 (Or.inl (by decide)))).trans (pvu_n e8978_ 124 48 (Or.inl (by decide)))).trans (pvu_n e8973_ 124 48 (Or.inl (by decide)))).trans (pvu_n e8968_ 124 48 (Or.inl (by decide)))).trans (pvu_n e8963_ 124 48 (Or.inl (by decide)))).trans (j2z6729_))
        have j9001_ : M8992_.1 124 51 = (M.1 124 3) := ((((((((pvu_n e8993_ 124 51 (Or.inl (by decide))).trans (pvu_n e8988_ 124 51 (Or.inl (by decide)))).trans (pvu_n e8983_ 124 51 (Or.inl (by decide)))).trans (pvu_n e8978_ 124 51 (Or.inl (by decide)))).trans (pvu_n e8973_ 124 51 (Or.inl (by decide)))).trans (pvu_n e8968_ 124 51 (Or.inl (by decide)))).trans (pvu_n e8963_ 124 51 (Or.inl (by decide)))).trans (j3z6729_))
        have j9002_ : M8992_.1 124 52 = (M.1 124 4) := ((((((((pvu_n e8993_ 124 52 (Or.inl (by decide))).trans (pvu_n e8988_ 124 52 (Or.inl (by decide)))).trans (pvu_n e8983_ 124 52 (Or.inl (by decide)))).trans (pvu_n e8978_ 124 52 (Or.inl (by decide)))).trans (pvu_n e8973_ 124 52 (Or.inl (by decide)))).trans (pvu_n e8968_ 124 52 (Or.inl (by decide)))).trans (pvu_n e8963_ 124 52 (Or.inl (by decide)))).trans (j4z6729_))
        have j9003_ : M8992_.1 124 46 = 1 := ((((((((pvu_n e8993_ 124 46 (Or.inl (by decide))).trans (pvu_n e8988_ 124 46 (Or.inl (by decide)))).trans (pvu_n e8983_ 124 46 (Or.inl (by decide)))).trans (pvu_n e8978_ 124 46 (Or.inl (by decide)))).trans (pvu_n e8973_ 124 46 (Or.inl (by decide)))).trans (pvu_n e8968_ 124 46 (Or.inl (by decide)))).trans (pvu_n e8963_ 124 46 (Or.inl (by decide)))).trans (j5z6729_))
        have j9004_ : M8992_.1 124 56 = (M.1 124 40) := ((((((((pvu_n e8993_ 124 56 (Or.inl (by decide))).trans (pvu_n e8988_ 124 56 (Or.inl (by decide)))).trans (pvu_n e8983_ 124 56 (Or.inl (by decide)))).trans (pvu_n e8978_ 124 56 (Or.inl (by decide)))).trans (pvu_n e8973_ 124 56 (Or.inl (by decide)))).trans (pvu_n e8968_ 124 56 (Or.inl (by decide)))).trans (pvu_n e8963_ 124 56 (Or.inl (by decide)))).trans (j6z6729_))
        have j9005_ : M8992_.1 124 57 = (M.1 124 43) := ((((((((pvu_n e8993_ 124 57 (Or.inl (by decide))).trans (pvu_n e8988_ 124 57 (Or.inl (by decide)))).trans (pvu_n e8983_ 124 57 (Or.inl (by decide)))).trans (pvu_n e8978_ 124 57 (Or.inl (by decide)))).trans (pvu_n e8973_ 124 57 (Or.inl (by decide)))).trans (pvu_n e8968_ 124 57 (Or.inl (by decide)))).trans (pvu_n e8963_ 124 57 (Or.inl (by decide)))).trans (j7z6729_))
        have j9006_ : zC1 151 125 (Int32.toNatClampNeg (i1z6729_ + 1)) M M8992_ := (zC1_n (znp1 b8960_ (by decide) (by decide)) (zC1_u (zC1_u (zC1_u (zC1_u (zC1_u (zC1_u (zC1_w j8z6729_ e8963_ (fz6729_ 125 (Int32.toNatClampNeg i1z6729_) rfl)) e8968_ (by decide)) e8973_ (by decide)) e8978_ (by decide)) e8983_ (by decide)) e8988_ (by decide)) e8993_ (by decide)))
        have j9007_ : zC1 152 126 (Int32.toNatClampNeg (i1z6729_ + 1)) M M8992_ := (zC1_n (znp1 b8960_ (by decide) (by decide)) (zC1_u (zC1_u (zC1_u (zC1_u (zC1_u (zC1_w (zC1_u j9z6729_ e8963_ (by decide)) e8968_ ((pvu_n e8963_ 126 (Int32.toNatClampNeg i1z6729_) (Or.inl (by decide))).trans (fz6729_ 126 (Int32.toNatClampNeg i1z6729_) rfl))) e8973_ (by decide)) e8978_ (by decide)) e8983_ (by decide)) e8988_ (by decide)) e8993_ (by decide)))
        have j9008_ : zC1 153 127 (Int32.toNatClampNeg (i1z6729_ + 1)) M M8992_ := (zC1_n (znp1 b8960_ (by decide) (by decide)) (zC1_u (zC1_u (zC1_u (zC1_u (zC1_w (zC1_u (zC1_u j10z6729_ e8963_ (by decide)) e8968_ (by decide)) e8973_ (((pvu_n e8968_ 127 (Int32.toNatClampNeg i1z6729_) (Or.inl (by decide))).trans (pvu_n e8963_ 127 (Int32.toNatClampNeg i1z6729_) (Or.inl (by decide)))).trans (fz6729_ 127 (Int32.toNatClampNeg i1z6729_) rfl))) e8978_ (by decide)) e8983_ (by decide)) e8988_ (by decide)) e8993_ (by decide)))
        have j9009_ : zC1 154 128 (Int32.toNatClampNeg (i1z6729_ + 1)) M M8992_ := (zC1_n (znp1 b8960_ (by decide) (by decide)) (zC1_u (zC1_u (zC1_u (zC1_w (zC1_u (zC1_u (zC1_u j11z6729_ e8963_ (by decide)) e8968_ (by decide)) e8973_ (by decide)) e8978_ ((((pvu_n e8973_ 128 (Int32.toNatClampNeg i1z6729_) (Or.inl (by decide))).trans (pvu_n e8968_ 128 (Int32.toNatClampNeg i1z6729_) (Or.inl (by decide)))).trans (pvu_n e8963_ 128 (Int32.toNatClampNeg i1z6729_) (Or.inl (by decide)))).trans (fz6729_ 128 (Int32.toNatClampNeg i1z6729_) rfl))) e8983_ (by decide)) e8988_ (by decide)) e8993_ (by decide)))
        have j9010_ : zC1 155 129 (Int32.toNatClampNeg (i1z6729_ + 1)) M M8992_ := (zC1_n (znp1 b8960_ (by decide) (by decide)) (zC1_u (zC1_u (zC1_w (zC1_u (zC1_u (zC1_u (zC1_u j12z6729_ e8963_ (by decide)) e8968_ (by decide)) e8973_ (by decide)) e8978_ (by decide)) e8983_ (((((pvu_n e8978_ 129 (Int32.toNatClampNeg i1z6729_) (Or.inl (by decide))).trans (pvu_n e8973_ 129 (Int32.toNatClampNeg i1z6729_) (Or.inl (by decide)))).trans (pvu_n e8968_ 129 (Int32.toNatClampNeg i1z6729_) (Or.inl (by decide)))).trans (pvu_n e8963_ 129 (Int32.toNatClampNeg i1z6729_) (Or.inl (by decide)))).trans (fz6729_ 129 (Int32.toNatClampNeg i1z6729_) rfl))) e8988_ (by decide)) e8993_ (by decide)))
        have j9011_ : zC1 162 131 (Int32.toNatClampNeg (i1z6729_ + 1)) M M8992_ := (zC1_n (znp1 b8960_ (by decide) (by decide)) (zC1_u (zC1_w (zC1_u (zC1_u (zC1_u (zC1_u (zC1_u j13z6729_ e8963_ (by decide)) e8968_ (by decide)) e8973_ (by decide)) e8978_ (by decide)) e8983_ (by decide)) e8988_ ((zvnar b8986_).trans ((((((pvu_n e8983_ 131 (Int32.toNatClampNeg i1z6729_) (Or.inl (by decide))).trans (pvu_n e8978_ 131 (Int32.toNatClampNeg i1z6729_) (Or.inl (by decide)))).trans (pvu_n e8973_ 131 (Int32.toNatClampNeg i1z6729_) (Or.inl (by decide)))).trans (pvu_n e8968_ 131 (Int32.toNatClampNeg i1z6729_) (Or.inl (by decide)))).trans (pvu_n e8963_ 131 (Int32.toNatClampNeg i1z6729_) (Or.inl (by decide)))).trans (fz6729_ 131 (Int32.toNatClampNeg i1z6729_) rfl)))) e8993_ (by decide)))
        have j9012_ : zC1 157 145 (Int32.toNatClampNeg (i1z6729_ + 1)) M M8992_ := (zC1_n (znp1 b8960_ (by decide) (by decide)) (zC1_w (zC1_u (zC1_u (zC1_u (zC1_u (zC1_u (zC1_u j14z6729_ e8963_ (by decide)) e8968_ (by decide)) e8973_ (by decide)) e8978_ (by decide)) e8983_ (by decide)) e8988_ (by decide)) e8993_ (((((((pvu_n e8988_ 145 (Int32.toNatClampNeg i1z6729_) (Or.inl (by decide))).trans (pvu_n e8983_ 145 (Int32.toNatClampNeg i1z6729_) (Or.inl (by decide)))).trans (pvu_n e8978_ 145 (Int32.toNatClampNeg i1z6729_) (Or.inl (by decide)))).trans (pvu_n e8973_ 145 (Int32.toNatClampNeg i1z6729_) (Or.inl (by decide)))).trans (pvu_n e8968_ 145 (Int32.toNatClampNeg i1z6729_) (Or.inl (by decide)))).trans (pvu_n e8963_ 145 (Int32.toNatClampNeg i1z6729_) (Or.inl (by decide)))).trans (fz6729_ 145 (Int32.toNatClampNeg i1z6729_) rfl))))
        have j9013_ : M8992_.1 124 55 = (M.1 124 37) := ((((((((pvu_n e8993_ 124 55 (Or.inl (by decide))).trans (pvu_n e8988_ 124 55 (Or.inl (by decide)))).trans (pvu_n e8983_ 124 55 (Or.inl (by decide)))).trans (pvu_n e8978_ 124 55 (Or.inl (by decide)))).trans (pvu_n e8973_ 124 55 (Or.inl (by decide)))).trans (pvu_n e8968_ 124 55 (Or.inl (by decide)))).trans (pvu_n e8963_ 124 55 (Or.inl (by decide)))).trans (j15z6729_))
        exact ihz6729_ (i1z6729_ + 1) M8992_ o8994_ f8995_ (zr_wide b8996_ (by decide) (by decide)) j8998_ j8999_ j9000_ j9001_ j9002_ j9003_ j9004_ j9005_ j9006_ j9007_ j9008_ j9009_ j9010_ j9011_ j9012_ j9013_ (zhid (by have hm0 := zshow hmz6729_; have y01 : Int32.toInt (M8992_.1 124 47) = Int32.toInt (Mz6729_.1 124 47) := congrArg Int32.toInt (((((((pvu_n e8993_ 124 47 (Or.inl (by decide))).trans (pvu_n e8988_ 124 47 (Or.inl (by decide)))).trans (pvu_n e8983_ 124 47 (Or.inl (by decide)))).trans (pvu_n e8978_ 124 47 (Or.inl (by decide)))).trans (pvu_n e8973_ 124 47 (Or.inl (by decide)))).trans (pvu_n e8968_ 124 47 (Or.inl (by decide)))).trans (pvu_n e8963_ 124 47 (Or.inl (by decide)))); have y11 : Int32.toInt (M8992_.1 124 51) = Int32.toInt (Mz6729_.1 124 51) := congrArg Int32.toInt (((((((pvu_n e8993_ 124 51 (Or.inl (by decide))).trans (pvu_n e8988_ 124 51 (Or.inl (by decide)))).trans (pvu_n e8983_ 124 51 (Or.inl (by decide)))).trans (pvu_n e8978_ 124 51 (Or.inl (by decide)))).trans (pvu_n e8973_ 124 51 (Or.inl (by decide)))).trans (pvu_n e8968_ 124 51 (Or.inl (by decide)))).trans (pvu_n e8963_ 124 51 (Or.inl (by decide)))); omega))
  have u9014_ : Int32.toInt 0 = 0 := by decide
  have j9015_ : Int32.toInt (M56_.1 124 47) = Int32.toInt (M.1 124 15) := (by have z1 : Int32.toInt (M56_.1 124 47) = Int32.toInt (M1_.1 124 15) := congrArg Int32.toInt (((((((((((pvu_n e57_ 124 47 (Or.inr (by decide))).trans (pvu_n e52_ 124 47 (Or.inr (by decide)))).trans (pvu_n e47_ 124 47 (Or.inr (by decide)))).trans (pvu_n e42_ 124 47 (Or.inr (by decide)))).trans (pvu_n e37_ 124 47 (Or.inr (by decide)))).trans (pvu_n e32_ 124 47 (Or.inr (by decide)))).trans (pvu_n e27_ 124 47 (Or.inr (by decide)))).trans (pvu_n e22_ 124 47 (Or.inr (by decide)))).trans (pvu_n e17_ 124 47 (Or.inr (by decide)))).trans (pvu_n e12_ 124 47 (Or.inr (by decide)))).trans (pvu_s e7_)); have z2 : Int32.toInt (M1_.1 124 15) = Int32.toInt (M.1 124 15) := congrArg Int32.toInt (pvu_n e2_ 124 15 (Or.inr (by decide))); omega)
  have j9016_ : Int32.toInt (M56_.1 124 51) = Int32.toInt (M.1 124 3) := (by have z1 : Int32.toInt (M56_.1 124 51) = Int32.toInt (M21_.1 124 3) := congrArg Int32.toInt (((((((pvu_n e57_ 124 51 (Or.inr (by decide))).trans (pvu_n e52_ 124 51 (Or.inr (by decide)))).trans (pvu_n e47_ 124 51 (Or.inr (by decide)))).trans (pvu_n e42_ 124 51 (Or.inr (by decide)))).trans (pvu_n e37_ 124 51 (Or.inr (by decide)))).trans (pvu_n e32_ 124 51 (Or.inr (by decide)))).trans (pvu_s e27_)); have z2 : Int32.toInt (M21_.1 124 3) = Int32.toInt (M.1 124 3) := congrArg Int32.toInt (((((pvu_n e22_ 124 3 (Or.inr (by decide))).trans (pvu_n e17_ 124 3 (Or.inr (by decide)))).trans (pvu_n e12_ 124 3 (Or.inr (by decide)))).trans (pvu_n e7_ 124 3 (Or.inr (by decide)))).trans (pvu_n e2_ 124 3 (Or.inr (by decide)))); omega)
  have j9017_ : M56_.1 124 48 = (M.1 124 0) := (((((((((((pvu_n e57_ 124 48 (Or.inr (by decide))).trans (pvu_n e52_ 124 48 (Or.inr (by decide)))).trans (pvu_n e47_ 124 48 (Or.inr (by decide)))).trans (pvu_n e42_ 124 48 (Or.inr (by decide)))).trans (pvu_n e37_ 124 48 (Or.inr (by decide)))).trans (pvu_n e32_ 124 48 (Or.inr (by decide)))).trans (pvu_n e27_ 124 48 (Or.inr (by decide)))).trans (pvu_n e22_ 124 48 (Or.inr (by decide)))).trans (pvu_n e17_ 124 48 (Or.inr (by decide)))).trans (pvu_s e12_)).trans ((pvu_n e7_ 124 0 (Or.inr (by decide))).trans (pvu_n e2_ 124 0 (Or.inr (by decide)))))
  have j9018_ : M56_.1 124 51 = (M.1 124 3) := ((((((((pvu_n e57_ 124 51 (Or.inr (by decide))).trans (pvu_n e52_ 124 51 (Or.inr (by decide)))).trans (pvu_n e47_ 124 51 (Or.inr (by decide)))).trans (pvu_n e42_ 124 51 (Or.inr (by decide)))).trans (pvu_n e37_ 124 51 (Or.inr (by decide)))).trans (pvu_n e32_ 124 51 (Or.inr (by decide)))).trans (pvu_s e27_)).trans (((((pvu_n e22_ 124 3 (Or.inr (by decide))).trans (pvu_n e17_ 124 3 (Or.inr (by decide)))).trans (pvu_n e12_ 124 3 (Or.inr (by decide)))).trans (pvu_n e7_ 124 3 (Or.inr (by decide)))).trans (pvu_n e2_ 124 3 (Or.inr (by decide)))))
  have j9019_ : M56_.1 124 52 = (M.1 124 4) := (((((((pvu_n e57_ 124 52 (Or.inr (by decide))).trans (pvu_n e52_ 124 52 (Or.inr (by decide)))).trans (pvu_n e47_ 124 52 (Or.inr (by decide)))).trans (pvu_n e42_ 124 52 (Or.inr (by decide)))).trans (pvu_n e37_ 124 52 (Or.inr (by decide)))).trans (pvu_s e32_)).trans ((((((pvu_n e27_ 124 4 (Or.inr (by decide))).trans (pvu_n e22_ 124 4 (Or.inr (by decide)))).trans (pvu_n e17_ 124 4 (Or.inr (by decide)))).trans (pvu_n e12_ 124 4 (Or.inr (by decide)))).trans (pvu_n e7_ 124 4 (Or.inr (by decide)))).trans (pvu_n e2_ 124 4 (Or.inr (by decide)))))
  have j9020_ : M56_.1 124 46 = 1 := ((((((((((((pvu_n e57_ 124 46 (Or.inr (by decide))).trans (pvu_n e52_ 124 46 (Or.inr (by decide)))).trans (pvu_n e47_ 124 46 (Or.inr (by decide)))).trans (pvu_n e42_ 124 46 (Or.inr (by decide)))).trans (pvu_n e37_ 124 46 (Or.inr (by decide)))).trans (pvu_n e32_ 124 46 (Or.inr (by decide)))).trans (pvu_n e27_ 124 46 (Or.inr (by decide)))).trans (pvu_n e22_ 124 46 (Or.inr (by decide)))).trans (pvu_n e17_ 124 46 (Or.inr (by decide)))).trans (pvu_n e12_ 124 46 (Or.inr (by decide)))).trans (pvu_n e7_ 124 46 (Or.inr (by decide)))).trans (pvu_s e2_))
  have j9021_ : M56_.1 124 56 = (M.1 124 40) := (((pvu_n e57_ 124 56 (Or.inr (by decide))).trans (pvu_s e52_)).trans ((((((((((pvu_n e47_ 124 40 (Or.inr (by decide))).trans (pvu_n e42_ 124 40 (Or.inr (by decide)))).trans (pvu_n e37_ 124 40 (Or.inr (by decide)))).trans (pvu_n e32_ 124 40 (Or.inr (by decide)))).trans (pvu_n e27_ 124 40 (Or.inr (by decide)))).trans (pvu_n e22_ 124 40 (Or.inr (by decide)))).trans (pvu_n e17_ 124 40 (Or.inr (by decide)))).trans (pvu_n e12_ 124 40 (Or.inr (by decide)))).trans (pvu_n e7_ 124 40 (Or.inr (by decide)))).trans (pvu_n e2_ 124 40 (Or.inr (by decide)))))
  have j9022_ : M56_.1 124 57 = (M.1 124 43) := ((pvu_s e57_).trans (((((((((((pvu_n e52_ 124 43 (Or.inr (by decide))).trans (pvu_n e47_ 124 43 (Or.inr (by decide)))).trans (pvu_n e42_ 124 43 (Or.inr (by decide)))).trans (pvu_n e37_ 124 43 (Or.inr (by decide)))).trans (pvu_n e32_ 124 43 (Or.inr (by decide)))).trans (pvu_n e27_ 124 43 (Or.inr (by decide)))).trans (pvu_n e22_ 124 43 (Or.inr (by decide)))).trans (pvu_n e17_ 124 43 (Or.inr (by decide)))).trans (pvu_n e12_ 124 43 (Or.inr (by decide)))).trans (pvu_n e7_ 124 43 (Or.inr (by decide)))).trans (pvu_n e2_ 124 43 (Or.inr (by decide)))))
  have j9023_ : zC1 151 125 (Int32.toNatClampNeg 0) M M56_ := (zC1_0 151 125 M M56_)
  have j9024_ : zC1 152 126 (Int32.toNatClampNeg 0) M M56_ := (zC1_0 152 126 M M56_)
  have j9025_ : zC1 153 127 (Int32.toNatClampNeg 0) M M56_ := (zC1_0 153 127 M M56_)
  have j9026_ : zC1 154 128 (Int32.toNatClampNeg 0) M M56_ := (zC1_0 154 128 M M56_)
  have j9027_ : zC1 155 129 (Int32.toNatClampNeg 0) M M56_ := (zC1_0 155 129 M M56_)
  have j9028_ : zC1 162 131 (Int32.toNatClampNeg 0) M M56_ := (zC1_0 162 131 M M56_)
  have j9029_ : zC1 157 145 (Int32.toNatClampNeg 0) M M56_ := (zC1_0 157 145 M M56_)
  have j9030_ : M56_.1 124 55 = (M.1 124 37) := ((((pvu_n e57_ 124 55 (Or.inr (by decide))).trans (pvu_n e52_ 124 55 (Or.inr (by decide)))).trans (pvu_s e47_)).trans (((((((((pvu_n e42_ 124 37 (Or.inr (by decide))).trans (pvu_n e37_ 124 37 (Or.inr (by decide)))).trans (pvu_n e32_ 124 37 (Or.inr (by decide)))).trans (pvu_n e27_ 124 37 (Or.inr (by decide)))).trans (pvu_n e22_ 124 37 (Or.inr (by decide)))).trans (pvu_n e17_ 124 37 (Or.inr (by decide)))).trans (pvu_n e12_ 124 37 (Or.inr (by decide)))).trans (pvu_n e7_ 124 37 (Or.inr (by decide)))).trans (pvu_n e2_ 124 37 (Or.inr (by decide)))))
  exact hlz6729_ _ 0 M56_ o58_ f59_ (zr_wide (show 0 ≤ Int32.toInt 0 ∧ Int32.toInt 0 ≤ 0 from (by decide)) (by decide) (by decide)) j9015_ j9016_ j9017_ j9018_ j9019_ j9020_ j9021_ j9022_ j9023_ j9024_ j9025_ j9026_ j9027_ j9028_ j9029_ j9030_ (zhid (Nat.lt_succ_self _))
