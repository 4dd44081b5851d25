def fpL_eX10_add_124_x : List (Nat × Nat × Nat) := [(0, 124, 38), (0, 145, 0)]
def fp_eX10_add_124_x (q k : Nat) : Bool := pvfp fpL_eX10_add_124_x q k
set_option maxHeartbeats 4000000 in
set_option maxRecDepth 10000 in
theorem se_X10_add_124_x (M : pvM) (hok : pvOk M) (n1 : Int32) (d : Nat) : PW 6 d (0, [some (pvR 124), some (pvI n1), none], [], M) (fun r X => (∃ x : Int32, r = some (pvI x) ∧ ((-4) ≤ Int32.toInt x ∧ Int32.toInt x ≤ 7) ∧ x = (if n1 = (-1) then 0 else (if n1 < 0 then (-1) else (if ((M.1 124 0) - 1) < n1 then (-1) else (if zhas (M.1 145) (Int32.toNatClampNeg (M.1 124 37)) n1 then (-2) else (if (M.1 124 37) = 7 then (-4) else ((M.1 124 37) + 1))))))) ∧ pvOk X ∧ pvFr fp_eX10_add_124_x M X ∧ zAd 124 37 145 7 n1 r M X ∧ X.1 124 37 = (if n1 = (-1) then 0 else (if n1 < 0 then (M.1 124 37) else (if ((M.1 124 0) - 1) < n1 then (M.1 124 37) else (if zhas (M.1 145) (Int32.toNatClampNeg (M.1 124 37)) n1 then (M.1 124 37) else (if (M.1 124 37) = 7 then (M.1 124 37) else ((M.1 124 37) + 1))))))) := by
  have hT : pvdom 6 = pvD_6 := rfl
  refine pw_blk hT 2 (S' := (2, [some (pvR 124), some (pvI n1), none], [pvI (-1), pvI n1], M)) rfl ⟨trivial, trivial, trivial⟩ ?_
  refine pw_icn hT (c := n1 = (-1)) rfl rfl (fun c1_ => ?_) (fun c1_ => ?_)
  · refine pw_blk hT 2 (S' := (14, [some (pvR 124), some (pvI n1), none], [pvI n1, pvR 124], M)) rfl ⟨trivial, trivial, trivial⟩ ?_
    refine pw_callT hT (as := [pvR 124, pvI n1]) (lo1 := [some (pvR 124), some (pvI n1)]) (d1 := d) (rest := []) rfl rfl rfl rfl rfl (fun _ => rfl) (Nat.zero_le _) rfl rfl rfl (sf_X10_isWindow_124_x M hok n1 d) ?_
    by_cases c7_ : n1 < 0
    · refine pw_eqI (if_pos c7_) ?_
      have b8_ : (-2147483648) ≤ Int32.toInt n1 ∧ Int32.toInt n1 ≤ (-2) := (by have u0 := (zbnd n1); have u9 := (show _ ∧ _ from ⟨(zi_lt _ _).mp c7_, (show 0 ≤ Int32.toInt 0 ∧ Int32.toInt 0 ≤ 0 from (by decide))⟩); have v1 := (not_congr (zi_eq _ _)).mp c1_; have w1 : ((-1) : Int32).toInt = -1 := (by decide); omega)
      show PW 6 d (17, [some (pvR 124), some (pvI n1), none], [pvI 0], M) _
      refine pw_ifn hT (c := 0 = 0) rfl rfl (fun c9_ => absurd (by decide) c9_) (fun c9_ => ?_)
      refine pw_blk hT 1 (S' := (21, [some (pvR 124), some (pvI n1), none], [pvI (-1)], M)) rfl ⟨trivial, trivial⟩ ?_
      exact pw_ret hT rfl (r := some (pvI (-1))) (M' := M) ⟨rfl, rfl⟩ ⟨⟨_, rfl, (zr_wide (show (-1) ≤ Int32.toInt (-1) ∧ Int32.toInt (-1) ≤ (-1) from (by decide)) (by decide) (by decide)), (by rw [if_neg c1_, if_pos c7_]; first | done | (rw [if_pos c7_]; done))⟩, hok, pvfr_0, ⟨_, rfl, Or.inl ⟨by decide, rfl, fun i _ => rfl⟩⟩, (by rw [if_neg c1_, if_pos c7_]; first | done | exact rfl | (rw [if_pos c7_]; done) | (rw [if_pos c7_]; exact rfl))⟩
    · refine pw_eqI (if_neg c7_) ?_
      have b10_ : 0 ≤ Int32.toInt n1 ∧ Int32.toInt n1 ≤ 2147483647 := zr_nlt_l 0 c7_ (zbnd n1) (show 0 ≤ Int32.toInt 0 ∧ Int32.toInt 0 ≤ 0 from (by decide)) (by decide)
      have b11_ : 0 ≤ Int32.toInt (M.1 124 0) ∧ Int32.toInt (M.1 124 0) ≤ 7 := pvok_r hok 124 0 rfl
      obtain ⟨q13_, b12_⟩ : (Int32.toInt ((M.1 124 0) - 1) = Int32.toInt (M.1 124 0) - 1) ∧ ((-1) ≤ Int32.toInt ((M.1 124 0) - 1) ∧ Int32.toInt ((M.1 124 0) - 1) ≤ 6) := zsub_k (M.1 124 0) 1 1 (-1) 6 b11_ (by decide) (by decide) (by decide) (by decide) (by decide)
      by_cases c14_ : ((M.1 124 0) - 1) < n1
      · refine pw_eqI (if_pos c14_) ?_
        have d15_ : Int32.toInt ((M.1 124 0) - 1) < Int32.toInt n1 := (zi_lt _ _).mp c14_
        show PW 6 d (17, [some (pvR 124), some (pvI n1), none], [pvI 0], M) _
        refine pw_ifn hT (c := 0 = 0) rfl rfl (fun c16_ => absurd (by decide) c16_) (fun c16_ => ?_)
        refine pw_blk hT 1 (S' := (21, [some (pvR 124), some (pvI n1), none], [pvI (-1)], M)) rfl ⟨trivial, trivial⟩ ?_
        exact pw_ret hT rfl (r := some (pvI (-1))) (M' := M) ⟨rfl, rfl⟩ ⟨⟨_, rfl, (zr_wide (show (-1) ≤ Int32.toInt (-1) ∧ Int32.toInt (-1) ≤ (-1) from (by decide)) (by decide) (by decide)), (by rw [if_neg c1_, if_neg c7_, if_pos c14_]; first | done | (rw [if_pos c14_]; done))⟩, hok, pvfr_0, ⟨_, rfl, Or.inl ⟨by decide, rfl, fun i _ => rfl⟩⟩, (by rw [if_neg c1_, if_neg c7_, if_pos c14_]; first | done | exact rfl | (rw [if_pos c14_]; done) | (rw [if_pos c14_]; exact rfl))⟩
      · refine pw_eqI (if_neg c14_) ?_
        have b17_ : 0 ≤ Int32.toInt ((M.1 124 0) - 1) ∧ Int32.toInt ((M.1 124 0) - 1) ≤ 6 := zr_nlt_l 0 c14_ b12_ b10_ (by decide)
        have b18_ : 0 ≤ Int32.toInt n1 ∧ Int32.toInt n1 ≤ 6 := zr_nlt_r 6 c14_ b10_ b17_ (by decide)
        have d19_ : Int32.toInt ((M.1 124 0) - 1) ≥ Int32.toInt n1 := Int.not_lt.mp ((not_congr (zi_lt _ _)).mp c14_)
        show PW 6 d (17, [some (pvR 124), some (pvI n1), none], [pvI 1], M) _
        refine pw_ifn hT (c := 1 = 0) rfl rfl (fun c20_ => ?_) (fun c20_ => absurd c20_ (by decide))
        refine pw_blk hT 2 (S' := (24, [some (pvR 124), some (pvI n1), some (pvI 0)], [], M)) rfl ⟨trivial, trivial, trivial⟩ ?_
        have hlz112_ : ∀ (nz112_ : Nat) (i2z112_ : Int32), (0 ≤ Int32.toInt i2z112_ ∧ Int32.toInt i2z112_ ≤ 7) → (∀ j : Nat, j < Int32.toNatClampNeg i2z112_ → M.1 145 j ≠ n1) → (zhide ((8 - Int32.toInt i2z112_).toNat < nz112_)) → PW 6 d (24, [some (pvR 124), some (pvI n1), some (pvI i2z112_)], [], M) (fun r X => (∃ x : Int32, r = some (pvI x) ∧ ((-4) ≤ Int32.toInt x ∧ Int32.toInt x ≤ 7) ∧ x = (if n1 = (-1) then 0 else (if n1 < 0 then (-1) else (if ((M.1 124 0) - 1) < n1 then (-1) else (if zhas (M.1 145) (Int32.toNatClampNeg (M.1 124 37)) n1 then (-2) else (if (M.1 124 37) = 7 then (-4) else ((M.1 124 37) + 1))))))) ∧ pvOk X ∧ pvFr fp_eX10_add_124_x M X ∧ zAd 124 37 145 7 n1 r M X ∧ X.1 124 37 = (if n1 = (-1) then 0 else (if n1 < 0 then (M.1 124 37) else (if ((M.1 124 0) - 1) < n1 then (M.1 124 37) else (if zhas (M.1 145) (Int32.toNatClampNeg (M.1 124 37)) n1 then (M.1 124 37) else (if (M.1 124 37) = 7 then (M.1 124 37) else ((M.1 124 37) + 1))))))) := by
          intro nz112_
          induction nz112_ with
          | zero => intro i2z112_ h2z112_ j0z112_ hmz112_; exact absurd (zshow hmz112_) (Nat.not_lt_zero _)
          | succ nz112_ ihz112_ =>
            intro i2z112_ h2z112_ j0z112_ hmz112_
            have b113_ : 0 ≤ Int32.toInt (M.1 124 37) ∧ Int32.toInt (M.1 124 37) ≤ 7 := pvok_r hok 124 37 rfl
            refine pw_blk hT 3 (S' := (29, [some (pvR 124), some (pvI n1), some (pvI i2z112_)], [pvI (M.1 124 37), pvI i2z112_], M)) rfl ⟨trivial, trivial, rfl, trivial⟩ ?_
            refine pw_ic hT (c := (M.1 124 37) ≤ i2z112_) rfl rfl (fun c114_ => ?_) (fun c114_ => ?_)
            · have d115_ : Int32.toInt (M.1 124 37) ≤ Int32.toInt i2z112_ := (zi_le _ _).mp c114_
              have c116_ : ¬ zhas (M.1 145) (Int32.toNatClampNeg (M.1 124 37)) n1 := (znm_o j0z112_ c114_)
              refine pw_blk hT 3 (S' := (57, [some (pvR 124), some (pvI n1), some (pvI i2z112_)], [pvI 7, pvI (M.1 124 37)], M)) rfl ⟨trivial, rfl, trivial, trivial⟩ ?_
              refine pw_icn hT (c := (M.1 124 37) = 7) rfl rfl (fun c117_ => ?_) (fun c117_ => ?_)
              · have b118_ : 0 ≤ Int32.toInt (M.1 124 37) ∧ Int32.toInt (M.1 124 37) ≤ 6 := (by have u0 := b113_; have u1 := (not_congr (zi_eq _ _)).mp c117_; have u2 := (show 7 ≤ Int32.toInt 7 ∧ Int32.toInt 7 ≤ 7 from (by decide)); omega)
                refine pw_blkw hT 6 (pc := 73) (lo := [some (pvR 124), some (pvI n1), some (pvI i2z112_)]) (st := []) (M := pvu M 145 (Int32.toNatClampNeg (M.1 124 37)) n1) rfl ⟨trivial, rfl, trivial, rfl, trivial, ⟨rfl, (zr_in (n := 7) b118_ (by decide) (by decide))⟩, trivial⟩ (fun M119_ e120_ => ?_)
                have o121_ : pvOk M119_ := pvok_u2 e120_ hok rfl b18_
                have f122_ : pvFr fp_eX10_add_124_x M M119_ := pvfr_u e120_ pvfr_0 rfl
                have e123_ : (M119_.1 124 37) = (M.1 124 37) := (pvu_n e120_ 124 37 (Or.inl (by decide)))
                have b124_ : 0 ≤ Int32.toInt (M119_.1 124 37) ∧ Int32.toInt (M119_.1 124 37) ≤ 6 := (by rw [e123_]; exact b118_)
                obtain ⟨q126_, b125_⟩ : (Int32.toInt ((M119_.1 124 37) + 1) = Int32.toInt (M119_.1 124 37) + 1) ∧ (1 ≤ Int32.toInt ((M119_.1 124 37) + 1) ∧ Int32.toInt ((M119_.1 124 37) + 1) ≤ 7) := zadd_k (M119_.1 124 37) 1 1 1 7 b124_ (by decide) (by decide) (by decide) (by decide) (by decide)
                refine pw_blkw hT 6 (pc := 83) (lo := [some (pvR 124), some (pvI n1), some (pvI i2z112_)]) (st := []) (M := pvu M119_ 124 37 ((M119_.1 124 37) + 1)) rfl ⟨trivial, trivial, rfl, trivial, trivial, rfl, trivial⟩ (fun M127_ e128_ => ?_)
                have o129_ : pvOk M127_ := pvok_u2 e128_ o121_ rfl (zr_wide b125_ (by decide) (by decide))
                have f130_ : pvFr fp_eX10_add_124_x M M127_ := pvfr_u e128_ f122_ rfl
                have e131_ : (M127_.1 124 37) = ((M119_.1 124 37) + 1) := (pvu_s e128_)
                have b132_ : 1 ≤ Int32.toInt (M127_.1 124 37) ∧ Int32.toInt (M127_.1 124 37) ≤ 7 := (by rw [e131_]; exact b125_)
                refine pw_blk hT 2 (S' := (87, [some (pvR 124), some (pvI n1), some (pvI i2z112_)], [pvI (M127_.1 124 37)], M127_)) rfl ⟨trivial, rfl, trivial⟩ ?_
                exact pw_ret hT rfl (r := some (pvI (M127_.1 124 37))) (M' := M127_) ⟨rfl, rfl⟩ ⟨⟨_, rfl, (zr_wide b132_ (by decide) (by decide)), (by rw [if_neg c1_, if_neg c7_, if_neg c14_, if_neg c116_, if_neg c117_]; first | done | exact (show (M127_.1 124 37) = ((M.1 124 37) + 1) from by rw [((pvu_s e128_).trans (show ((M119_.1 124 37) + 1) = ((M.1 124 37) + 1) from by rw [(pvu_n e120_ 124 37 (Or.inl (by decide)))]))]) | (rw [if_neg c117_]; exact (show (M127_.1 124 37) = ((M.1 124 37) + 1) from by rw [((pvu_s e128_).trans (show ((M119_.1 124 37) + 1) = ((M.1 124 37) + 1) from by rw [(pvu_n e120_ 124 37 (Or.inl (by decide)))]))])))⟩, o129_, f130_, (zAd_10 (by decide) (by decide) (by have u := b118_; omega) e120_ e128_ (show ((M119_.1 124 37) + 1) = ((M.1 124 37) + 1) from by rw [(pvu_n e120_ 124 37 (Or.inl (by decide)))])), (by rw [if_neg c1_, if_neg c7_, if_neg c14_, if_neg c116_, if_neg c117_]; first | done | exact ((pvu_s e128_).trans (show ((M119_.1 124 37) + 1) = ((M.1 124 37) + 1) from by rw [(pvu_n e120_ 124 37 (Or.inl (by decide)))])) | (rw [if_neg c117_]; done) | (rw [if_neg c117_]; exact ((pvu_s e128_).trans (show ((M119_.1 124 37) + 1) = ((M.1 124 37) + 1) from by rw [(pvu_n e120_ 124 37 (Or.inl (by decide)))]))))⟩
              · have b133_ : 7 ≤ Int32.toInt (M.1 124 37) ∧ Int32.toInt (M.1 124 37) ≤ 7 := (by have u0 := b113_; have u1 := (zi_eq _ _).mp c117_; have u2 := (show 7 ≤ Int32.toInt 7 ∧ Int32.toInt 7 ≤ 7 from (by decide)); omega)
                refine pw_blk hT 1 (S' := (62, [some (pvR 124), some (pvI n1), some (pvI i2z112_)], [pvI (-4)], M)) rfl ⟨trivial, trivial⟩ ?_
                exact pw_ret hT rfl (r := some (pvI (-4))) (M' := M) ⟨rfl, rfl⟩ ⟨⟨_, rfl, (zr_wide (show (-4) ≤ Int32.toInt (-4) ∧ Int32.toInt (-4) ≤ (-4) from (by decide)) (by decide) (by decide)), (by rw [if_neg c1_, if_neg c7_, if_neg c14_, if_neg c116_, if_pos c117_]; first | done | (rw [if_pos c117_]; done))⟩, hok, pvfr_0, ⟨_, rfl, Or.inl ⟨by decide, rfl, fun i _ => rfl⟩⟩, (by rw [if_neg c1_, if_neg c7_, if_neg c14_, if_neg c116_, if_pos c117_]; first | done | exact rfl | (rw [if_pos c117_]; done) | (rw [if_pos c117_]; exact rfl))⟩
            · have b134_ : 1 ≤ Int32.toInt (M.1 124 37) ∧ Int32.toInt (M.1 124 37) ≤ 7 := zr_nle_l 1 c114_ b113_ h2z112_ (by decide)
              have b135_ : 0 ≤ Int32.toInt i2z112_ ∧ Int32.toInt i2z112_ ≤ 6 := zr_nle_r 6 c114_ h2z112_ b134_ (by decide)
              have d136_ : Int32.toInt (M.1 124 37) > Int32.toInt i2z112_ := Int.not_le.mp ((not_congr (zi_le _ _)).mp c114_)
              have b137_ : 0 ≤ Int32.toInt (M.1 145 (Int32.toNatClampNeg i2z112_)) ∧ Int32.toInt (M.1 145 (Int32.toNatClampNeg i2z112_)) ≤ 6 := pvok_r hok 145 (Int32.toNatClampNeg i2z112_) rfl
              refine pw_blk hT 5 (S' := (39, [some (pvR 124), some (pvI n1), some (pvI i2z112_)], [pvI n1, pvI (M.1 145 (Int32.toNatClampNeg i2z112_))], M)) rfl ⟨trivial, rfl, trivial, ⟨rfl, (zr_in (n := 7) b135_ (by decide) (by decide))⟩, trivial, trivial⟩ ?_
              refine pw_icn hT (c := (M.1 145 (Int32.toNatClampNeg i2z112_)) = n1) rfl rfl (fun c138_ => ?_) (fun c138_ => ?_)
              · obtain ⟨q140_, b139_⟩ : (Int32.toInt (i2z112_ + 1) = Int32.toInt i2z112_ + 1) ∧ (1 ≤ Int32.toInt (i2z112_ + 1) ∧ Int32.toInt (i2z112_ + 1) ≤ 7) := zadd_k i2z112_ 1 1 1 7 b135_ (by decide) (by decide) (by decide) (by decide) (by decide)
                refine pw_blk hT 2 (S' := (24, [some (pvR 124), some (pvI n1), some (pvI (i2z112_ + 1))], [], M)) rfl ⟨trivial, trivial, trivial⟩ ?_
                have j141_ : ∀ j : Nat, j < Int32.toNatClampNeg (i2z112_ + 1) → M.1 145 j ≠ n1 := (znm_s b135_ (by decide) (by decide) j0z112_ c138_)
                exact ihz112_ (i2z112_ + 1) (zr_wide b139_ (by decide) (by decide)) j141_ (zhid (pvms_up (zshow hmz112_) h2z112_ q140_ (by decide) (by decide)))
              · have d142_ : Int32.toInt (M.1 145 (Int32.toNatClampNeg i2z112_)) = Int32.toInt n1 := (zi_eq _ _).mp c138_
                have c143_ : zhas (M.1 145) (Int32.toNatClampNeg (M.1 124 37)) n1 := (znm_i (b135_).1 c114_ c138_)
                refine pw_blk hT 1 (S' := (44, [some (pvR 124), some (pvI n1), some (pvI i2z112_)], [pvI (-2)], M)) rfl ⟨trivial, trivial⟩ ?_
                exact pw_ret hT rfl (r := some (pvI (-2))) (M' := M) ⟨rfl, rfl⟩ ⟨⟨_, rfl, (zr_wide (show (-2) ≤ Int32.toInt (-2) ∧ Int32.toInt (-2) ≤ (-2) from (by decide)) (by decide) (by decide)), (by rw [if_neg c1_, if_neg c7_, if_neg c14_, if_pos c143_]; first | done | (rw [if_pos c143_]; done))⟩, hok, pvfr_0, ⟨_, rfl, Or.inl ⟨by decide, rfl, fun i _ => rfl⟩⟩, (by rw [if_neg c1_, if_neg c7_, if_neg c14_, if_pos c143_]; first | done | exact rfl | (rw [if_pos c143_]; done) | (rw [if_pos c143_]; exact rfl))⟩
        have u144_ : Int32.toInt 0 = 0 := by decide
        have j145_ : ∀ j : Nat, j < Int32.toNatClampNeg 0 → M.1 145 j ≠ n1 := (znm_0 (M.1 145) n1)
        exact hlz112_ _ 0 (zr_wide (show 0 ≤ Int32.toInt 0 ∧ Int32.toInt 0 ≤ 0 from (by decide)) (by decide) (by decide)) j145_ (zhid (Nat.lt_succ_self _))
  · have b146_ : (-1) ≤ Int32.toInt n1 ∧ Int32.toInt n1 ≤ (-1) := (by have u0 := (zbnd n1); have u1 := (zi_eq _ _).mp c1_; have u2 := (show (-1) ≤ Int32.toInt (-1) ∧ Int32.toInt (-1) ≤ (-1) from (by decide)); omega)
    refine pw_blkw hT 3 (pc := 10) (lo := [some (pvR 124), some (pvI n1), none]) (st := []) (M := pvu M 124 37 0) rfl ⟨trivial, trivial, rfl, trivial⟩ (fun M147_ e148_ => ?_)
    have o149_ : pvOk M147_ := pvok_u2 e148_ hok rfl (zr_wide (show 0 ≤ Int32.toInt 0 ∧ Int32.toInt 0 ≤ 0 from (by decide)) (by decide) (by decide))
    have f150_ : pvFr fp_eX10_add_124_x M M147_ := pvfr_u e148_ pvfr_0 rfl
    refine pw_blk hT 1 (S' := (11, [some (pvR 124), some (pvI n1), none], [pvI 0], M147_)) rfl ⟨trivial, trivial⟩ ?_
    exact pw_ret hT rfl (r := some (pvI 0)) (M' := M147_) ⟨rfl, rfl⟩ ⟨⟨_, rfl, (zr_wide (show 0 ≤ Int32.toInt 0 ∧ Int32.toInt 0 ≤ 0 from (by decide)) (by decide) (by decide)), (by rw [if_pos c1_]; first | done | (rw [if_pos c1_]; done))⟩, o149_, f150_, ⟨_, rfl, Or.inr (Or.inl ⟨rfl, pvu_s e148_⟩)⟩, (by rw [if_pos c1_]; first | done | exact (pvu_s e148_) | (rw [if_pos c1_]; done) | (rw [if_pos c1_]; exact (pvu_s e148_)))⟩
set_option maxHeartbeats 4000000 in
set_option maxRecDepth 10000 in
theorem se_X10_lastOf_124_x_x (M : pvM) (hok : pvOk M) (n1 : Int32) (n2 : Int32) (hn1 : 0 ≤ Int32.toInt n1 ∧ Int32.toInt n1 ≤ 3) (hn2 : 0 ≤ Int32.toInt n2 ∧ Int32.toInt n2 ≤ 99) (d : Nat) : PW 46 d (0, [some (pvR 124), some (pvI n1), some (pvI n2), none, none], [], M) (fun r X => (∃ x : Int32, r = some (pvI x) ∧ (0 ≤ Int32.toInt x ∧ Int32.toInt x ≤ 99) ∧ x = zlO M n1 n2) ∧ X = M) := by
  have hT : pvdom 46 = pvD_46 := rfl
  refine pw_blk hT 3 (S' := (3, [some (pvR 124), some (pvI n1), some (pvI n2), some (pvI n2), none], [pvR 124], M)) rfl ⟨trivial, trivial, trivial, trivial⟩ ?_
  refine pw_callT hT (as := [pvR 124]) (lo1 := [some (pvR 124)]) (d1 := d) (rest := []) rfl rfl rfl rfl rfl (fun _ => rfl) (Nat.zero_le _) rfl rfl rfl (sf_X10_firstClause_124 M hok d) ?_
  have b6_ : (-1) ≤ Int32.toInt (M.1 124 15) ∧ Int32.toInt (M.1 124 15) ≤ 5 := pvok_r hok 124 15 rfl
  by_cases c7_ : 0 ≤ (M.1 124 15)
  · refine pw_eqI (if_pos c7_) ?_
    have b8_ : 0 ≤ Int32.toInt (M.1 124 15) ∧ Int32.toInt (M.1 124 15) ≤ 5 := zr_le_r 0 c7_ b6_ (show 0 ≤ Int32.toInt 0 ∧ Int32.toInt 0 ≤ 0 from (by decide)) (by decide)
    have q9_ : Int32.toInt (10 * (M.1 124 15)) = 10 * Int32.toInt (M.1 124 15) := by have u0 : Int32.toInt 10 = 10 := (by decide); have u1 := b8_; have u2 := zmul 10 (M.1 124 15) (by rw [u0]; omega) (by rw [u0]; omega); rw [u0] at u2; omega
    have b10_ : 0 ≤ Int32.toInt (10 * (M.1 124 15)) ∧ Int32.toInt (10 * (M.1 124 15)) ≤ 50 := (by have u1 := b8_; omega)
    show PW 46 d (6, [some (pvR 124), some (pvI n1), some (pvI n2), some (pvI n2), none], [pvI (10 * (M.1 124 15))], M) _
    refine pw_blk hT 1 (S' := (8, [some (pvR 124), some (pvI n1), some (pvI n2), some (pvI n2), some (pvI (10 * (M.1 124 15)))], [], M)) rfl ⟨trivial, trivial⟩ ?_
    have hlz77_ : ∀ (nz77_ : Nat) (i3z77_ : Int32) (i4z77_ : Int32), (0 ≤ Int32.toInt i3z77_ ∧ Int32.toInt i3z77_ ≤ 99) → (0 ≤ Int32.toInt i4z77_ ∧ Int32.toInt i4z77_ ≤ 60) → (zLo M n1 n2 i3z77_ i4z77_) → (zhide ((61 - Int32.toInt i4z77_).toNat < nz77_)) → PW 46 d (8, [some (pvR 124), some (pvI n1), some (pvI n2), some (pvI i3z77_), some (pvI i4z77_)], [], M) (fun r X => (∃ x : Int32, r = some (pvI x) ∧ (0 ≤ Int32.toInt x ∧ Int32.toInt x ≤ 99) ∧ x = zlO M n1 n2) ∧ X = M) := by
      intro nz77_
      induction nz77_ with
      | zero => intro i3z77_ i4z77_ h3z77_ h4z77_ j0z77_ hmz77_; exact absurd (zshow hmz77_) (Nat.not_lt_zero _)
      | succ nz77_ ihz77_ =>
        intro i3z77_ i4z77_ h3z77_ h4z77_ j0z77_ hmz77_
        refine pw_blk hT 2 (S' := (11, [some (pvR 124), some (pvI n1), some (pvI n2), some (pvI i3z77_), some (pvI i4z77_)], [pvR 124, pvI i4z77_], M)) rfl ⟨trivial, trivial, trivial⟩ ?_
        refine pw_callT hT (as := [pvR 124]) (lo1 := [some (pvR 124)]) (d1 := d) (rest := [pvI i4z77_]) rfl rfl rfl rfl rfl (fun _ => rfl) (Nat.zero_le _) rfl rfl rfl (sf_X10_behindClauses_124 M hok d) ?_
        refine pw_eqI (if_pos c7_) ?_
        have b83_ : 0 ≤ Int32.toInt (M.1 133 (Int32.toNatClampNeg (M.1 124 15))) ∧ Int32.toInt (M.1 133 (Int32.toNatClampNeg (M.1 124 15))) ≤ 10 := pvok_r hok 133 (Int32.toNatClampNeg (M.1 124 15)) rfl
        obtain ⟨q85_, b84_⟩ : (Int32.toInt ((10 * (M.1 124 15)) + (M.1 133 (Int32.toNatClampNeg (M.1 124 15)))) = Int32.toInt (10 * (M.1 124 15)) + Int32.toInt (M.1 133 (Int32.toNatClampNeg (M.1 124 15)))) ∧ (0 ≤ Int32.toInt ((10 * (M.1 124 15)) + (M.1 133 (Int32.toNatClampNeg (M.1 124 15)))) ∧ Int32.toInt ((10 * (M.1 124 15)) + (M.1 133 (Int32.toNatClampNeg (M.1 124 15)))) ≤ 60) := zadd_r (10 * (M.1 124 15)) (M.1 133 (Int32.toNatClampNeg (M.1 124 15))) 0 60 b10_ b83_ (by decide) (by decide) (by decide) (by decide)
        show PW 46 d (14, [some (pvR 124), some (pvI n1), some (pvI n2), some (pvI i3z77_), some (pvI i4z77_)], [pvI ((10 * (M.1 124 15)) + (M.1 133 (Int32.toNatClampNeg (M.1 124 15)))), pvI i4z77_], M) _
        refine pw_ic hT (c := ((10 * (M.1 124 15)) + (M.1 133 (Int32.toNatClampNeg (M.1 124 15)))) ≤ i4z77_) rfl rfl (fun c86_ => ?_) (fun c86_ => ?_)
        · have d87_ : Int32.toInt ((10 * (M.1 124 15)) + (M.1 133 (Int32.toNatClampNeg (M.1 124 15)))) ≤ Int32.toInt i4z77_ := (zi_le _ _).mp c86_
          refine pw_blk hT 1 (S' := (47, [some (pvR 124), some (pvI n1), some (pvI n2), some (pvI i3z77_), some (pvI i4z77_)], [pvI i3z77_], M)) rfl ⟨trivial, trivial⟩ ?_
          exact pw_ret hT rfl (r := some (pvI i3z77_)) (M' := M) ⟨rfl, rfl⟩ ⟨⟨_, rfl, h3z77_, (zLo_e hok j0z77_ c7_ ((zi_le _ _).mp c86_))⟩, rfl⟩
        · have b88_ : 1 ≤ Int32.toInt ((10 * (M.1 124 15)) + (M.1 133 (Int32.toNatClampNeg (M.1 124 15)))) ∧ Int32.toInt ((10 * (M.1 124 15)) + (M.1 133 (Int32.toNatClampNeg (M.1 124 15)))) ≤ 60 := zr_nle_l 1 c86_ b84_ h4z77_ (by decide)
          have b89_ : 0 ≤ Int32.toInt i4z77_ ∧ Int32.toInt i4z77_ ≤ 59 := zr_nle_r 59 c86_ h4z77_ b88_ (by decide)
          have d90_ : Int32.toInt ((10 * (M.1 124 15)) + (M.1 133 (Int32.toNatClampNeg (M.1 124 15)))) > Int32.toInt i4z77_ := Int.not_le.mp ((not_congr (zi_le _ _)).mp c86_)
          have b91_ : 0 ≤ Int32.toInt (M.1 134 (Int32.toNatClampNeg i4z77_)) ∧ Int32.toInt (M.1 134 (Int32.toNatClampNeg i4z77_)) ≤ 3 := pvok_r hok 134 (Int32.toNatClampNeg i4z77_) rfl
          refine pw_blk hT 5 (S' := (25, [some (pvR 124), some (pvI n1), some (pvI n2), some (pvI i3z77_), some (pvI i4z77_)], [pvI n1, pvI (M.1 134 (Int32.toNatClampNeg i4z77_))], M)) rfl ⟨trivial, rfl, trivial, ⟨rfl, (zr_in (n := 60) b89_ (by decide) (by decide))⟩, trivial, trivial⟩ ?_
          refine pw_icn hT (c := (M.1 134 (Int32.toNatClampNeg i4z77_)) = n1) rfl rfl (fun c92_ => ?_) (fun c92_ => ?_)
          · obtain ⟨q94_, b93_⟩ : (Int32.toInt (i4z77_ + 1) = Int32.toInt i4z77_ + 1) ∧ (1 ≤ Int32.toInt (i4z77_ + 1) ∧ Int32.toInt (i4z77_ + 1) ≤ 60) := zadd_k i4z77_ 1 1 1 60 b89_ (by decide) (by decide) (by decide) (by decide) (by decide)
            refine pw_blk hT 4 (S' := (8, [some (pvR 124), some (pvI n1), some (pvI n2), some (pvI i3z77_), some (pvI (i4z77_ + 1))], [], M)) rfl ⟨trivial, trivial, trivial, trivial, trivial⟩ ?_
            have j95_ : zLo M n1 n2 i3z77_ (i4z77_ + 1) := (zLo_s hok j0z77_ c7_ (by have v := (not_congr (zi_le _ _)).mp c86_; omega) (by have u := b89_; omega) (by omega) ⟨fun z => absurd z c92_, fun _ => rfl⟩)
            exact ihz77_ i3z77_ (i4z77_ + 1) h3z77_ (zr_wide b93_ (by decide) (by decide)) j95_ (zhid (pvms_up (zshow hmz77_) h4z77_ q94_ (by decide) (by decide)))
          · have d96_ : Int32.toInt (M.1 134 (Int32.toNatClampNeg i4z77_)) = Int32.toInt n1 := (zi_eq _ _).mp c92_
            have b97_ : 0 ≤ Int32.toInt (M.1 135 (Int32.toNatClampNeg i4z77_)) ∧ Int32.toInt (M.1 135 (Int32.toNatClampNeg i4z77_)) ≤ 99 := pvok_r hok 135 (Int32.toNatClampNeg i4z77_) rfl
            obtain ⟨q99_, b98_⟩ : (Int32.toInt (i4z77_ + 1) = Int32.toInt i4z77_ + 1) ∧ (1 ≤ Int32.toInt (i4z77_ + 1) ∧ Int32.toInt (i4z77_ + 1) ≤ 60) := zadd_k i4z77_ 1 1 1 60 b89_ (by decide) (by decide) (by decide) (by decide) (by decide)
            refine pw_blk hT 8 (S' := (8, [some (pvR 124), some (pvI n1), some (pvI n2), some (pvI (M.1 135 (Int32.toNatClampNeg i4z77_))), some (pvI (i4z77_ + 1))], [], M)) rfl ⟨trivial, rfl, trivial, ⟨rfl, (zr_in (n := 60) b89_ (by decide) (by decide))⟩, trivial, trivial, trivial, trivial, trivial⟩ ?_
            have j100_ : zLo M n1 n2 (M.1 135 (Int32.toNatClampNeg i4z77_)) (i4z77_ + 1) := (zLo_s hok j0z77_ c7_ (by have v := (not_congr (zi_le _ _)).mp c86_; omega) (by have u := b89_; omega) (by omega) ⟨fun _ => rfl, fun z => absurd c92_ z⟩)
            exact ihz77_ (M.1 135 (Int32.toNatClampNeg i4z77_)) (i4z77_ + 1) b97_ (zr_wide b98_ (by decide) (by decide)) j100_ (zhid (pvms_up (zshow hmz77_) h4z77_ q99_ (by decide) (by decide)))
    have j101_ : zLo M n1 n2 n2 (10 * (M.1 124 15)) := (zLo_0 (zfi_y c7_))
    exact hlz77_ _ n2 (10 * (M.1 124 15)) hn2 (zr_wide b10_ (by decide) (by decide)) j101_ (zhid (Nat.lt_succ_self _))
  · refine pw_eqI (if_neg c7_) ?_
    have b102_ : (-1) ≤ Int32.toInt (M.1 124 15) ∧ Int32.toInt (M.1 124 15) ≤ (-1) := zr_nle_r (-1) c7_ b6_ (show 0 ≤ Int32.toInt 0 ∧ Int32.toInt 0 ≤ 0 from (by decide)) (by decide)
    show PW 46 d (6, [some (pvR 124), some (pvI n1), some (pvI n2), some (pvI n2), none], [pvI 0], M) _
    refine pw_blk hT 1 (S' := (8, [some (pvR 124), some (pvI n1), some (pvI n2), some (pvI n2), some (pvI 0)], [], M)) rfl ⟨trivial, trivial⟩ ?_
    have hlz110_ : ∀ (nz110_ : Nat) (i3z110_ : Int32) (i4z110_ : Int32), (0 ≤ Int32.toInt i3z110_ ∧ Int32.toInt i3z110_ ≤ 99) → (0 ≤ Int32.toInt i4z110_ ∧ Int32.toInt i4z110_ ≤ 0) → (zLo M n1 n2 i3z110_ i4z110_) → (zhide (0 < nz110_)) → PW 46 d (8, [some (pvR 124), some (pvI n1), some (pvI n2), some (pvI i3z110_), some (pvI i4z110_)], [], M) (fun r X => (∃ x : Int32, r = some (pvI x) ∧ (0 ≤ Int32.toInt x ∧ Int32.toInt x ≤ 99) ∧ x = zlO M n1 n2) ∧ X = M) := by
      intro nz110_
      induction nz110_ with
      | zero => intro i3z110_ i4z110_ h3z110_ h4z110_ j0z110_ hmz110_; exact absurd (zshow hmz110_) (Nat.not_lt_zero _)
      | succ nz110_ ihz110_ =>
        intro i3z110_ i4z110_ h3z110_ h4z110_ j0z110_ hmz110_
        refine pw_blk hT 2 (S' := (11, [some (pvR 124), some (pvI n1), some (pvI n2), some (pvI i3z110_), some (pvI i4z110_)], [pvR 124, pvI i4z110_], M)) rfl ⟨trivial, trivial, trivial⟩ ?_
        refine pw_callT hT (as := [pvR 124]) (lo1 := [some (pvR 124)]) (d1 := d) (rest := [pvI i4z110_]) rfl rfl rfl rfl rfl (fun _ => rfl) (Nat.zero_le _) rfl rfl rfl (sf_X10_behindClauses_124 M hok d) ?_
        refine pw_eqI (if_neg c7_) ?_
        show PW 46 d (14, [some (pvR 124), some (pvI n1), some (pvI n2), some (pvI i3z110_), some (pvI i4z110_)], [pvI 0, pvI i4z110_], M) _
        refine pw_ic hT (c := 0 ≤ i4z110_) rfl rfl (fun c116_ => ?_) (fun c116_ => absurd (by have z0 := (show 0 ≤ Int32.toInt 0 ∧ Int32.toInt 0 ≤ 0 from (by decide)); have z1 := h4z110_; rw [zi_le]; omega) c116_)
        refine pw_blk hT 1 (S' := (47, [some (pvR 124), some (pvI n1), some (pvI n2), some (pvI i3z110_), some (pvI i4z110_)], [pvI i3z110_], M)) rfl ⟨trivial, trivial⟩ ?_
        exact pw_ret hT rfl (r := some (pvI i3z110_)) (M' := M) ⟨rfl, rfl⟩ ⟨⟨_, rfl, h3z110_, (zLo_n j0z110_ c7_)⟩, rfl⟩
    have u117_ : Int32.toInt 0 = 0 := by decide
    have j118_ : zLo M n1 n2 n2 0 := (zLo_0 (zfi_n c7_))
    exact hlz110_ _ n2 0 hn2 (show 0 ≤ Int32.toInt 0 ∧ Int32.toInt 0 ≤ 0 from (by decide)) j118_ (zhid (Nat.lt_succ_self _))
set_option maxHeartbeats 4000000 in
set_option maxRecDepth 10000 in
theorem se_X10_way_124_x_x_x (M : pvM) (hok : pvOk M) (n1 : Int32) (n2 : Int32) (n3 : Int32) (hn1 : 0 ≤ Int32.toInt n1 ∧ Int32.toInt n1 ≤ 3) (hn2 : 0 ≤ Int32.toInt n2 ∧ Int32.toInt n2 ≤ 4) (hn3 : 0 ≤ Int32.toInt n3 ∧ Int32.toInt n3 ≤ 6) (d : Nat) : PW 95 d (0, [some (pvR 124), some (pvI n1), some (pvI n2), some (pvI n3)], [], M) (fun r X => (∃ x : Int32, r = some (pvI x) ∧ (0 ≤ Int32.toInt x ∧ Int32.toInt x ≤ 301) ∧ Int32.toInt x = zWy (Int32.toInt (zlO M 2 2)) (Int32.toInt (M.1 127 (Int32.toNatClampNeg n3))) (Int32.toInt (M.1 128 (Int32.toNatClampNeg n3))) (Int32.toInt n1) (Int32.toInt n2)) ∧ X = M) := by
  have hT : pvdom 95 = pvD_95 := rfl
  refine pw_blk hT 3 (S' := (3, [some (pvR 124), some (pvI n1), some (pvI n2), some (pvI n3)], [pvI 2, pvI 2, pvR 124], M)) rfl ⟨trivial, trivial, trivial, trivial⟩ ?_
  refine pw_callGp hT (as := [pvR 124, pvI 2, pvI 2]) (lo1 := [some (pvR 124), some (pvI 2), some (pvI 2), none, none]) (d1 := d) (rest := []) rfl rfl rfl rfl rfl (fun _ => rfl) (Nat.zero_le _) rfl rfl rfl (se_X10_lastOf_124_x_x M hok 2 2 (zr_wide (show 2 ≤ Int32.toInt 2 ∧ Int32.toInt 2 ≤ 2 from (by decide)) (by decide) (by decide)) (zr_wide (show 2 ≤ Int32.toInt 2 ∧ Int32.toInt 2 ≤ 2 from (by decide)) (by decide) (by decide)) d) (fun x1_ b3_ => ?_)
  have u6_ : Int32.toInt 2 = 2 := by decide
  obtain ⟨b7_, d8_⟩ := b3_
  have b9_ : 0 ≤ Int32.toInt (M.1 127 (Int32.toNatClampNeg n3)) ∧ Int32.toInt (M.1 127 (Int32.toNatClampNeg n3)) ≤ 3 := pvok_r hok 127 (Int32.toNatClampNeg n3) rfl
  refine pw_blk hT 6 (S' := (14, [some (pvR 124), some (pvI n1), some (pvI n2), some (pvI n3)], [pvI (M.1 127 (Int32.toNatClampNeg n3)), pvI n1, pvR 124, pvI x1_], M)) rfl ⟨trivial, trivial, trivial, rfl, trivial, ⟨rfl, (zr_in (n := 7) hn3 (by decide) (by decide))⟩, trivial⟩ ?_
  refine pw_callT hT (as := [pvR 124, pvI n1, pvI (M.1 127 (Int32.toNatClampNeg n3))]) (lo1 := [some (pvR 124), some (pvI n1), some (pvI (M.1 127 (Int32.toNatClampNeg n3)))]) (d1 := d) (rest := [pvI x1_]) rfl rfl rfl rfl rfl (fun _ => rfl) (Nat.zero_le _) rfl rfl rfl (sf_X10_apart_124_x_x M hok n1 (M.1 127 (Int32.toNatClampNeg n3)) (zr_wide hn1 (by decide) (by decide)) (zr_wide b9_ (by decide) (by decide)) d) ?_
  by_cases c15_ : (M.1 127 (Int32.toNatClampNeg n3)) ≤ n1
  · refine pw_eqI (if_pos c15_) ?_
    have d16_ : Int32.toInt (M.1 127 (Int32.toNatClampNeg n3)) ≤ Int32.toInt n1 := (zi_le _ _).mp c15_
    obtain ⟨q18_, b17_⟩ : (Int32.toInt (n1 - (M.1 127 (Int32.toNatClampNeg n3))) = Int32.toInt n1 - Int32.toInt (M.1 127 (Int32.toNatClampNeg n3))) ∧ ((-3) ≤ Int32.toInt (n1 - (M.1 127 (Int32.toNatClampNeg n3))) ∧ Int32.toInt (n1 - (M.1 127 (Int32.toNatClampNeg n3))) ≤ 3) := zsub_r n1 (M.1 127 (Int32.toNatClampNeg n3)) (-3) 3 hn1 b9_ (by decide) (by decide) (by decide) (by decide)
    have b19_ : 0 ≤ Int32.toInt (n1 - (M.1 127 (Int32.toNatClampNeg n3))) ∧ Int32.toInt (n1 - (M.1 127 (Int32.toNatClampNeg n3))) ≤ 3 := (by have u0 := b17_; omega)
    show PW 95 d (17, [some (pvR 124), some (pvI n1), some (pvI n2), some (pvI n3)], [pvI (n1 - (M.1 127 (Int32.toNatClampNeg n3))), pvI x1_], M) _
    have b20_ : 0 ≤ Int32.toInt (x1_ * (n1 - (M.1 127 (Int32.toNatClampNeg n3)))) ∧ Int32.toInt (x1_ * (n1 - (M.1 127 (Int32.toNatClampNeg n3)))) ≤ 297 := (by have u := zmul_b x1_ (n1 - (M.1 127 (Int32.toNatClampNeg n3))) 99 3 (by have u0 := b7_; omega) (by have u0 := b19_; omega) (by decide); omega)
    have b21_ : 0 ≤ Int32.toInt (M.1 128 (Int32.toNatClampNeg n3)) ∧ Int32.toInt (M.1 128 (Int32.toNatClampNeg n3)) ≤ 4 := pvok_r hok 128 (Int32.toNatClampNeg n3) rfl
    refine pw_blk hT 7 (S' := (26, [some (pvR 124), some (pvI n1), some (pvI n2), some (pvI n3)], [pvI (M.1 128 (Int32.toNatClampNeg n3)), pvI n2, pvR 124, pvI (x1_ * (n1 - (M.1 127 (Int32.toNatClampNeg n3))))], M)) rfl ⟨trivial, trivial, trivial, trivial, rfl, trivial, ⟨rfl, (zr_in (n := 7) hn3 (by decide) (by decide))⟩, trivial⟩ ?_
    refine pw_callT hT (as := [pvR 124, pvI n2, pvI (M.1 128 (Int32.toNatClampNeg n3))]) (lo1 := [some (pvR 124), some (pvI n2), some (pvI (M.1 128 (Int32.toNatClampNeg n3)))]) (d1 := d) (rest := [pvI (x1_ * (n1 - (M.1 127 (Int32.toNatClampNeg n3))))]) rfl rfl rfl rfl rfl (fun _ => rfl) (Nat.zero_le _) rfl rfl rfl (sf_X10_apart_124_x_x M hok n2 (M.1 128 (Int32.toNatClampNeg n3)) hn2 b21_ d) ?_
    by_cases c27_ : (M.1 128 (Int32.toNatClampNeg n3)) ≤ n2
    · refine pw_eqI (if_pos c27_) ?_
      have d28_ : Int32.toInt (M.1 128 (Int32.toNatClampNeg n3)) ≤ Int32.toInt n2 := (zi_le _ _).mp c27_
      obtain ⟨q30_, b29_⟩ : (Int32.toInt (n2 - (M.1 128 (Int32.toNatClampNeg n3))) = Int32.toInt n2 - Int32.toInt (M.1 128 (Int32.toNatClampNeg n3))) ∧ ((-4) ≤ Int32.toInt (n2 - (M.1 128 (Int32.toNatClampNeg n3))) ∧ Int32.toInt (n2 - (M.1 128 (Int32.toNatClampNeg n3))) ≤ 4) := zsub_r n2 (M.1 128 (Int32.toNatClampNeg n3)) (-4) 4 hn2 b21_ (by decide) (by decide) (by decide) (by decide)
      have b31_ : 0 ≤ Int32.toInt (n2 - (M.1 128 (Int32.toNatClampNeg n3))) ∧ Int32.toInt (n2 - (M.1 128 (Int32.toNatClampNeg n3))) ≤ 4 := (by have u0 := b29_; omega)
      show PW 95 d (29, [some (pvR 124), some (pvI n1), some (pvI n2), some (pvI n3)], [pvI (n2 - (M.1 128 (Int32.toNatClampNeg n3))), pvI (x1_ * (n1 - (M.1 127 (Int32.toNatClampNeg n3))))], M) _
      obtain ⟨q33_, b32_⟩ : (Int32.toInt ((x1_ * (n1 - (M.1 127 (Int32.toNatClampNeg n3)))) + (n2 - (M.1 128 (Int32.toNatClampNeg n3)))) = Int32.toInt (x1_ * (n1 - (M.1 127 (Int32.toNatClampNeg n3)))) + Int32.toInt (n2 - (M.1 128 (Int32.toNatClampNeg n3)))) ∧ (0 ≤ Int32.toInt ((x1_ * (n1 - (M.1 127 (Int32.toNatClampNeg n3)))) + (n2 - (M.1 128 (Int32.toNatClampNeg n3)))) ∧ Int32.toInt ((x1_ * (n1 - (M.1 127 (Int32.toNatClampNeg n3)))) + (n2 - (M.1 128 (Int32.toNatClampNeg n3)))) ≤ 301) := zadd_r (x1_ * (n1 - (M.1 127 (Int32.toNatClampNeg n3)))) (n2 - (M.1 128 (Int32.toNatClampNeg n3))) 0 301 b20_ b31_ (by decide) (by decide) (by decide) (by decide)
      refine pw_blk hT 1 (S' := (30, [some (pvR 124), some (pvI n1), some (pvI n2), some (pvI n3)], [pvI ((x1_ * (n1 - (M.1 127 (Int32.toNatClampNeg n3)))) + (n2 - (M.1 128 (Int32.toNatClampNeg n3))))], M)) rfl ⟨trivial, trivial⟩ ?_
      exact pw_ret hT rfl (r := some (pvI ((x1_ * (n1 - (M.1 127 (Int32.toNatClampNeg n3)))) + (n2 - (M.1 128 (Int32.toNatClampNeg n3)))))) (M' := M) ⟨rfl, rfl⟩ ⟨⟨_, rfl, b32_, (zwy (congrArg Int32.toInt d8_) (by have u := b7_; omega) (by unfold zdst; split <;> omega) (by have u := b19_; omega) (by unfold zdst; split <;> omega) (by have u := b31_; omega))⟩, rfl⟩
    · refine pw_eqI (if_neg c27_) ?_
      have b34_ : 1 ≤ Int32.toInt (M.1 128 (Int32.toNatClampNeg n3)) ∧ Int32.toInt (M.1 128 (Int32.toNatClampNeg n3)) ≤ 4 := zr_nle_l 1 c27_ b21_ hn2 (by decide)
      have b35_ : 0 ≤ Int32.toInt n2 ∧ Int32.toInt n2 ≤ 3 := zr_nle_r 3 c27_ hn2 b34_ (by decide)
      have d36_ : Int32.toInt (M.1 128 (Int32.toNatClampNeg n3)) > Int32.toInt n2 := Int.not_le.mp ((not_congr (zi_le _ _)).mp c27_)
      obtain ⟨q38_, b37_⟩ : (Int32.toInt ((M.1 128 (Int32.toNatClampNeg n3)) - n2) = Int32.toInt (M.1 128 (Int32.toNatClampNeg n3)) - Int32.toInt n2) ∧ ((-2) ≤ Int32.toInt ((M.1 128 (Int32.toNatClampNeg n3)) - n2) ∧ Int32.toInt ((M.1 128 (Int32.toNatClampNeg n3)) - n2) ≤ 4) := zsub_r (M.1 128 (Int32.toNatClampNeg n3)) n2 (-2) 4 b34_ b35_ (by decide) (by decide) (by decide) (by decide)
      have b39_ : 1 ≤ Int32.toInt ((M.1 128 (Int32.toNatClampNeg n3)) - n2) ∧ Int32.toInt ((M.1 128 (Int32.toNatClampNeg n3)) - n2) ≤ 4 := (by have u0 := b37_; omega)
      show PW 95 d (29, [some (pvR 124), some (pvI n1), some (pvI n2), some (pvI n3)], [pvI ((M.1 128 (Int32.toNatClampNeg n3)) - n2), pvI (x1_ * (n1 - (M.1 127 (Int32.toNatClampNeg n3))))], M) _
      obtain ⟨q41_, b40_⟩ : (Int32.toInt ((x1_ * (n1 - (M.1 127 (Int32.toNatClampNeg n3)))) + ((M.1 128 (Int32.toNatClampNeg n3)) - n2)) = Int32.toInt (x1_ * (n1 - (M.1 127 (Int32.toNatClampNeg n3)))) + Int32.toInt ((M.1 128 (Int32.toNatClampNeg n3)) - n2)) ∧ (1 ≤ Int32.toInt ((x1_ * (n1 - (M.1 127 (Int32.toNatClampNeg n3)))) + ((M.1 128 (Int32.toNatClampNeg n3)) - n2)) ∧ Int32.toInt ((x1_ * (n1 - (M.1 127 (Int32.toNatClampNeg n3)))) + ((M.1 128 (Int32.toNatClampNeg n3)) - n2)) ≤ 301) := zadd_r (x1_ * (n1 - (M.1 127 (Int32.toNatClampNeg n3)))) ((M.1 128 (Int32.toNatClampNeg n3)) - n2) 1 301 b20_ b39_ (by decide) (by decide) (by decide) (by decide)
      refine pw_blk hT 1 (S' := (30, [some (pvR 124), some (pvI n1), some (pvI n2), some (pvI n3)], [pvI ((x1_ * (n1 - (M.1 127 (Int32.toNatClampNeg n3)))) + ((M.1 128 (Int32.toNatClampNeg n3)) - n2))], M)) rfl ⟨trivial, trivial⟩ ?_
      exact pw_ret hT rfl (r := some (pvI ((x1_ * (n1 - (M.1 127 (Int32.toNatClampNeg n3)))) + ((M.1 128 (Int32.toNatClampNeg n3)) - n2)))) (M' := M) ⟨rfl, rfl⟩ ⟨⟨_, rfl, (zr_wide b40_ (by decide) (by decide)), (zwy (congrArg Int32.toInt d8_) (by have u := b7_; omega) (by unfold zdst; split <;> omega) (by have u := b19_; omega) (by unfold zdst; split <;> omega) (by have u := b39_; omega))⟩, rfl⟩
  · refine pw_eqI (if_neg c15_) ?_
    have b42_ : 1 ≤ Int32.toInt (M.1 127 (Int32.toNatClampNeg n3)) ∧ Int32.toInt (M.1 127 (Int32.toNatClampNeg n3)) ≤ 3 := zr_nle_l 1 c15_ b9_ hn1 (by decide)
    have b43_ : 0 ≤ Int32.toInt n1 ∧ Int32.toInt n1 ≤ 2 := zr_nle_r 2 c15_ hn1 b42_ (by decide)
    have d44_ : Int32.toInt (M.1 127 (Int32.toNatClampNeg n3)) > Int32.toInt n1 := Int.not_le.mp ((not_congr (zi_le _ _)).mp c15_)
    obtain ⟨q46_, b45_⟩ : (Int32.toInt ((M.1 127 (Int32.toNatClampNeg n3)) - n1) = Int32.toInt (M.1 127 (Int32.toNatClampNeg n3)) - Int32.toInt n1) ∧ ((-1) ≤ Int32.toInt ((M.1 127 (Int32.toNatClampNeg n3)) - n1) ∧ Int32.toInt ((M.1 127 (Int32.toNatClampNeg n3)) - n1) ≤ 3) := zsub_r (M.1 127 (Int32.toNatClampNeg n3)) n1 (-1) 3 b42_ b43_ (by decide) (by decide) (by decide) (by decide)
    have b47_ : 1 ≤ Int32.toInt ((M.1 127 (Int32.toNatClampNeg n3)) - n1) ∧ Int32.toInt ((M.1 127 (Int32.toNatClampNeg n3)) - n1) ≤ 3 := (by have u0 := b45_; omega)
    show PW 95 d (17, [some (pvR 124), some (pvI n1), some (pvI n2), some (pvI n3)], [pvI ((M.1 127 (Int32.toNatClampNeg n3)) - n1), pvI x1_], M) _
    have b48_ : 0 ≤ Int32.toInt (x1_ * ((M.1 127 (Int32.toNatClampNeg n3)) - n1)) ∧ Int32.toInt (x1_ * ((M.1 127 (Int32.toNatClampNeg n3)) - n1)) ≤ 297 := (by have u := zmul_b x1_ ((M.1 127 (Int32.toNatClampNeg n3)) - n1) 99 3 (by have u0 := b7_; omega) (by have u0 := b47_; omega) (by decide); omega)
    have b49_ : 0 ≤ Int32.toInt (M.1 128 (Int32.toNatClampNeg n3)) ∧ Int32.toInt (M.1 128 (Int32.toNatClampNeg n3)) ≤ 4 := pvok_r hok 128 (Int32.toNatClampNeg n3) rfl
    refine pw_blk hT 7 (S' := (26, [some (pvR 124), some (pvI n1), some (pvI n2), some (pvI n3)], [pvI (M.1 128 (Int32.toNatClampNeg n3)), pvI n2, pvR 124, pvI (x1_ * ((M.1 127 (Int32.toNatClampNeg n3)) - n1))], M)) rfl ⟨trivial, trivial, trivial, trivial, rfl, trivial, ⟨rfl, (zr_in (n := 7) hn3 (by decide) (by decide))⟩, trivial⟩ ?_
    refine pw_callT hT (as := [pvR 124, pvI n2, pvI (M.1 128 (Int32.toNatClampNeg n3))]) (lo1 := [some (pvR 124), some (pvI n2), some (pvI (M.1 128 (Int32.toNatClampNeg n3)))]) (d1 := d) (rest := [pvI (x1_ * ((M.1 127 (Int32.toNatClampNeg n3)) - n1))]) rfl rfl rfl rfl rfl (fun _ => rfl) (Nat.zero_le _) rfl rfl rfl (sf_X10_apart_124_x_x M hok n2 (M.1 128 (Int32.toNatClampNeg n3)) hn2 b49_ d) ?_
    by_cases c55_ : (M.1 128 (Int32.toNatClampNeg n3)) ≤ n2
    · refine pw_eqI (if_pos c55_) ?_
      have d56_ : Int32.toInt (M.1 128 (Int32.toNatClampNeg n3)) ≤ Int32.toInt n2 := (zi_le _ _).mp c55_
      obtain ⟨q58_, b57_⟩ : (Int32.toInt (n2 - (M.1 128 (Int32.toNatClampNeg n3))) = Int32.toInt n2 - Int32.toInt (M.1 128 (Int32.toNatClampNeg n3))) ∧ ((-4) ≤ Int32.toInt (n2 - (M.1 128 (Int32.toNatClampNeg n3))) ∧ Int32.toInt (n2 - (M.1 128 (Int32.toNatClampNeg n3))) ≤ 4) := zsub_r n2 (M.1 128 (Int32.toNatClampNeg n3)) (-4) 4 hn2 b49_ (by decide) (by decide) (by decide) (by decide)
      have b59_ : 0 ≤ Int32.toInt (n2 - (M.1 128 (Int32.toNatClampNeg n3))) ∧ Int32.toInt (n2 - (M.1 128 (Int32.toNatClampNeg n3))) ≤ 4 := (by have u0 := b57_; omega)
      show PW 95 d (29, [some (pvR 124), some (pvI n1), some (pvI n2), some (pvI n3)], [pvI (n2 - (M.1 128 (Int32.toNatClampNeg n3))), pvI (x1_ * ((M.1 127 (Int32.toNatClampNeg n3)) - n1))], M) _
      obtain ⟨q61_, b60_⟩ : (Int32.toInt ((x1_ * ((M.1 127 (Int32.toNatClampNeg n3)) - n1)) + (n2 - (M.1 128 (Int32.toNatClampNeg n3)))) = Int32.toInt (x1_ * ((M.1 127 (Int32.toNatClampNeg n3)) - n1)) + Int32.toInt (n2 - (M.1 128 (Int32.toNatClampNeg n3)))) ∧ (0 ≤ Int32.toInt ((x1_ * ((M.1 127 (Int32.toNatClampNeg n3)) - n1)) + (n2 - (M.1 128 (Int32.toNatClampNeg n3)))) ∧ Int32.toInt ((x1_ * ((M.1 127 (Int32.toNatClampNeg n3)) - n1)) + (n2 - (M.1 128 (Int32.toNatClampNeg n3)))) ≤ 301) := zadd_r (x1_ * ((M.1 127 (Int32.toNatClampNeg n3)) - n1)) (n2 - (M.1 128 (Int32.toNatClampNeg n3))) 0 301 b48_ b59_ (by decide) (by decide) (by decide) (by decide)
      refine pw_blk hT 1 (S' := (30, [some (pvR 124), some (pvI n1), some (pvI n2), some (pvI n3)], [pvI ((x1_ * ((M.1 127 (Int32.toNatClampNeg n3)) - n1)) + (n2 - (M.1 128 (Int32.toNatClampNeg n3))))], M)) rfl ⟨trivial, trivial⟩ ?_
      exact pw_ret hT rfl (r := some (pvI ((x1_ * ((M.1 127 (Int32.toNatClampNeg n3)) - n1)) + (n2 - (M.1 128 (Int32.toNatClampNeg n3)))))) (M' := M) ⟨rfl, rfl⟩ ⟨⟨_, rfl, b60_, (zwy (congrArg Int32.toInt d8_) (by have u := b7_; omega) (by unfold zdst; split <;> omega) (by have u := b47_; omega) (by unfold zdst; split <;> omega) (by have u := b59_; omega))⟩, rfl⟩
    · refine pw_eqI (if_neg c55_) ?_
      have b62_ : 1 ≤ Int32.toInt (M.1 128 (Int32.toNatClampNeg n3)) ∧ Int32.toInt (M.1 128 (Int32.toNatClampNeg n3)) ≤ 4 := zr_nle_l 1 c55_ b49_ hn2 (by decide)
      have b63_ : 0 ≤ Int32.toInt n2 ∧ Int32.toInt n2 ≤ 3 := zr_nle_r 3 c55_ hn2 b62_ (by decide)
      have d64_ : Int32.toInt (M.1 128 (Int32.toNatClampNeg n3)) > Int32.toInt n2 := Int.not_le.mp ((not_congr (zi_le _ _)).mp c55_)
      obtain ⟨q66_, b65_⟩ : (Int32.toInt ((M.1 128 (Int32.toNatClampNeg n3)) - n2) = Int32.toInt (M.1 128 (Int32.toNatClampNeg n3)) - Int32.toInt n2) ∧ ((-2) ≤ Int32.toInt ((M.1 128 (Int32.toNatClampNeg n3)) - n2) ∧ Int32.toInt ((M.1 128 (Int32.toNatClampNeg n3)) - n2) ≤ 4) := zsub_r (M.1 128 (Int32.toNatClampNeg n3)) n2 (-2) 4 b62_ b63_ (by decide) (by decide) (by decide) (by decide)
      have b67_ : 1 ≤ Int32.toInt ((M.1 128 (Int32.toNatClampNeg n3)) - n2) ∧ Int32.toInt ((M.1 128 (Int32.toNatClampNeg n3)) - n2) ≤ 4 := (by have u0 := b65_; omega)
      show PW 95 d (29, [some (pvR 124), some (pvI n1), some (pvI n2), some (pvI n3)], [pvI ((M.1 128 (Int32.toNatClampNeg n3)) - n2), pvI (x1_ * ((M.1 127 (Int32.toNatClampNeg n3)) - n1))], M) _
      obtain ⟨q69_, b68_⟩ : (Int32.toInt ((x1_ * ((M.1 127 (Int32.toNatClampNeg n3)) - n1)) + ((M.1 128 (Int32.toNatClampNeg n3)) - n2)) = Int32.toInt (x1_ * ((M.1 127 (Int32.toNatClampNeg n3)) - n1)) + Int32.toInt ((M.1 128 (Int32.toNatClampNeg n3)) - n2)) ∧ (1 ≤ Int32.toInt ((x1_ * ((M.1 127 (Int32.toNatClampNeg n3)) - n1)) + ((M.1 128 (Int32.toNatClampNeg n3)) - n2)) ∧ Int32.toInt ((x1_ * ((M.1 127 (Int32.toNatClampNeg n3)) - n1)) + ((M.1 128 (Int32.toNatClampNeg n3)) - n2)) ≤ 301) := zadd_r (x1_ * ((M.1 127 (Int32.toNatClampNeg n3)) - n1)) ((M.1 128 (Int32.toNatClampNeg n3)) - n2) 1 301 b48_ b67_ (by decide) (by decide) (by decide) (by decide)
      refine pw_blk hT 1 (S' := (30, [some (pvR 124), some (pvI n1), some (pvI n2), some (pvI n3)], [pvI ((x1_ * ((M.1 127 (Int32.toNatClampNeg n3)) - n1)) + ((M.1 128 (Int32.toNatClampNeg n3)) - n2))], M)) rfl ⟨trivial, trivial⟩ ?_
      exact pw_ret hT rfl (r := some (pvI ((x1_ * ((M.1 127 (Int32.toNatClampNeg n3)) - n1)) + ((M.1 128 (Int32.toNatClampNeg n3)) - n2)))) (M' := M) ⟨rfl, rfl⟩ ⟨⟨_, rfl, (zr_wide b68_ (by decide) (by decide)), (zwy (congrArg Int32.toInt d8_) (by have u := b7_; omega) (by unfold zdst; split <;> omega) (by have u := b47_; omega) (by unfold zdst; split <;> omega) (by have u := b67_; omega))⟩, rfl⟩
def fpL_eX10_begin_124_x : List (Nat × Nat × Nat) := [(0, 124, 4), (0, 124, 33), (0, 124, 36), (0, 141, 0), (0, 142, 0), (0, 143, 0), (0, 144, 0)]
def fp_eX10_begin_124_x (q k : Nat) : Bool := pvfp fpL_eX10_begin_124_x q k
theorem fp_eX10_begin_124_x_fp_X10_costOfPath_124_x (a b : Nat) (h : fp_X10_costOfPath_124_x a b = true) : fp_eX10_begin_124_x a b = true := pvfp_sub (l1 := fpL_X10_costOfPath_124_x) (l2 := fpL_eX10_begin_124_x) (by decide) a b h
theorem fp_eX10_begin_124_x_fp_X10_layRain_124 (a b : Nat) (h : fp_X10_layRain_124 a b = true) : fp_eX10_begin_124_x a b = true := pvfp_sub (l1 := fpL_X10_layRain_124) (l2 := fpL_eX10_begin_124_x) (by decide) a b h
theorem fp_eX10_begin_124_x_fp_X10_layRound_124 (a b : Nat) (h : fp_X10_layRound_124 a b = true) : fp_eX10_begin_124_x a b = true := pvfp_sub (l1 := fpL_X10_layRound_124) (l2 := fpL_eX10_begin_124_x) (by decide) a b h
set_option maxHeartbeats 4000000 in
set_option maxRecDepth 10000 in
theorem se_X10_begin_124_x (M : pvM) (hok : pvOk M) (n1 : Int32) (hz : pvWF M) (d : Nat) : PW 8 d (0, [some (pvR 124), some (pvI n1), none, none, none, none], [], M) (fun r X => (∃ x : Int32, r = some (pvI x) ∧ (-1) ≤ Int32.toInt x ∧ Int32.toInt x ≤ 2147483647) ∧ pvOk X ∧ pvFr fp_eX10_begin_124_x M X ∧ X.1 124 3 = M.1 124 3) := by
  have hT : pvdom 8 = pvD_8 := rfl
  refine pw_blk hT 4 (S' := (4, [some (pvR 124), some (pvI n1), none, none, none, none], [pvI 1, pvI 0, pvI n1, pvR 124], M)) rfl ⟨trivial, trivial, trivial, trivial, trivial⟩ ?_
  refine pw_callT hT (as := [pvR 124, pvI n1, pvI 0, pvI 1]) (lo1 := [some (pvR 124), some (pvI n1), some (pvI 0), some (pvI 1)]) (d1 := d) (rest := []) rfl rfl rfl rfl rfl (fun _ => rfl) (Nat.zero_le _) rfl rfl rfl (sf_X10_in_124_x_x_x M hok n1 0 1 d) ?_
  by_cases c6_ : n1 < 0
  · refine pw_eqI (if_pos c6_) ?_
    have b7_ : (-2147483648) ≤ Int32.toInt n1 ∧ Int32.toInt n1 ≤ (-1) := zr_lt_l (-1) c6_ (zbnd n1) (show 0 ≤ Int32.toInt 0 ∧ Int32.toInt 0 ≤ 0 from (by decide)) (by decide)
    show PW 8 d (7, [some (pvR 124), some (pvI n1), none, none, none, none], [pvI 0], M) _
    refine pw_ifn hT (c := 0 = 0) rfl rfl (fun c8_ => absurd (by decide) c8_) (fun c8_ => ?_)
    refine pw_blk hT 1 (S' := (11, [some (pvR 124), some (pvI n1), none, none, none, none], [pvI (-1)], M)) rfl ⟨trivial, trivial⟩ ?_
    exact pw_ret hT rfl (r := some (pvI (-1))) (M' := M) ⟨rfl, rfl⟩ ⟨⟨_, rfl, (zr_wide (show (-1) ≤ Int32.toInt (-1) ∧ Int32.toInt (-1) ≤ (-1) from (by decide)) (by decide) (by decide))⟩, hok, pvfr_0, rfl⟩
  · refine pw_eqI (if_neg c6_) ?_
    have b9_ : 0 ≤ Int32.toInt n1 ∧ Int32.toInt n1 ≤ 2147483647 := zr_nlt_l 0 c6_ (zbnd n1) (show 0 ≤ Int32.toInt 0 ∧ Int32.toInt 0 ≤ 0 from (by decide)) (by decide)
    by_cases c10_ : 1 < n1
    · refine pw_eqI (if_pos c10_) ?_
      have b11_ : 2 ≤ Int32.toInt n1 ∧ Int32.toInt n1 ≤ 2147483647 := zr_lt_r 2 c10_ b9_ (show 1 ≤ Int32.toInt 1 ∧ Int32.toInt 1 ≤ 1 from (by decide)) (by decide)
      show PW 8 d (7, [some (pvR 124), some (pvI n1), none, none, none, none], [pvI 0], M) _
      refine pw_ifn hT (c := 0 = 0) rfl rfl (fun c12_ => absurd (by decide) c12_) (fun c12_ => ?_)
      refine pw_blk hT 1 (S' := (11, [some (pvR 124), some (pvI n1), none, none, none, none], [pvI (-1)], M)) rfl ⟨trivial, trivial⟩ ?_
      exact pw_ret hT rfl (r := some (pvI (-1))) (M' := M) ⟨rfl, rfl⟩ ⟨⟨_, rfl, (zr_wide (show (-1) ≤ Int32.toInt (-1) ∧ Int32.toInt (-1) ≤ (-1) from (by decide)) (by decide) (by decide))⟩, hok, pvfr_0, rfl⟩
    · refine pw_eqI (if_neg c10_) ?_
      have b13_ : 0 ≤ Int32.toInt n1 ∧ Int32.toInt n1 ≤ 1 := zr_nlt_r 1 c10_ b9_ (show 1 ≤ Int32.toInt 1 ∧ Int32.toInt 1 ≤ 1 from (by decide)) (by decide)
      show PW 8 d (7, [some (pvR 124), some (pvI n1), none, none, none, none], [pvI 1], M) _
      refine pw_ifn hT (c := 1 = 0) rfl rfl (fun c14_ => ?_) (fun c14_ => absurd c14_ (by decide))
      have b15_ : 0 ≤ Int32.toInt (M.1 124 3) ∧ Int32.toInt (M.1 124 3) ≤ 108 := pvok_r hok 124 3 rfl
      refine pw_blk hT 8 (S' := (23, [some (pvR 124), some (pvI n1), some (pvI (M.1 124 3)), some (pvI 0), some (pvI (-1)), none], [pvR 124], M)) rfl ⟨trivial, rfl, trivial, trivial, trivial, trivial, trivial, trivial, trivial⟩ ?_
      refine pw_callV hT (as := [pvR 124]) (lo1 := [some (pvR 124), none, none]) (d1 := d) (rest := []) rfl rfl rfl rfl rfl (fun _ => rfl) (Nat.zero_le _) rfl rfl rfl (sf_X10_layRain_124 M hok hz d) (fun M17_ o19_ g20_ => ?_)
      have f21_ : pvFr fp_eX10_begin_124_x M M17_ := pvfr_t g20_ pvfr_0 fp_eX10_begin_124_x_fp_X10_layRain_124
      refine pw_blk hT 1 (S' := (27, [some (pvR 124), some (pvI n1), some (pvI (M.1 124 3)), some (pvI 0), some (pvI (-1)), none], [pvR 124], M17_)) rfl ⟨trivial, trivial⟩ ?_
      refine pw_callV hT (as := [pvR 124]) (lo1 := [some (pvR 124), none]) (d1 := d) (rest := []) rfl rfl rfl rfl rfl (fun _ => rfl) (Nat.zero_le _) rfl rfl rfl (sf_X10_layRound_124 M17_ o19_ d) (fun M23_ o25_ g26_ => ?_)
      have f27_ : pvFr fp_eX10_begin_124_x M M23_ := pvfr_t g26_ f21_ fp_eX10_begin_124_x_fp_X10_layRound_124
      refine pw_blkw hT 3 (pc := 35) (lo := [some (pvR 124), some (pvI n1), some (pvI (M.1 124 3)), some (pvI 0), some (pvI (-1)), none]) (st := []) (M := pvu M23_ 124 3 0) rfl ⟨trivial, trivial, rfl, trivial⟩ (fun M28_ e29_ => ?_)
      have o30_ : pvOk M28_ := pvok_u2 e29_ o25_ rfl (zr_wide (show 0 ≤ Int32.toInt 0 ∧ Int32.toInt 0 ≤ 0 from (by decide)) (by decide) (by decide))
      have f31_ : pvFr fp_eX10_begin_124_x M M28_ := pvfr_u e29_ f27_ rfl
      have hlz160_ : ∀ (nz160_ : Nat) (i3z160_ : Int32) (i4z160_ : Int32) (v5z160_ : Option pvV) (Mz160_ : pvM), (pvOk Mz160_) → (pvFr fp_eX10_begin_124_x M Mz160_) → (0 ≤ Int32.toInt i3z160_ ∧ Int32.toInt i3z160_ ≤ 2147483647) → ((-1) ≤ Int32.toInt i4z160_ ∧ Int32.toInt i4z160_ ≤ 2147483647) → (zhide ((101 - Int32.toInt (Mz160_.1 124 3)).toNat < nz160_)) → PW 8 d (35, [some (pvR 124), some (pvI n1), some (pvI (M.1 124 3)), some (pvI i3z160_), some (pvI i4z160_), v5z160_], [], Mz160_) (fun r X => (∃ x : Int32, r = some (pvI x) ∧ (-1) ≤ Int32.toInt x ∧ Int32.toInt x ≤ 2147483647) ∧ pvOk X ∧ pvFr fp_eX10_begin_124_x M X ∧ X.1 124 3 = M.1 124 3) := by
        intro nz160_
        induction nz160_ with
        | zero => intro i3z160_ i4z160_ v5z160_ Mz160_ oz160_ fz160_ h3z160_ h4z160_ hmz160_; exact absurd (zshow hmz160_) (Nat.not_lt_zero _)
        | succ nz160_ ihz160_ =>
          intro i3z160_ i4z160_ v5z160_ Mz160_ oz160_ fz160_ h3z160_ h4z160_ hmz160_
          have b161_ : 0 ≤ Int32.toInt (Mz160_.1 124 3) ∧ Int32.toInt (Mz160_.1 124 3) ≤ 108 := pvok_r oz160_ 124 3 rfl
          refine pw_blk hT 3 (S' := (41, [some (pvR 124), some (pvI n1), some (pvI (M.1 124 3)), some (pvI i3z160_), some (pvI i4z160_), v5z160_], [pvI 100, pvI (Mz160_.1 124 3)], Mz160_)) rfl ⟨trivial, rfl, trivial, trivial⟩ ?_
          refine pw_ic hT (c := 100 ≤ (Mz160_.1 124 3)) rfl rfl (fun c162_ => ?_) (fun c162_ => ?_)
          · have b163_ : 100 ≤ Int32.toInt (Mz160_.1 124 3) ∧ Int32.toInt (Mz160_.1 124 3) ≤ 108 := zr_le_r 100 c162_ b161_ (show 100 ≤ Int32.toInt 100 ∧ Int32.toInt 100 ≤ 100 from (by decide)) (by decide)
            refine pw_blkw hT 3 (pc := 88) (lo := [some (pvR 124), some (pvI n1), some (pvI (M.1 124 3)), some (pvI i3z160_), some (pvI i4z160_), v5z160_]) (st := []) (M := pvu Mz160_ 124 3 (M.1 124 3)) rfl ⟨trivial, trivial, rfl, trivial⟩ (fun M164_ e165_ => ?_)
            have o166_ : pvOk M164_ := pvok_u2 e165_ oz160_ rfl b15_
            have f167_ : pvFr fp_eX10_begin_124_x M M164_ := pvfr_u e165_ fz160_ rfl
            refine pw_blk hT 1 (S' := (89, [some (pvR 124), some (pvI n1), some (pvI (M.1 124 3)), some (pvI i3z160_), some (pvI i4z160_), v5z160_], [pvI n1], M164_)) rfl ⟨trivial, trivial⟩ ?_
            refine pw_ifn hT (c := n1 = 0) rfl rfl (fun c168_ => ?_) (fun c168_ => ?_)
            · have b169_ : 1 ≤ Int32.toInt n1 ∧ Int32.toInt n1 ≤ 1 := (by have u0 := b13_; have u1 := (not_congr (zi_eq _ _)).mp c168_; have u2 := (show 0 ≤ Int32.toInt 0 ∧ Int32.toInt 0 ≤ 0 from (by decide)); omega)
              refine pw_blk hT 1 (S' := (98, [some (pvR 124), some (pvI n1), some (pvI (M.1 124 3)), some (pvI i3z160_), some (pvI i4z160_), v5z160_], [pvI i4z160_], M164_)) rfl ⟨trivial, trivial⟩ ?_
              exact pw_ret hT rfl (r := some (pvI i4z160_)) (M' := M164_) ⟨rfl, rfl⟩ ⟨⟨_, rfl, h4z160_⟩, o166_, f167_, (pvu_s e165_)⟩
            · have b170_ : 0 ≤ Int32.toInt n1 ∧ Int32.toInt n1 ≤ 0 := (by have u0 := b13_; have u1 := (zi_eq _ _).mp c168_; have u2 := (show 0 ≤ Int32.toInt 0 ∧ Int32.toInt 0 ≤ 0 from (by decide)); omega)
              refine pw_blk hT 2 (S' := (98, [some (pvR 124), some (pvI n1), some (pvI (M.1 124 3)), some (pvI i3z160_), some (pvI i4z160_), v5z160_], [pvI i3z160_], M164_)) rfl ⟨trivial, trivial, trivial⟩ ?_
              exact pw_ret hT rfl (r := some (pvI i3z160_)) (M' := M164_) ⟨rfl, rfl⟩ ⟨⟨_, rfl, (zr_wide h3z160_ (by decide) (by decide))⟩, o166_, f167_, (pvu_s e165_)⟩
          · have b171_ : 0 ≤ Int32.toInt (Mz160_.1 124 3) ∧ Int32.toInt (Mz160_.1 124 3) ≤ 99 := zr_nle_r 99 c162_ b161_ (show 100 ≤ Int32.toInt 100 ∧ Int32.toInt 100 ≤ 100 from (by decide)) (by decide)
            refine pw_blk hT 2 (S' := (46, [some (pvR 124), some (pvI n1), some (pvI (M.1 124 3)), some (pvI i3z160_), some (pvI i4z160_), v5z160_], [pvI 0, pvR 124], Mz160_)) rfl ⟨trivial, trivial, trivial⟩ ?_
            refine pw_callG hT (as := [pvR 124, pvI 0]) (lo1 := [some (pvR 124), some (pvI 0), none]) (d1 := d) (rest := []) rfl rfl rfl rfl rfl (fun _ => rfl) (Nat.zero_le _) rfl rfl rfl (sf_X10_costOfPath_124_x Mz160_ oz160_ 0 (zr_wide (show 0 ≤ Int32.toInt 0 ∧ Int32.toInt 0 ≤ 0 from (by decide)) (by decide) (by decide)) d) (fun x172_ M173_ b174_ o175_ g176_ => ?_)
            have f177_ : pvFr fp_eX10_begin_124_x M M173_ := pvfr_t g176_ fz160_ fp_eX10_begin_124_x_fp_X10_costOfPath_124_x
            refine pw_blk hT 3 (S' := (55, [some (pvR 124), some (pvI n1), some (pvI (M.1 124 3)), some (pvI i3z160_), some (pvI i4z160_), some (pvI x172_)], [pvI i4z160_, pvI x172_], M173_)) rfl ⟨trivial, trivial, trivial, trivial⟩ ?_
            refine pw_ic hT (c := i4z160_ < x172_) rfl rfl (fun c178_ => ?_) (fun c178_ => ?_)
            · have b179_ : (-1) ≤ Int32.toInt i4z160_ ∧ Int32.toInt i4z160_ ≤ 8999999 := zr_lt_l 8999999 c178_ h4z160_ b174_ (by decide)
              have d180_ : Int32.toInt i4z160_ < Int32.toInt x172_ := (zi_lt _ _).mp c178_
              have e181_ : (M173_.1 124 3) = (Mz160_.1 124 3) := (g176_ 124 3 rfl)
              have b182_ : 0 ≤ Int32.toInt (M173_.1 124 3) ∧ Int32.toInt (M173_.1 124 3) ≤ 99 := (by rw [e181_]; exact b171_)
              obtain ⟨q184_, b183_⟩ : (Int32.toInt ((M173_.1 124 3) + 1) = Int32.toInt (M173_.1 124 3) + 1) ∧ (1 ≤ Int32.toInt ((M173_.1 124 3) + 1) ∧ Int32.toInt ((M173_.1 124 3) + 1) ≤ 100) := zadd_k (M173_.1 124 3) 1 1 1 100 b182_ (by decide) (by decide) (by decide) (by decide) (by decide)
              refine pw_blkw hT 11 (pc := 80) (lo := [some (pvR 124), some (pvI n1), some (pvI (M.1 124 3)), some (pvI (M173_.1 124 3)), some (pvI x172_), some (pvI x172_)]) (st := []) (M := pvu M173_ 124 3 ((M173_.1 124 3) + 1)) rfl ⟨trivial, rfl, trivial, trivial, trivial, trivial, trivial, rfl, trivial, trivial, rfl, trivial⟩ (fun M185_ e186_ => ?_)
              have o187_ : pvOk M185_ := pvok_u2 e186_ o175_ rfl (zr_wide b183_ (by decide) (by decide))
              have f188_ : pvFr fp_eX10_begin_124_x M M185_ := pvfr_u e186_ f177_ rfl
              refine pw_blk hT 1 (S' := (35, [some (pvR 124), some (pvI n1), some (pvI (M.1 124 3)), some (pvI (M173_.1 124 3)), some (pvI x172_), some (pvI x172_)], [], M185_)) rfl ⟨trivial, trivial⟩ ?_
              exact ihz160_ (M173_.1 124 3) x172_ (some (pvI x172_)) M185_ o187_ f188_ (zr_wide b182_ (by decide) (by decide)) (zr_wide b174_ (by decide) (by decide)) (zhid (by have hm0 := zshow hmz160_; have z1 : Int32.toInt (M185_.1 124 3) = Int32.toInt ((M173_.1 124 3) + 1) := congrArg Int32.toInt (pvu_s e186_); have z2 : Int32.toInt (M173_.1 124 3) = Int32.toInt (Mz160_.1 124 3) := congrArg Int32.toInt (g176_ 124 3 rfl); omega))
            · have b189_ : 0 ≤ Int32.toInt i4z160_ ∧ Int32.toInt i4z160_ ≤ 2147483647 := zr_nlt_l 0 c178_ h4z160_ b174_ (by decide)
              have d190_ : Int32.toInt i4z160_ ≥ Int32.toInt x172_ := Int.not_lt.mp ((not_congr (zi_lt _ _)).mp c178_)
              have e191_ : (M173_.1 124 3) = (Mz160_.1 124 3) := (g176_ 124 3 rfl)
              have b192_ : 0 ≤ Int32.toInt (M173_.1 124 3) ∧ Int32.toInt (M173_.1 124 3) ≤ 99 := (by rw [e191_]; exact b171_)
              obtain ⟨q194_, b193_⟩ : (Int32.toInt ((M173_.1 124 3) + 1) = Int32.toInt (M173_.1 124 3) + 1) ∧ (1 ≤ Int32.toInt ((M173_.1 124 3) + 1) ∧ Int32.toInt ((M173_.1 124 3) + 1) ≤ 100) := zadd_k (M173_.1 124 3) 1 1 1 100 b192_ (by decide) (by decide) (by decide) (by decide) (by decide)
              refine pw_blkw hT 7 (pc := 80) (lo := [some (pvR 124), some (pvI n1), some (pvI (M.1 124 3)), some (pvI i3z160_), some (pvI i4z160_), some (pvI x172_)]) (st := []) (M := pvu M173_ 124 3 ((M173_.1 124 3) + 1)) rfl ⟨trivial, trivial, trivial, rfl, trivial, trivial, rfl, trivial⟩ (fun M195_ e196_ => ?_)
              have o197_ : pvOk M195_ := pvok_u2 e196_ o175_ rfl (zr_wide b193_ (by decide) (by decide))
              have f198_ : pvFr fp_eX10_begin_124_x M M195_ := pvfr_u e196_ f177_ rfl
              refine pw_blk hT 1 (S' := (35, [some (pvR 124), some (pvI n1), some (pvI (M.1 124 3)), some (pvI i3z160_), some (pvI i4z160_), some (pvI x172_)], [], M195_)) rfl ⟨trivial, trivial⟩ ?_
              exact ihz160_ i3z160_ i4z160_ (some (pvI x172_)) M195_ o197_ f198_ h3z160_ (zr_wide b189_ (by decide) (by decide)) (zhid (by have hm0 := zshow hmz160_; have z1 : Int32.toInt (M195_.1 124 3) = Int32.toInt ((M173_.1 124 3) + 1) := congrArg Int32.toInt (pvu_s e196_); have z2 : Int32.toInt (M173_.1 124 3) = Int32.toInt (Mz160_.1 124 3) := congrArg Int32.toInt (g176_ 124 3 rfl); omega))
      exact hlz160_ _ 0 (-1) none M28_ o30_ f31_ (zr_wide (show 0 ≤ Int32.toInt 0 ∧ Int32.toInt 0 ≤ 0 from (by decide)) (by decide) (by decide)) (zr_wide (show (-1) ≤ Int32.toInt (-1) ∧ Int32.toInt (-1) ≤ (-1) from (by decide)) (by decide) (by decide)) (zhid (Nat.lt_succ_self _))
def fpL_eX10_book_124_x_x : List (Nat × Nat × Nat) := [(0, 124, 44), (0, 149, 0), (0, 150, 0)]
def fp_eX10_book_124_x_x (q k : Nat) : Bool := pvfp fpL_eX10_book_124_x_x q k
set_option maxHeartbeats 4000000 in
set_option maxRecDepth 10000 in
theorem se_X10_book_124_x_x (M : pvM) (hok : pvOk M) (n1 : Int32) (n2 : Int32) (d : Nat) : PW 12 d (0, [some (pvR 124), some (pvI n1), some (pvI n2)], [], M) (fun r X => (∃ x : Int32, r = some (pvI x) ∧ ((-4) ≤ Int32.toInt x ∧ Int32.toInt x ≤ 8) ∧ x = (if n1 = (-1) then 0 else (if n1 < 0 then (-1) else (if ((M.1 124 0) - 1) < n1 then (-1) else (if n2 < 0 then (-2) else (if 9999 < n2 then (-2) else (if (M.1 124 43) = 8 then (-4) else ((M.1 124 43) + 1)))))))) ∧ pvOk X ∧ pvFr fp_eX10_book_124_x_x M X ∧ X.1 124 43 = (if n1 = (-1) then 0 else (if n1 < 0 then (M.1 124 43) else (if ((M.1 124 0) - 1) < n1 then (M.1 124 43) else (if n2 < 0 then (M.1 124 43) else (if 9999 < n2 then (M.1 124 43) else (if (M.1 124 43) = 8 then (M.1 124 43) else ((M.1 124 43) + 1)))))))) := by
  have hT : pvdom 12 = pvD_12 := rfl
  refine pw_blk hT 2 (S' := (2, [some (pvR 124), some (pvI n1), some (pvI n2)], [pvI (-1), pvI n1], M)) rfl ⟨trivial, trivial, trivial⟩ ?_
  refine pw_icn hT (c := n1 = (-1)) rfl rfl (fun c1_ => ?_) (fun c1_ => ?_)
  · refine pw_blk hT 2 (S' := (14, [some (pvR 124), some (pvI n1), some (pvI n2)], [pvI n1, pvR 124], M)) rfl ⟨trivial, trivial, trivial⟩ ?_
    refine pw_callT hT (as := [pvR 124, pvI n1]) (lo1 := [some (pvR 124), some (pvI n1)]) (d1 := d) (rest := []) rfl rfl rfl rfl rfl (fun _ => rfl) (Nat.zero_le _) rfl rfl rfl (sf_X10_isWindow_124_x M hok n1 d) ?_
    by_cases c7_ : n1 < 0
    · refine pw_eqI (if_pos c7_) ?_
      have b8_ : (-2147483648) ≤ Int32.toInt n1 ∧ Int32.toInt n1 ≤ (-2) := (by have u0 := (zbnd n1); have u9 := (show _ ∧ _ from ⟨(zi_lt _ _).mp c7_, (show 0 ≤ Int32.toInt 0 ∧ Int32.toInt 0 ≤ 0 from (by decide))⟩); have v1 := (not_congr (zi_eq _ _)).mp c1_; have w1 : ((-1) : Int32).toInt = -1 := (by decide); omega)
      show PW 12 d (17, [some (pvR 124), some (pvI n1), some (pvI n2)], [pvI 0], M) _
      refine pw_ifn hT (c := 0 = 0) rfl rfl (fun c9_ => absurd (by decide) c9_) (fun c9_ => ?_)
      refine pw_blk hT 1 (S' := (21, [some (pvR 124), some (pvI n1), some (pvI n2)], [pvI (-1)], M)) rfl ⟨trivial, trivial⟩ ?_
      exact pw_ret hT rfl (r := some (pvI (-1))) (M' := M) ⟨rfl, rfl⟩ ⟨⟨_, rfl, (zr_wide (show (-1) ≤ Int32.toInt (-1) ∧ Int32.toInt (-1) ≤ (-1) from (by decide)) (by decide) (by decide)), (by rw [if_neg c1_, if_pos c7_]; first | done | (rw [if_pos c7_]; done))⟩, hok, pvfr_0, (by rw [if_neg c1_, if_pos c7_]; first | done | exact rfl | (rw [if_pos c7_]; done) | (rw [if_pos c7_]; exact rfl))⟩
    · refine pw_eqI (if_neg c7_) ?_
      have b10_ : 0 ≤ Int32.toInt n1 ∧ Int32.toInt n1 ≤ 2147483647 := zr_nlt_l 0 c7_ (zbnd n1) (show 0 ≤ Int32.toInt 0 ∧ Int32.toInt 0 ≤ 0 from (by decide)) (by decide)
      have b11_ : 0 ≤ Int32.toInt (M.1 124 0) ∧ Int32.toInt (M.1 124 0) ≤ 7 := pvok_r hok 124 0 rfl
      obtain ⟨q13_, b12_⟩ : (Int32.toInt ((M.1 124 0) - 1) = Int32.toInt (M.1 124 0) - 1) ∧ ((-1) ≤ Int32.toInt ((M.1 124 0) - 1) ∧ Int32.toInt ((M.1 124 0) - 1) ≤ 6) := zsub_k (M.1 124 0) 1 1 (-1) 6 b11_ (by decide) (by decide) (by decide) (by decide) (by decide)
      by_cases c14_ : ((M.1 124 0) - 1) < n1
      · refine pw_eqI (if_pos c14_) ?_
        have d15_ : Int32.toInt ((M.1 124 0) - 1) < Int32.toInt n1 := (zi_lt _ _).mp c14_
        show PW 12 d (17, [some (pvR 124), some (pvI n1), some (pvI n2)], [pvI 0], M) _
        refine pw_ifn hT (c := 0 = 0) rfl rfl (fun c16_ => absurd (by decide) c16_) (fun c16_ => ?_)
        refine pw_blk hT 1 (S' := (21, [some (pvR 124), some (pvI n1), some (pvI n2)], [pvI (-1)], M)) rfl ⟨trivial, trivial⟩ ?_
        exact pw_ret hT rfl (r := some (pvI (-1))) (M' := M) ⟨rfl, rfl⟩ ⟨⟨_, rfl, (zr_wide (show (-1) ≤ Int32.toInt (-1) ∧ Int32.toInt (-1) ≤ (-1) from (by decide)) (by decide) (by decide)), (by rw [if_neg c1_, if_neg c7_, if_pos c14_]; first | done | (rw [if_pos c14_]; done))⟩, hok, pvfr_0, (by rw [if_neg c1_, if_neg c7_, if_pos c14_]; first | done | exact rfl | (rw [if_pos c14_]; done) | (rw [if_pos c14_]; exact rfl))⟩
      · refine pw_eqI (if_neg c14_) ?_
        have b17_ : 0 ≤ Int32.toInt ((M.1 124 0) - 1) ∧ Int32.toInt ((M.1 124 0) - 1) ≤ 6 := zr_nlt_l 0 c14_ b12_ b10_ (by decide)
        have b18_ : 0 ≤ Int32.toInt n1 ∧ Int32.toInt n1 ≤ 6 := zr_nlt_r 6 c14_ b10_ b17_ (by decide)
        have d19_ : Int32.toInt ((M.1 124 0) - 1) ≥ Int32.toInt n1 := Int.not_lt.mp ((not_congr (zi_lt _ _)).mp c14_)
        show PW 12 d (17, [some (pvR 124), some (pvI n1), some (pvI n2)], [pvI 1], M) _
        refine pw_ifn hT (c := 1 = 0) rfl rfl (fun c20_ => ?_) (fun c20_ => absurd c20_ (by decide))
        refine pw_blk hT 4 (S' := (28, [some (pvR 124), some (pvI n1), some (pvI n2)], [pvI 9999, pvI 0, pvI n2, pvR 124], M)) rfl ⟨trivial, trivial, trivial, trivial, trivial⟩ ?_
        refine pw_callT hT (as := [pvR 124, pvI n2, pvI 0, pvI 9999]) (lo1 := [some (pvR 124), some (pvI n2), some (pvI 0), some (pvI 9999)]) (d1 := d) (rest := []) rfl rfl rfl rfl rfl (fun _ => rfl) (Nat.zero_le _) rfl rfl rfl (sf_X10_in_124_x_x_x M hok n2 0 9999 d) ?_
        by_cases c26_ : n2 < 0
        · refine pw_eqI (if_pos c26_) ?_
          have b27_ : (-2147483648) ≤ Int32.toInt n2 ∧ Int32.toInt n2 ≤ (-1) := zr_lt_l (-1) c26_ (zbnd n2) (show 0 ≤ Int32.toInt 0 ∧ Int32.toInt 0 ≤ 0 from (by decide)) (by decide)
          show PW 12 d (31, [some (pvR 124), some (pvI n1), some (pvI n2)], [pvI 0], M) _
          refine pw_ifn hT (c := 0 = 0) rfl rfl (fun c28_ => absurd (by decide) c28_) (fun c28_ => ?_)
          refine pw_blk hT 1 (S' := (36, [some (pvR 124), some (pvI n1), some (pvI n2)], [pvI (-2)], M)) rfl ⟨trivial, trivial⟩ ?_
          exact pw_ret hT rfl (r := some (pvI (-2))) (M' := M) ⟨rfl, rfl⟩ ⟨⟨_, rfl, (zr_wide (show (-2) ≤ Int32.toInt (-2) ∧ Int32.toInt (-2) ≤ (-2) from (by decide)) (by decide) (by decide)), (by rw [if_neg c1_, if_neg c7_, if_neg c14_, if_pos c26_]; first | done | (rw [if_pos c26_]; done))⟩, hok, pvfr_0, (by rw [if_neg c1_, if_neg c7_, if_neg c14_, if_pos c26_]; first | done | exact rfl | (rw [if_pos c26_]; done) | (rw [if_pos c26_]; exact rfl))⟩
        · refine pw_eqI (if_neg c26_) ?_
          have b29_ : 0 ≤ Int32.toInt n2 ∧ Int32.toInt n2 ≤ 2147483647 := zr_nlt_l 0 c26_ (zbnd n2) (show 0 ≤ Int32.toInt 0 ∧ Int32.toInt 0 ≤ 0 from (by decide)) (by decide)
          by_cases c30_ : 9999 < n2
          · refine pw_eqI (if_pos c30_) ?_
            have b31_ : 10000 ≤ Int32.toInt n2 ∧ Int32.toInt n2 ≤ 2147483647 := zr_lt_r 10000 c30_ b29_ (show 9999 ≤ Int32.toInt 9999 ∧ Int32.toInt 9999 ≤ 9999 from (by decide)) (by decide)
            show PW 12 d (31, [some (pvR 124), some (pvI n1), some (pvI n2)], [pvI 0], M) _
            refine pw_ifn hT (c := 0 = 0) rfl rfl (fun c32_ => absurd (by decide) c32_) (fun c32_ => ?_)
            refine pw_blk hT 1 (S' := (36, [some (pvR 124), some (pvI n1), some (pvI n2)], [pvI (-2)], M)) rfl ⟨trivial, trivial⟩ ?_
            exact pw_ret hT rfl (r := some (pvI (-2))) (M' := M) ⟨rfl, rfl⟩ ⟨⟨_, rfl, (zr_wide (show (-2) ≤ Int32.toInt (-2) ∧ Int32.toInt (-2) ≤ (-2) from (by decide)) (by decide) (by decide)), (by rw [if_neg c1_, if_neg c7_, if_neg c14_, if_neg c26_, if_pos c30_]; first | done | (rw [if_pos c30_]; done))⟩, hok, pvfr_0, (by rw [if_neg c1_, if_neg c7_, if_neg c14_, if_neg c26_, if_pos c30_]; first | done | exact rfl | (rw [if_pos c30_]; done) | (rw [if_pos c30_]; exact rfl))⟩
          · refine pw_eqI (if_neg c30_) ?_
            have b33_ : 0 ≤ Int32.toInt n2 ∧ Int32.toInt n2 ≤ 9999 := zr_nlt_r 9999 c30_ b29_ (show 9999 ≤ Int32.toInt 9999 ∧ Int32.toInt 9999 ≤ 9999 from (by decide)) (by decide)
            show PW 12 d (31, [some (pvR 124), some (pvI n1), some (pvI n2)], [pvI 1], M) _
            refine pw_ifn hT (c := 1 = 0) rfl rfl (fun c34_ => ?_) (fun c34_ => absurd c34_ (by decide))
            have b35_ : 0 ≤ Int32.toInt (M.1 124 43) ∧ Int32.toInt (M.1 124 43) ≤ 8 := pvok_r hok 124 43 rfl
            refine pw_blk hT 3 (S' := (43, [some (pvR 124), some (pvI n1), some (pvI n2)], [pvI 8, pvI (M.1 124 43)], M)) rfl ⟨trivial, rfl, trivial, trivial⟩ ?_
            refine pw_icn hT (c := (M.1 124 43) = 8) rfl rfl (fun c36_ => ?_) (fun c36_ => ?_)
            · have b37_ : 0 ≤ Int32.toInt (M.1 124 43) ∧ Int32.toInt (M.1 124 43) ≤ 7 := (by have u0 := b35_; have u1 := (not_congr (zi_eq _ _)).mp c36_; have u2 := (show 8 ≤ Int32.toInt 8 ∧ Int32.toInt 8 ≤ 8 from (by decide)); omega)
              refine pw_blkw hT 6 (pc := 59) (lo := [some (pvR 124), some (pvI n1), some (pvI n2)]) (st := []) (M := pvu M 149 (Int32.toNatClampNeg (M.1 124 43)) n1) rfl ⟨trivial, rfl, trivial, rfl, trivial, ⟨rfl, (zr_in (n := 8) b37_ (by decide) (by decide))⟩, trivial⟩ (fun M38_ e39_ => ?_)
              have o40_ : pvOk M38_ := pvok_u2 e39_ hok rfl b18_
              have f41_ : pvFr fp_eX10_book_124_x_x M M38_ := pvfr_u e39_ pvfr_0 rfl
              have e42_ : (M38_.1 124 43) = (M.1 124 43) := (pvu_n e39_ 124 43 (Or.inl (by decide)))
              have b43_ : 0 ≤ Int32.toInt (M38_.1 124 43) ∧ Int32.toInt (M38_.1 124 43) ≤ 7 := (by rw [e42_]; exact b37_)
              refine pw_blkw hT 6 (pc := 69) (lo := [some (pvR 124), some (pvI n1), some (pvI n2)]) (st := []) (M := pvu M38_ 150 (Int32.toNatClampNeg (M38_.1 124 43)) n2) rfl ⟨trivial, rfl, trivial, rfl, trivial, ⟨rfl, (zr_in (n := 8) b43_ (by decide) (by decide))⟩, trivial⟩ (fun M44_ e45_ => ?_)
              have o46_ : pvOk M44_ := pvok_u2 e45_ o40_ rfl b33_
              have f47_ : pvFr fp_eX10_book_124_x_x M M44_ := pvfr_u e45_ f41_ rfl
              have e48_ : (M44_.1 124 43) = (M38_.1 124 43) := (pvu_n e45_ 124 43 (Or.inl (by decide)))
              have b49_ : 0 ≤ Int32.toInt (M44_.1 124 43) ∧ Int32.toInt (M44_.1 124 43) ≤ 7 := (by rw [e48_]; exact b43_)
              obtain ⟨q51_, b50_⟩ : (Int32.toInt ((M44_.1 124 43) + 1) = Int32.toInt (M44_.1 124 43) + 1) ∧ (1 ≤ Int32.toInt ((M44_.1 124 43) + 1) ∧ Int32.toInt ((M44_.1 124 43) + 1) ≤ 8) := zadd_k (M44_.1 124 43) 1 1 1 8 b49_ (by decide) (by decide) (by decide) (by decide) (by decide)
              refine pw_blkw hT 6 (pc := 79) (lo := [some (pvR 124), some (pvI n1), some (pvI n2)]) (st := []) (M := pvu M44_ 124 43 ((M44_.1 124 43) + 1)) rfl ⟨trivial, trivial, rfl, trivial, trivial, rfl, trivial⟩ (fun M52_ e53_ => ?_)
              have o54_ : pvOk M52_ := pvok_u2 e53_ o46_ rfl (zr_wide b50_ (by decide) (by decide))
              have f55_ : pvFr fp_eX10_book_124_x_x M M52_ := pvfr_u e53_ f47_ rfl
              have e56_ : (M52_.1 124 43) = ((M44_.1 124 43) + 1) := (pvu_s e53_)
              have b57_ : 1 ≤ Int32.toInt (M52_.1 124 43) ∧ Int32.toInt (M52_.1 124 43) ≤ 8 := (by rw [e56_]; exact b50_)
              refine pw_blk hT 2 (S' := (83, [some (pvR 124), some (pvI n1), some (pvI n2)], [pvI (M52_.1 124 43)], M52_)) rfl ⟨trivial, rfl, trivial⟩ ?_
              exact pw_ret hT rfl (r := some (pvI (M52_.1 124 43))) (M' := M52_) ⟨rfl, rfl⟩ ⟨⟨_, rfl, (zr_wide b57_ (by decide) (by decide)), (by rw [if_neg c1_, if_neg c7_, if_neg c14_, if_neg c26_, if_neg c30_, if_neg c36_]; first | done | exact (show (M52_.1 124 43) = ((M.1 124 43) + 1) from by rw [((pvu_s e53_).trans (show ((M44_.1 124 43) + 1) = ((M.1 124 43) + 1) from by rw [((pvu_n e45_ 124 43 (Or.inl (by decide))).trans (pvu_n e39_ 124 43 (Or.inl (by decide))))]))]) | (rw [if_neg c36_]; exact (show (M52_.1 124 43) = ((M.1 124 43) + 1) from by rw [((pvu_s e53_).trans (show ((M44_.1 124 43) + 1) = ((M.1 124 43) + 1) from by rw [((pvu_n e45_ 124 43 (Or.inl (by decide))).trans (pvu_n e39_ 124 43 (Or.inl (by decide))))]))])))⟩, o54_, f55_, (by rw [if_neg c1_, if_neg c7_, if_neg c14_, if_neg c26_, if_neg c30_, if_neg c36_]; first | done | exact ((pvu_s e53_).trans (show ((M44_.1 124 43) + 1) = ((M.1 124 43) + 1) from by rw [((pvu_n e45_ 124 43 (Or.inl (by decide))).trans (pvu_n e39_ 124 43 (Or.inl (by decide))))])) | (rw [if_neg c36_]; done) | (rw [if_neg c36_]; exact ((pvu_s e53_).trans (show ((M44_.1 124 43) + 1) = ((M.1 124 43) + 1) from by rw [((pvu_n e45_ 124 43 (Or.inl (by decide))).trans (pvu_n e39_ 124 43 (Or.inl (by decide))))]))))⟩
            · have b58_ : 8 ≤ Int32.toInt (M.1 124 43) ∧ Int32.toInt (M.1 124 43) ≤ 8 := (by have u0 := b35_; have u1 := (zi_eq _ _).mp c36_; have u2 := (show 8 ≤ Int32.toInt 8 ∧ Int32.toInt 8 ≤ 8 from (by decide)); omega)
              refine pw_blk hT 1 (S' := (48, [some (pvR 124), some (pvI n1), some (pvI n2)], [pvI (-4)], M)) rfl ⟨trivial, trivial⟩ ?_
              exact pw_ret hT rfl (r := some (pvI (-4))) (M' := M) ⟨rfl, rfl⟩ ⟨⟨_, rfl, (zr_wide (show (-4) ≤ Int32.toInt (-4) ∧ Int32.toInt (-4) ≤ (-4) from (by decide)) (by decide) (by decide)), (by rw [if_neg c1_, if_neg c7_, if_neg c14_, if_neg c26_, if_neg c30_, if_pos c36_]; first | done | (rw [if_pos c36_]; done))⟩, hok, pvfr_0, (by rw [if_neg c1_, if_neg c7_, if_neg c14_, if_neg c26_, if_neg c30_, if_pos c36_]; first | done | exact rfl | (rw [if_pos c36_]; done) | (rw [if_pos c36_]; exact rfl))⟩
  · have b59_ : (-1) ≤ Int32.toInt n1 ∧ Int32.toInt n1 ≤ (-1) := (by have u0 := (zbnd n1); have u1 := (zi_eq _ _).mp c1_; have u2 := (show (-1) ≤ Int32.toInt (-1) ∧ Int32.toInt (-1) ≤ (-1) from (by decide)); omega)
    refine pw_blkw hT 3 (pc := 10) (lo := [some (pvR 124), some (pvI n1), some (pvI n2)]) (st := []) (M := pvu M 124 43 0) rfl ⟨trivial, trivial, rfl, trivial⟩ (fun M60_ e61_ => ?_)
    have o62_ : pvOk M60_ := pvok_u2 e61_ hok rfl (zr_wide (show 0 ≤ Int32.toInt 0 ∧ Int32.toInt 0 ≤ 0 from (by decide)) (by decide) (by decide))
    have f63_ : pvFr fp_eX10_book_124_x_x M M60_ := pvfr_u e61_ pvfr_0 rfl
    refine pw_blk hT 1 (S' := (11, [some (pvR 124), some (pvI n1), some (pvI n2)], [pvI 0], M60_)) rfl ⟨trivial, trivial⟩ ?_
    exact pw_ret hT rfl (r := some (pvI 0)) (M' := M60_) ⟨rfl, rfl⟩ ⟨⟨_, rfl, (zr_wide (show 0 ≤ Int32.toInt 0 ∧ Int32.toInt 0 ≤ 0 from (by decide)) (by decide) (by decide)), (by rw [if_pos c1_]; first | done | (rw [if_pos c1_]; done))⟩, o62_, f63_, (by rw [if_pos c1_]; first | done | exact (pvu_s e61_) | (rw [if_pos c1_]; done) | (rw [if_pos c1_]; exact (pvu_s e61_)))⟩
set_option maxHeartbeats 4000000 in
set_option maxRecDepth 10000 in
theorem se_X10_count_124_x (M : pvM) (hok : pvOk M) (n1 : Int32) (d : Nat) : PW 16 d (0, [some (pvR 124), some (pvI n1)], [], M) (fun r X => r = some (pvI ((if n1 = 0 then (M.1 124 0) else (if n1 = 1 then (M.1 124 14) else (if n1 = 2 then (M.1 124 37) else (if n1 = 3 then (M.1 124 40) else (if n1 = 4 then (M.1 124 43) else (if n1 = 5 then (M.1 124 16) else (if n1 = 6 then (M.1 124 70) else (-2)))))))))) ∧ X = M) := by
  have hT : pvdom 16 = pvD_16 := rfl
  refine pw_blk hT 1 (S' := (1, [some (pvR 124), some (pvI n1)], [pvI n1], M)) rfl ⟨trivial, trivial⟩ ?_
  refine pw_sw hT rfl rfl ?_
  refine And.intro (fun c1_ => ?_) (fun c1_ => ?_)
  · show PW 16 d (44, [some (pvR 124), some (pvI n1)], [], M) _
    have b2_ : 0 ≤ Int32.toInt n1 ∧ Int32.toInt n1 ≤ 0 := (by have u0 := (zbnd n1); have u1 := (zi_eq _ _).mp c1_; have u2 := (show 0 ≤ Int32.toInt 0 ∧ Int32.toInt 0 ≤ 0 from (by decide)); omega)
    have b3_ : 0 ≤ Int32.toInt (M.1 124 0) ∧ Int32.toInt (M.1 124 0) ≤ 7 := pvok_r hok 124 0 rfl
    refine pw_blk hT 2 (S' := (48, [some (pvR 124), some (pvI n1)], [pvI (M.1 124 0)], M)) rfl ⟨trivial, rfl, trivial⟩ ?_
    exact pw_ret hT rfl (r := some (pvI (M.1 124 0))) (M' := M) ⟨rfl, rfl⟩ ⟨(by rw [if_pos c1_]; first | done | (rw [if_pos c1_]; done)), rfl⟩
  · refine And.intro (fun c4_ => ?_) (fun c4_ => ?_)
    · show PW 16 d (49, [some (pvR 124), some (pvI n1)], [], M) _
      have b5_ : 1 ≤ Int32.toInt n1 ∧ Int32.toInt n1 ≤ 1 := (by have u0 := (zbnd n1); have u1 := (zi_eq _ _).mp c4_; have u2 := (show 1 ≤ Int32.toInt 1 ∧ Int32.toInt 1 ≤ 1 from (by decide)); omega)
      have b6_ : 0 ≤ Int32.toInt (M.1 124 14) ∧ Int32.toInt (M.1 124 14) ≤ 6 := pvok_r hok 124 14 rfl
      refine pw_blk hT 2 (S' := (53, [some (pvR 124), some (pvI n1)], [pvI (M.1 124 14)], M)) rfl ⟨trivial, rfl, trivial⟩ ?_
      exact pw_ret hT rfl (r := some (pvI (M.1 124 14))) (M' := M) ⟨rfl, rfl⟩ ⟨(by rw [if_neg c1_, if_pos c4_]; first | done | (rw [if_pos c4_]; done)), rfl⟩
    · refine And.intro (fun c7_ => ?_) (fun c7_ => ?_)
      · show PW 16 d (54, [some (pvR 124), some (pvI n1)], [], M) _
        have b8_ : 2 ≤ Int32.toInt n1 ∧ Int32.toInt n1 ≤ 2 := (by have u0 := (zbnd n1); have u1 := (zi_eq _ _).mp c7_; have u2 := (show 2 ≤ Int32.toInt 2 ∧ Int32.toInt 2 ≤ 2 from (by decide)); omega)
        have b9_ : 0 ≤ Int32.toInt (M.1 124 37) ∧ Int32.toInt (M.1 124 37) ≤ 7 := pvok_r hok 124 37 rfl
        refine pw_blk hT 2 (S' := (58, [some (pvR 124), some (pvI n1)], [pvI (M.1 124 37)], M)) rfl ⟨trivial, rfl, trivial⟩ ?_
        exact pw_ret hT rfl (r := some (pvI (M.1 124 37))) (M' := M) ⟨rfl, rfl⟩ ⟨(by rw [if_neg c1_, if_neg c4_, if_pos c7_]; first | done | (rw [if_pos c7_]; done)), rfl⟩
      · refine And.intro (fun c10_ => ?_) (fun c10_ => ?_)
        · show PW 16 d (59, [some (pvR 124), some (pvI n1)], [], M) _
          have b11_ : 3 ≤ Int32.toInt n1 ∧ Int32.toInt n1 ≤ 3 := (by have u0 := (zbnd n1); have u1 := (zi_eq _ _).mp c10_; have u2 := (show 3 ≤ Int32.toInt 3 ∧ Int32.toInt 3 ≤ 3 from (by decide)); omega)
          have b12_ : 0 ≤ Int32.toInt (M.1 124 40) ∧ Int32.toInt (M.1 124 40) ≤ 6 := pvok_r hok 124 40 rfl
          refine pw_blk hT 2 (S' := (63, [some (pvR 124), some (pvI n1)], [pvI (M.1 124 40)], M)) rfl ⟨trivial, rfl, trivial⟩ ?_
          exact pw_ret hT rfl (r := some (pvI (M.1 124 40))) (M' := M) ⟨rfl, rfl⟩ ⟨(by rw [if_neg c1_, if_neg c4_, if_neg c7_, if_pos c10_]; first | done | (rw [if_pos c10_]; done)), rfl⟩
        · refine And.intro (fun c13_ => ?_) (fun c13_ => ?_)
          · show PW 16 d (64, [some (pvR 124), some (pvI n1)], [], M) _
            have b14_ : 4 ≤ Int32.toInt n1 ∧ Int32.toInt n1 ≤ 4 := (by have u0 := (zbnd n1); have u1 := (zi_eq _ _).mp c13_; have u2 := (show 4 ≤ Int32.toInt 4 ∧ Int32.toInt 4 ≤ 4 from (by decide)); omega)
            have b15_ : 0 ≤ Int32.toInt (M.1 124 43) ∧ Int32.toInt (M.1 124 43) ≤ 8 := pvok_r hok 124 43 rfl
            refine pw_blk hT 2 (S' := (68, [some (pvR 124), some (pvI n1)], [pvI (M.1 124 43)], M)) rfl ⟨trivial, rfl, trivial⟩ ?_
            exact pw_ret hT rfl (r := some (pvI (M.1 124 43))) (M' := M) ⟨rfl, rfl⟩ ⟨(by rw [if_neg c1_, if_neg c4_, if_neg c7_, if_neg c10_, if_pos c13_]; first | done | (rw [if_pos c13_]; done)), rfl⟩
          · refine And.intro (fun c16_ => ?_) (fun c16_ => ?_)
            · show PW 16 d (69, [some (pvR 124), some (pvI n1)], [], M) _
              have b17_ : 5 ≤ Int32.toInt n1 ∧ Int32.toInt n1 ≤ 5 := (by have u0 := (zbnd n1); have u1 := (zi_eq _ _).mp c16_; have u2 := (show 5 ≤ Int32.toInt 5 ∧ Int32.toInt 5 ≤ 5 from (by decide)); omega)
              have b18_ : 0 ≤ Int32.toInt (M.1 124 16) ∧ Int32.toInt (M.1 124 16) ≤ 100 := pvok_r hok 124 16 rfl
              refine pw_blk hT 2 (S' := (73, [some (pvR 124), some (pvI n1)], [pvI (M.1 124 16)], M)) rfl ⟨trivial, rfl, trivial⟩ ?_
              exact pw_ret hT rfl (r := some (pvI (M.1 124 16))) (M' := M) ⟨rfl, rfl⟩ ⟨(by rw [if_neg c1_, if_neg c4_, if_neg c7_, if_neg c10_, if_neg c13_, if_pos c16_]; first | done | (rw [if_pos c16_]; done)), rfl⟩
            · refine And.intro (fun c19_ => ?_) (fun c19_ => ?_)
              · show PW 16 d (74, [some (pvR 124), some (pvI n1)], [], M) _
                have b20_ : 6 ≤ Int32.toInt n1 ∧ Int32.toInt n1 ≤ 6 := (by have u0 := (zbnd n1); have u1 := (zi_eq _ _).mp c19_; have u2 := (show 6 ≤ Int32.toInt 6 ∧ Int32.toInt 6 ≤ 6 from (by decide)); omega)
                have b21_ : 0 ≤ Int32.toInt (M.1 124 70) ∧ Int32.toInt (M.1 124 70) ≤ 1000000 := pvok_r hok 124 70 rfl
                refine pw_blk hT 2 (S' := (78, [some (pvR 124), some (pvI n1)], [pvI (M.1 124 70)], M)) rfl ⟨trivial, rfl, trivial⟩ ?_
                exact pw_ret hT rfl (r := some (pvI (M.1 124 70))) (M' := M) ⟨rfl, rfl⟩ ⟨(by rw [if_neg c1_, if_neg c4_, if_neg c7_, if_neg c10_, if_neg c13_, if_neg c16_, if_pos c19_]; first | done | (rw [if_pos c19_]; done)), rfl⟩
              · show PW 16 d (79, [some (pvR 124), some (pvI n1)], [], M) _
                refine pw_blk hT 1 (S' := (81, [some (pvR 124), some (pvI n1)], [pvI (-2)], M)) rfl ⟨trivial, trivial⟩ ?_
                exact pw_ret hT rfl (r := some (pvI (-2))) (M' := M) ⟨rfl, rfl⟩ ⟨(by rw [if_neg c1_, if_neg c4_, if_neg c7_, if_neg c10_, if_neg c13_, if_neg c16_, if_neg c19_]; first | done | (rw [if_neg c19_]; done)), rfl⟩
def fpL_eX10_emits_124_x : List (Nat × Nat × Nat) := [(0, 124, 28), (0, 138, 0)]
def fp_eX10_emits_124_x (q k : Nat) : Bool := pvfp fpL_eX10_emits_124_x q k
set_option maxHeartbeats 4000000 in
set_option maxRecDepth 10000 in
theorem se_X10_emits_124_x (M : pvM) (hok : pvOk M) (n1 : Int32) (hn1 : (-128) ≤ Int32.toInt n1 ∧ Int32.toInt n1 ≤ 5999) (hs : Int32.toInt (M.1 124 27) ≤ 599 ∧ 0 ≤ Int32.toInt (M.1 124 27)) (d : Nat) : PW 18 d (0, [some (pvR 124), some (pvI n1)], [], M) (fun r X => r = none ∧ pvOk X ∧ pvFr fp_eX10_emits_124_x M X ∧ X = zpe M n1) := by
  have hT : pvdom 18 = pvD_18 := rfl
  have b1_ : 0 ≤ Int32.toInt (M.1 124 27) ∧ Int32.toInt (M.1 124 27) ≤ 600 := pvok_r hok 124 27 rfl
  refine pw_blkw hT 6 (pc := 10) (lo := [some (pvR 124), some (pvI n1)]) (st := []) (M := pvu M 138 (Int32.toNatClampNeg (M.1 124 27)) n1) rfl ⟨trivial, rfl, trivial, rfl, trivial, ⟨rfl, (vp_in_iff.mpr (show 0 ≤ Int32.toInt (M.1 124 27) ∧ Int32.toInt (M.1 124 27) < ((600 : Nat) : Int) from (by have u0 := b1_; omega)))⟩, trivial⟩ (fun M2_ e3_ => ?_)
  have o4_ : pvOk M2_ := pvok_u2 e3_ hok rfl hn1
  have f5_ : pvFr fp_eX10_emits_124_x M M2_ := pvfr_u e3_ pvfr_0 rfl
  have e6_ : (M2_.1 124 27) = (M.1 124 27) := (pvu_n e3_ 124 27 (Or.inl (by decide)))
  have b7_ : 0 ≤ Int32.toInt (M2_.1 124 27) ∧ Int32.toInt (M2_.1 124 27) ≤ 600 := pvok_r o4_ 124 27 rfl
  have d8_ : Int32.toInt (M2_.1 124 27) = Int32.toInt (M.1 124 27) := congrArg Int32.toInt e6_
  obtain ⟨q10_, b9_⟩ : (Int32.toInt ((M2_.1 124 27) + 1) = Int32.toInt (M2_.1 124 27) + 1) ∧ (1 ≤ Int32.toInt ((M2_.1 124 27) + 1) ∧ Int32.toInt ((M2_.1 124 27) + 1) ≤ 601) := zadd_k (M2_.1 124 27) 1 1 1 601 b7_ (by decide) (by decide) (by decide) (by decide) (by decide)
  refine pw_blkw hT 6 (pc := 20) (lo := [some (pvR 124), some (pvI n1)]) (st := []) (M := pvu M2_ 124 27 ((M2_.1 124 27) + 1)) rfl ⟨trivial, trivial, rfl, trivial, trivial, rfl, trivial⟩ (fun M11_ e12_ => ?_)
  have o13_ : pvOk M11_ := pvok_u2 e12_ o4_ rfl (by have u0 := b9_; omega)
  have f14_ : pvFr fp_eX10_emits_124_x M M11_ := pvfr_u e12_ f5_ rfl
  have e15_ : (M11_.1 124 27) = ((M2_.1 124 27) + 1) := (pvu_s e12_)
  have b16_ : 1 ≤ Int32.toInt (M11_.1 124 27) ∧ Int32.toInt (M11_.1 124 27) ≤ 600 := (by rw [e15_]; exact (by have u0 := b9_; omega))
  have d17_ : Int32.toInt (M11_.1 124 27) = Int32.toInt ((M2_.1 124 27) + 1) := congrArg Int32.toInt e15_
  exact pw_ret hT rfl (r := none) (M' := M11_) ⟨rfl, rfl⟩ ⟨rfl, o13_, f14_, (by have z : M2_.1 124 27 = M.1 124 27 := pvu_n e3_ 124 27 (Or.inl (by decide)); rw [e12_, z, e3_, zpe])⟩
def fpL_eX10_feed_124_x : List (Nat × Nat × Nat) := [(0, 124, 17), (0, 132, 0)]
def fp_eX10_feed_124_x (q k : Nat) : Bool := pvfp fpL_eX10_feed_124_x q k
set_option maxHeartbeats 4000000 in
set_option maxRecDepth 10000 in
theorem se_X10_feed_124_x (M : pvM) (hok : pvOk M) (n1 : Int32) (d : Nat) : PW 20 d (0, [some (pvR 124), some (pvI n1)], [], M) (fun r X => (∃ x : Int32, r = some (pvI x) ∧ (-4) ≤ Int32.toInt x ∧ Int32.toInt x ≤ 100) ∧ pvOk X ∧ pvFr fp_eX10_feed_124_x M X ∧ zFd 124 14 124 16 132 n1 r M X) := by
  have hT : pvdom 20 = pvD_20 := rfl
  refine pw_blk hT 4 (S' := (5, [some (pvR 124), some (pvI n1)], [pvI 127, pvI 0, pvI n1, pvR 124], M)) rfl ⟨trivial, trivial, trivial, trivial, trivial⟩ ?_
  refine pw_callT hT (as := [pvR 124, pvI n1, pvI 0, pvI 127]) (lo1 := [some (pvR 124), some (pvI n1), some (pvI 0), some (pvI 127)]) (d1 := d) (rest := []) rfl rfl rfl rfl rfl (fun _ => rfl) (Nat.zero_le _) rfl rfl rfl (sf_X10_in_124_x_x_x M hok n1 0 127 d) ?_
  by_cases c6_ : n1 < 0
  · refine pw_eqI (if_pos c6_) ?_
    have b7_ : (-2147483648) ≤ Int32.toInt n1 ∧ Int32.toInt n1 ≤ (-1) := zr_lt_l (-1) c6_ (zbnd n1) (show 0 ≤ Int32.toInt 0 ∧ Int32.toInt 0 ≤ 0 from (by decide)) (by decide)
    show PW 20 d (8, [some (pvR 124), some (pvI n1)], [pvI 0], M) _
    refine pw_ifn hT (c := 0 = 0) rfl rfl (fun c8_ => absurd (by decide) c8_) (fun c8_ => ?_)
    refine pw_blk hT 1 (S' := (13, [some (pvR 124), some (pvI n1)], [pvI (-2)], M)) rfl ⟨trivial, trivial⟩ ?_
    exact pw_ret hT rfl (r := some (pvI (-2))) (M' := M) ⟨rfl, rfl⟩ ⟨⟨_, rfl, (zr_wide (show (-2) ≤ Int32.toInt (-2) ∧ Int32.toInt (-2) ≤ (-2) from (by decide)) (by decide) (by decide))⟩, hok, pvfr_0, (Or.inl ⟨Or.inl c6_, rfl, zKx_r 124 14 124 16 132 M⟩)⟩
  · refine pw_eqI (if_neg c6_) ?_
    have b9_ : 0 ≤ Int32.toInt n1 ∧ Int32.toInt n1 ≤ 2147483647 := zr_nlt_l 0 c6_ (zbnd n1) (show 0 ≤ Int32.toInt 0 ∧ Int32.toInt 0 ≤ 0 from (by decide)) (by decide)
    by_cases c10_ : 127 < n1
    · refine pw_eqI (if_pos c10_) ?_
      have b11_ : 128 ≤ Int32.toInt n1 ∧ Int32.toInt n1 ≤ 2147483647 := zr_lt_r 128 c10_ b9_ (show 127 ≤ Int32.toInt 127 ∧ Int32.toInt 127 ≤ 127 from (by decide)) (by decide)
      show PW 20 d (8, [some (pvR 124), some (pvI n1)], [pvI 0], M) _
      refine pw_ifn hT (c := 0 = 0) rfl rfl (fun c12_ => absurd (by decide) c12_) (fun c12_ => ?_)
      refine pw_blk hT 1 (S' := (13, [some (pvR 124), some (pvI n1)], [pvI (-2)], M)) rfl ⟨trivial, trivial⟩ ?_
      exact pw_ret hT rfl (r := some (pvI (-2))) (M' := M) ⟨rfl, rfl⟩ ⟨⟨_, rfl, (zr_wide (show (-2) ≤ Int32.toInt (-2) ∧ Int32.toInt (-2) ≤ (-2) from (by decide)) (by decide) (by decide))⟩, hok, pvfr_0, (Or.inl ⟨Or.inr c10_, rfl, zKx_r 124 14 124 16 132 M⟩)⟩
    · refine pw_eqI (if_neg c10_) ?_
      have b13_ : 0 ≤ Int32.toInt n1 ∧ Int32.toInt n1 ≤ 127 := zr_nlt_r 127 c10_ b9_ (show 127 ≤ Int32.toInt 127 ∧ Int32.toInt 127 ≤ 127 from (by decide)) (by decide)
      show PW 20 d (8, [some (pvR 124), some (pvI n1)], [pvI 1], M) _
      refine pw_ifn hT (c := 1 = 0) rfl rfl (fun c14_ => ?_) (fun c14_ => absurd c14_ (by decide))
      have b15_ : 0 ≤ Int32.toInt (M.1 124 16) ∧ Int32.toInt (M.1 124 16) ≤ 100 := pvok_r hok 124 16 rfl
      refine pw_blk hT 3 (S' := (20, [some (pvR 124), some (pvI n1)], [pvI 100, pvI (M.1 124 16)], M)) rfl ⟨trivial, rfl, trivial, trivial⟩ ?_
      refine pw_icn hT (c := (M.1 124 16) = 100) rfl rfl (fun c16_ => ?_) (fun c16_ => ?_)
      · have b17_ : 0 ≤ Int32.toInt (M.1 124 16) ∧ Int32.toInt (M.1 124 16) ≤ 99 := (by have u0 := b15_; have u1 := (not_congr (zi_eq _ _)).mp c16_; have u2 := (show 100 ≤ Int32.toInt 100 ∧ Int32.toInt 100 ≤ 100 from (by decide)); omega)
        refine pw_blkw hT 6 (pc := 36) (lo := [some (pvR 124), some (pvI n1)]) (st := []) (M := pvu M 132 (Int32.toNatClampNeg (M.1 124 16)) n1) rfl ⟨trivial, rfl, trivial, rfl, trivial, ⟨rfl, (zr_in (n := 100) b17_ (by decide) (by decide))⟩, trivial⟩ (fun M18_ e19_ => ?_)
        have o20_ : pvOk M18_ := pvok_u2 e19_ hok rfl b13_
        have f21_ : pvFr fp_eX10_feed_124_x M M18_ := pvfr_u e19_ pvfr_0 rfl
        have e22_ : (M18_.1 124 16) = (M.1 124 16) := (pvu_n e19_ 124 16 (Or.inl (by decide)))
        have b23_ : 0 ≤ Int32.toInt (M18_.1 124 16) ∧ Int32.toInt (M18_.1 124 16) ≤ 99 := (by rw [e22_]; exact b17_)
        obtain ⟨q25_, b24_⟩ : (Int32.toInt ((M18_.1 124 16) + 1) = Int32.toInt (M18_.1 124 16) + 1) ∧ (1 ≤ Int32.toInt ((M18_.1 124 16) + 1) ∧ Int32.toInt ((M18_.1 124 16) + 1) ≤ 100) := zadd_k (M18_.1 124 16) 1 1 1 100 b23_ (by decide) (by decide) (by decide) (by decide) (by decide)
        refine pw_blkw hT 6 (pc := 46) (lo := [some (pvR 124), some (pvI n1)]) (st := []) (M := pvu M18_ 124 16 ((M18_.1 124 16) + 1)) rfl ⟨trivial, trivial, rfl, trivial, trivial, rfl, trivial⟩ (fun M26_ e27_ => ?_)
        have o28_ : pvOk M26_ := pvok_u2 e27_ o20_ rfl (zr_wide b24_ (by decide) (by decide))
        have f29_ : pvFr fp_eX10_feed_124_x M M26_ := pvfr_u e27_ f21_ rfl
        have e30_ : (M26_.1 124 16) = ((M18_.1 124 16) + 1) := (pvu_s e27_)
        have b31_ : 1 ≤ Int32.toInt (M26_.1 124 16) ∧ Int32.toInt (M26_.1 124 16) ≤ 100 := (by rw [e30_]; exact b24_)
        refine pw_blk hT 2 (S' := (50, [some (pvR 124), some (pvI n1)], [pvI (M26_.1 124 16)], M26_)) rfl ⟨trivial, rfl, trivial⟩ ?_
        exact pw_ret hT rfl (r := some (pvI (M26_.1 124 16))) (M' := M26_) ⟨rfl, rfl⟩ ⟨⟨_, rfl, (zr_wide b31_ (by decide) (by decide))⟩, o28_, f29_, (zFd_u (fun z => z.elim c6_ c10_) (by have u := b17_; omega) (by decide) (by decide) (Or.inr (by decide)) e19_ e27_)⟩
      · have b32_ : 100 ≤ Int32.toInt (M.1 124 16) ∧ Int32.toInt (M.1 124 16) ≤ 100 := (by have u0 := b15_; have u1 := (zi_eq _ _).mp c16_; have u2 := (show 100 ≤ Int32.toInt 100 ∧ Int32.toInt 100 ≤ 100 from (by decide)); omega)
        refine pw_blk hT 1 (S' := (25, [some (pvR 124), some (pvI n1)], [pvI (-4)], M)) rfl ⟨trivial, trivial⟩ ?_
        exact pw_ret hT rfl (r := some (pvI (-4))) (M' := M) ⟨rfl, rfl⟩ ⟨⟨_, rfl, (zr_wide (show (-4) ≤ Int32.toInt (-4) ∧ Int32.toInt (-4) ≤ (-4) from (by decide)) (by decide) (by decide))⟩, hok, pvfr_0, (Or.inr (Or.inl ⟨(fun z => z.elim c6_ c10_), (by have u := b32_; omega), rfl, zKx_r 124 14 124 16 132 M⟩))⟩
def fpL_eX10_from_124 : List (Nat × Nat × Nat) := [(0, 124, 33), (0, 124, 5), (0, 141, 0), (0, 142, 0), (0, 143, 0)]
def fp_eX10_from_124 (q k : Nat) : Bool := pvfp fpL_eX10_from_124 q k
theorem fp_eX10_from_124_fp_X10_layOpen_124 (a b : Nat) (h : fp_X10_layOpen_124 a b = true) : fp_eX10_from_124 a b = true := pvfp_sub (l1 := fpL_X10_layOpen_124) (l2 := fpL_eX10_from_124) (by decide) a b h
theorem fp_eX10_from_124_fp_X10_layRain_124 (a b : Nat) (h : fp_X10_layRain_124 a b = true) : fp_eX10_from_124 a b = true := pvfp_sub (l1 := fpL_X10_layRain_124) (l2 := fpL_eX10_from_124) (by decide) a b h
set_option maxHeartbeats 4000000 in
set_option maxRecDepth 10000 in
theorem se_X10_from_124 (M : pvM) (hok : pvOk M) (hz : pvWF M) (d : Nat) : PW 22 d (0, [some (pvR 124), none, none, none, none], [], M) (fun r X => (∃ x : Int32, r = some (pvI x) ∧ True) ∧ pvOk X ∧ pvFr fp_eX10_from_124 M X ∧ X.1 124 4 = M.1 124 4) := by
  have hT : pvdom 22 = pvD_22 := rfl
  have b1_ : 0 ≤ Int32.toInt (M.1 124 4) ∧ Int32.toInt (M.1 124 4) ≤ 4 := pvok_r hok 124 4 rfl
  refine pw_blk hT 6 (S' := (8, [some (pvR 124), some (pvI (M.1 124 4)), some (pvI 0), none, none], [pvR 124], M)) rfl ⟨trivial, rfl, trivial, trivial, trivial, trivial, trivial⟩ ?_
  refine pw_callV hT (as := [pvR 124]) (lo1 := [some (pvR 124), none]) (d1 := d) (rest := []) rfl rfl rfl rfl rfl (fun _ => rfl) (Nat.zero_le _) rfl rfl rfl (sf_X10_layOpen_124 M hok d) (fun M3_ o5_ g6_ => ?_)
  have f7_ : pvFr fp_eX10_from_124 M M3_ := pvfr_t g6_ pvfr_0 fp_eX10_from_124_fp_X10_layOpen_124
  refine pw_blkw hT 3 (pc := 16) (lo := [some (pvR 124), some (pvI (M.1 124 4)), some (pvI 0), none, none]) (st := []) (M := pvu M3_ 124 4 0) rfl ⟨trivial, trivial, rfl, trivial⟩ (fun M8_ e9_ => ?_)
  have o10_ : pvOk M8_ := pvok_u2 e9_ o5_ rfl (zr_wide (show 0 ≤ Int32.toInt 0 ∧ Int32.toInt 0 ≤ 0 from (by decide)) (by decide) (by decide))
  have f11_ : pvFr fp_eX10_from_124 M M8_ := pvfr_u e9_ f7_ rfl
  have hlz553_ : ∀ (nz553_ : Nat) (i2z553_ : Int32) (v3z553_ : Option pvV) (v4z553_ : Option pvV) (Mz553_ : pvM), (pvOk Mz553_) → (pvFr fp_eX10_from_124 M Mz553_) → (zhide ((5 - Int32.toInt (Mz553_.1 124 4)).toNat < nz553_)) → PW 22 d (16, [some (pvR 124), some (pvI (M.1 124 4)), some (pvI i2z553_), v3z553_, v4z553_], [], Mz553_) (fun r X => (∃ x : Int32, r = some (pvI x) ∧ True) ∧ pvOk X ∧ pvFr fp_eX10_from_124 M X ∧ X.1 124 4 = M.1 124 4) := by
    intro nz553_
    induction nz553_ with
    | zero => intro i2z553_ v3z553_ v4z553_ Mz553_ oz553_ fz553_ hmz553_; exact absurd (zshow hmz553_) (Nat.not_lt_zero _)
    | succ nz553_ ihz553_ =>
      intro i2z553_ v3z553_ v4z553_ Mz553_ oz553_ fz553_ hmz553_
      have b554_ : 0 ≤ Int32.toInt (Mz553_.1 124 4) ∧ Int32.toInt (Mz553_.1 124 4) ≤ 4 := pvok_r oz553_ 124 4 rfl
      refine pw_blk hT 3 (S' := (21, [some (pvR 124), some (pvI (M.1 124 4)), some (pvI i2z553_), v3z553_, v4z553_], [pvI 4, pvI (Mz553_.1 124 4)], Mz553_)) rfl ⟨trivial, rfl, trivial, trivial⟩ ?_
      refine pw_ic hT (c := 4 ≤ (Mz553_.1 124 4)) rfl rfl (fun c555_ => ?_) (fun c555_ => ?_)
      · have b556_ : 4 ≤ Int32.toInt (Mz553_.1 124 4) ∧ Int32.toInt (Mz553_.1 124 4) ≤ 4 := zr_le_r 4 c555_ b554_ (show 4 ≤ Int32.toInt 4 ∧ Int32.toInt 4 ≤ 4 from (by decide)) (by decide)
        refine pw_blkw hT 3 (pc := 114) (lo := [some (pvR 124), some (pvI (M.1 124 4)), some (pvI i2z553_), v3z553_, v4z553_]) (st := []) (M := pvu Mz553_ 124 4 (M.1 124 4)) rfl ⟨trivial, trivial, rfl, trivial⟩ (fun M557_ e558_ => ?_)
        have o559_ : pvOk M557_ := pvok_u2 e558_ oz553_ rfl b1_
        have f560_ : pvFr fp_eX10_from_124 M M557_ := pvfr_u e558_ fz553_ rfl
        refine pw_blk hT 1 (S' := (115, [some (pvR 124), some (pvI (M.1 124 4)), some (pvI i2z553_), v3z553_, v4z553_], [pvI i2z553_], M557_)) rfl ⟨trivial, trivial⟩ ?_
        exact pw_ret hT rfl (r := some (pvI i2z553_)) (M' := M557_) ⟨rfl, rfl⟩ ⟨⟨_, rfl, trivial⟩, o559_, f560_, (pvu_s e558_)⟩
      · have b561_ : 0 ≤ Int32.toInt (Mz553_.1 124 4) ∧ Int32.toInt (Mz553_.1 124 4) ≤ 3 := zr_nle_r 3 c555_ b554_ (show 4 ≤ Int32.toInt 4 ∧ Int32.toInt 4 ≤ 4 from (by decide)) (by decide)
        refine pw_blk hT 1 (S' := (25, [some (pvR 124), some (pvI (M.1 124 4)), some (pvI i2z553_), v3z553_, v4z553_], [pvR 124], Mz553_)) rfl ⟨trivial, trivial⟩ ?_
        refine pw_callV hT (as := [pvR 124]) (lo1 := [some (pvR 124), none, none]) (d1 := d) (rest := []) rfl rfl rfl rfl rfl (fun _ => rfl) (Nat.zero_le _) rfl rfl rfl (sf_X10_layRain_124 Mz553_ oz553_ (pvWF_fr (L := fpL_eX10_from_124) rfl fz553_ hz) d) (fun M563_ o565_ g566_ => ?_)
        have f567_ : pvFr fp_eX10_from_124 M M563_ := pvfr_t g566_ fz553_ fp_eX10_from_124_fp_X10_layRain_124
        refine pw_blk hT 4 (S' := (33, [some (pvR 124), some (pvI (M.1 124 4)), some (pvI i2z553_), some (pvI 1), some (pvI 0)], [], M563_)) rfl ⟨trivial, trivial, trivial, trivial, trivial⟩ ?_
        have e568_ : (M563_.1 124 4) = (Mz553_.1 124 4) := (g566_ 124 4 rfl)
        have b569_ : 0 ≤ Int32.toInt (M563_.1 124 4) ∧ Int32.toInt (M563_.1 124 4) ≤ 3 := (by rw [e568_]; exact b561_)
        have hlz689_ : ∀ (nz689_ : Nat) (i3z689_ : Int32) (i4z689_ : Int32), (0 ≤ Int32.toInt i3z689_ ∧ Int32.toInt i3z689_ ≤ 1) → (0 ≤ Int32.toInt i4z689_ ∧ Int32.toInt i4z689_ ≤ 6) → (zhide ((7 - Int32.toInt i4z689_).toNat < nz689_)) → PW 22 d (33, [some (pvR 124), some (pvI (M.1 124 4)), some (pvI i2z553_), some (pvI i3z689_), some (pvI i4z689_)], [], M563_) (fun r X => (∃ x : Int32, r = some (pvI x) ∧ True) ∧ pvOk X ∧ pvFr fp_eX10_from_124 M X ∧ X.1 124 4 = M.1 124 4) := by
          intro nz689_
          induction nz689_ with
          | zero => intro i3z689_ i4z689_ h3z689_ h4z689_ hmz689_; exact absurd (zshow hmz689_) (Nat.not_lt_zero _)
          | succ nz689_ ihz689_ =>
            intro i3z689_ i4z689_ h3z689_ h4z689_ hmz689_
            have b690_ : 0 ≤ Int32.toInt (M563_.1 124 40) ∧ Int32.toInt (M563_.1 124 40) ≤ 6 := pvok_r o565_ 124 40 rfl
            refine pw_blk hT 3 (S' := (39, [some (pvR 124), some (pvI (M.1 124 4)), some (pvI i2z553_), some (pvI i3z689_), some (pvI i4z689_)], [pvI (M563_.1 124 40), pvI i4z689_], M563_)) rfl ⟨trivial, trivial, rfl, trivial⟩ ?_
            refine pw_ic hT (c := (M563_.1 124 40) ≤ i4z689_) rfl rfl (fun c691_ => ?_) (fun c691_ => ?_)
            · have d692_ : Int32.toInt (M563_.1 124 40) ≤ Int32.toInt i4z689_ := (zi_le _ _).mp c691_
              refine pw_blk hT 2 (S' := (81, [some (pvR 124), some (pvI (M.1 124 4)), some (pvI i2z553_), some (pvI i3z689_), some (pvI i4z689_)], [pvI i3z689_, pvI i2z553_], M563_)) rfl ⟨trivial, trivial, trivial⟩ ?_
              refine pw_if hT (c := i3z689_ = 0) rfl rfl (fun c693_ => ?_) (fun c693_ => ?_)
              · have b694_ : 0 ≤ Int32.toInt i3z689_ ∧ Int32.toInt i3z689_ ≤ 0 := (by have u0 := h3z689_; have u1 := (zi_eq _ _).mp c693_; have u2 := (show 0 ≤ Int32.toInt 0 ∧ Int32.toInt 0 ≤ 0 from (by decide)); omega)
                obtain ⟨q696_, b695_⟩ : (Int32.toInt ((M563_.1 124 4) + 1) = Int32.toInt (M563_.1 124 4) + 1) ∧ (1 ≤ Int32.toInt ((M563_.1 124 4) + 1) ∧ Int32.toInt ((M563_.1 124 4) + 1) ≤ 4) := zadd_k (M563_.1 124 4) 1 1 1 4 b569_ (by decide) (by decide) (by decide) (by decide) (by decide)
                refine pw_blkw hT 9 (pc := 106) (lo := [some (pvR 124), some (pvI (M.1 124 4)), some (pvI (i2z553_ ||| 0)), some (pvI i3z689_), some (pvI i4z689_)]) (st := []) (M := pvu M563_ 124 4 ((M563_.1 124 4) + 1)) rfl ⟨trivial, trivial, trivial, trivial, trivial, rfl, trivial, trivial, rfl, trivial⟩ (fun M697_ e698_ => ?_)
                have o699_ : pvOk M697_ := pvok_u2 e698_ o565_ rfl (zr_wide b695_ (by decide) (by decide))
                have f700_ : pvFr fp_eX10_from_124 M M697_ := pvfr_u e698_ f567_ rfl
                refine pw_blk hT 1 (S' := (16, [some (pvR 124), some (pvI (M.1 124 4)), some (pvI (i2z553_ ||| 0)), some (pvI i3z689_), some (pvI i4z689_)], [], M697_)) rfl ⟨trivial, trivial⟩ ?_
                exact ihz553_ (i2z553_ ||| 0) (some (pvI i3z689_)) (some (pvI i4z689_)) M697_ o699_ f700_ (zhid (by have hm0 := zshow hmz553_; have z1 : Int32.toInt (M697_.1 124 4) = Int32.toInt ((M563_.1 124 4) + 1) := congrArg Int32.toInt (pvu_s e698_); have z2 : Int32.toInt (M563_.1 124 4) = Int32.toInt (Mz553_.1 124 4) := congrArg Int32.toInt (g566_ 124 4 rfl); omega))
              · have b701_ : 1 ≤ Int32.toInt i3z689_ ∧ Int32.toInt i3z689_ ≤ 1 := (by have u0 := h3z689_; have u1 := (not_congr (zi_eq _ _)).mp c693_; have u2 := (show 0 ≤ Int32.toInt 0 ∧ Int32.toInt 0 ≤ 0 from (by decide)); omega)
                obtain ⟨q703_, b702_⟩ : (Int32.toInt ((M563_.1 124 4) + 1) = Int32.toInt (M563_.1 124 4) + 1) ∧ (1 ≤ Int32.toInt ((M563_.1 124 4) + 1) ∧ Int32.toInt ((M563_.1 124 4) + 1) ≤ 4) := zadd_k (M563_.1 124 4) 1 1 1 4 b569_ (by decide) (by decide) (by decide) (by decide) (by decide)
                refine pw_blkw hT 13 (pc := 106) (lo := [some (pvR 124), some (pvI (M.1 124 4)), some (pvI (i2z553_ ||| (1 <<< ((M563_.1 124 4) &&& 31)))), some (pvI i3z689_), some (pvI i4z689_)]) (st := []) (M := pvu M563_ 124 4 ((M563_.1 124 4) + 1)) rfl ⟨trivial, trivial, rfl, trivial, trivial, trivial, trivial, trivial, trivial, rfl, trivial, trivial, rfl, trivial⟩ (fun M704_ e705_ => ?_)
                have o706_ : pvOk M704_ := pvok_u2 e705_ o565_ rfl (zr_wide b702_ (by decide) (by decide))
                have f707_ : pvFr fp_eX10_from_124 M M704_ := pvfr_u e705_ f567_ rfl
                refine pw_blk hT 1 (S' := (16, [some (pvR 124), some (pvI (M.1 124 4)), some (pvI (i2z553_ ||| (1 <<< ((M563_.1 124 4) &&& 31)))), some (pvI i3z689_), some (pvI i4z689_)], [], M704_)) rfl ⟨trivial, trivial⟩ ?_
                exact ihz553_ (i2z553_ ||| (1 <<< ((M563_.1 124 4) &&& 31))) (some (pvI i3z689_)) (some (pvI i4z689_)) M704_ o706_ f707_ (zhid (by have hm0 := zshow hmz553_; have z1 : Int32.toInt (M704_.1 124 4) = Int32.toInt ((M563_.1 124 4) + 1) := congrArg Int32.toInt (pvu_s e705_); have z2 : Int32.toInt (M563_.1 124 4) = Int32.toInt (Mz553_.1 124 4) := congrArg Int32.toInt (g566_ 124 4 rfl); omega))
            · have b708_ : 1 ≤ Int32.toInt (M563_.1 124 40) ∧ Int32.toInt (M563_.1 124 40) ≤ 6 := zr_nle_l 1 c691_ b690_ h4z689_ (by decide)
              have b709_ : 0 ≤ Int32.toInt i4z689_ ∧ Int32.toInt i4z689_ ≤ 5 := zr_nle_r 5 c691_ h4z689_ b708_ (by decide)
              have d710_ : Int32.toInt (M563_.1 124 40) > Int32.toInt i4z689_ := Int.not_le.mp ((not_congr (zi_le _ _)).mp c691_)
              refine pw_blk hT 1 (S' := (43, [some (pvR 124), some (pvI (M.1 124 4)), some (pvI i2z553_), some (pvI i3z689_), some (pvI i4z689_)], [pvI i3z689_], M563_)) rfl ⟨trivial, trivial⟩ ?_
              refine pw_if hT (c := i3z689_ = 0) rfl rfl (fun c711_ => ?_) (fun c711_ => ?_)
              · have b712_ : 0 ≤ Int32.toInt i3z689_ ∧ Int32.toInt i3z689_ ≤ 0 := (by have u0 := h3z689_; have u1 := (zi_eq _ _).mp c711_; have u2 := (show 0 ≤ Int32.toInt 0 ∧ Int32.toInt 0 ≤ 0 from (by decide)); omega)
                refine pw_blk hT 2 (S' := (81, [some (pvR 124), some (pvI (M.1 124 4)), some (pvI i2z553_), some (pvI i3z689_), some (pvI i4z689_)], [pvI i3z689_, pvI i2z553_], M563_)) rfl ⟨trivial, trivial, trivial⟩ ?_
                refine pw_if hT (c := i3z689_ = 0) rfl rfl (fun c713_ => ?_) (fun c713_ => absurd c711_ c713_)
                obtain ⟨q715_, b714_⟩ : (Int32.toInt ((M563_.1 124 4) + 1) = Int32.toInt (M563_.1 124 4) + 1) ∧ (1 ≤ Int32.toInt ((M563_.1 124 4) + 1) ∧ Int32.toInt ((M563_.1 124 4) + 1) ≤ 4) := zadd_k (M563_.1 124 4) 1 1 1 4 b569_ (by decide) (by decide) (by decide) (by decide) (by decide)
                refine pw_blkw hT 9 (pc := 106) (lo := [some (pvR 124), some (pvI (M.1 124 4)), some (pvI (i2z553_ ||| 0)), some (pvI i3z689_), some (pvI i4z689_)]) (st := []) (M := pvu M563_ 124 4 ((M563_.1 124 4) + 1)) rfl ⟨trivial, trivial, trivial, trivial, trivial, rfl, trivial, trivial, rfl, trivial⟩ (fun M716_ e717_ => ?_)
                have o718_ : pvOk M716_ := pvok_u2 e717_ o565_ rfl (zr_wide b714_ (by decide) (by decide))
                have f719_ : pvFr fp_eX10_from_124 M M716_ := pvfr_u e717_ f567_ rfl
                refine pw_blk hT 1 (S' := (16, [some (pvR 124), some (pvI (M.1 124 4)), some (pvI (i2z553_ ||| 0)), some (pvI i3z689_), some (pvI i4z689_)], [], M716_)) rfl ⟨trivial, trivial⟩ ?_
                exact ihz553_ (i2z553_ ||| 0) (some (pvI i3z689_)) (some (pvI i4z689_)) M716_ o718_ f719_ (zhid (by have hm0 := zshow hmz553_; have z1 : Int32.toInt (M716_.1 124 4) = Int32.toInt ((M563_.1 124 4) + 1) := congrArg Int32.toInt (pvu_s e717_); have z2 : Int32.toInt (M563_.1 124 4) = Int32.toInt (Mz553_.1 124 4) := congrArg Int32.toInt (g566_ 124 4 rfl); omega))
              · have b720_ : 1 ≤ Int32.toInt i3z689_ ∧ Int32.toInt i3z689_ ≤ 1 := (by have u0 := h3z689_; have u1 := (not_congr (zi_eq _ _)).mp c711_; have u2 := (show 0 ≤ Int32.toInt 0 ∧ Int32.toInt 0 ≤ 0 from (by decide)); omega)
                have b721_ : 0 ≤ Int32.toInt (M563_.1 147 (Int32.toNatClampNeg i4z689_)) ∧ Int32.toInt (M563_.1 147 (Int32.toNatClampNeg i4z689_)) ≤ 6 := pvok_r o565_ 147 (Int32.toNatClampNeg i4z689_) rfl
                refine pw_blk hT 5 (S' := (54, [some (pvR 124), some (pvI (M.1 124 4)), some (pvI i2z553_), some (pvI i3z689_), some (pvI i4z689_)], [pvI (M563_.1 147 (Int32.toNatClampNeg i4z689_)), pvR 124], M563_)) rfl ⟨trivial, trivial, rfl, trivial, ⟨rfl, (zr_in (n := 6) b709_ (by decide) (by decide))⟩, trivial⟩ ?_
                refine pw_callGp hT (as := [pvR 124, pvI (M563_.1 147 (Int32.toNatClampNeg i4z689_))]) (lo1 := [some (pvR 124), some (pvI (M563_.1 147 (Int32.toNatClampNeg i4z689_))), none, none]) (d1 := d) (rest := []) rfl rfl rfl rfl rfl (fun _ => rfl) (Nat.zero_le _) rfl rfl rfl (sf_X10_harmOf_124_x M563_ o565_ (M563_.1 147 (Int32.toNatClampNeg i4z689_)) b721_ d) (fun x722_ b724_ => ?_)
                have b727_ : 0 ≤ Int32.toInt (M563_.1 148 (Int32.toNatClampNeg i4z689_)) ∧ Int32.toInt (M563_.1 148 (Int32.toNatClampNeg i4z689_)) ≤ 9999 := pvok_r o565_ 148 (Int32.toNatClampNeg i4z689_) rfl
                refine pw_blk hT 4 (S' := (64, [some (pvR 124), some (pvI (M.1 124 4)), some (pvI i2z553_), some (pvI i3z689_), some (pvI i4z689_)], [pvI (M563_.1 148 (Int32.toNatClampNeg i4z689_)), pvI x722_], M563_)) rfl ⟨trivial, rfl, trivial, ⟨rfl, (zr_in (n := 6) b709_ (by decide) (by decide))⟩, trivial⟩ ?_
                refine pw_icn hT (c := x722_ = (M563_.1 148 (Int32.toNatClampNeg i4z689_))) rfl rfl (fun c728_ => ?_) (fun c728_ => ?_)
                · obtain ⟨q730_, b729_⟩ : (Int32.toInt (i4z689_ + 1) = Int32.toInt i4z689_ + 1) ∧ (1 ≤ Int32.toInt (i4z689_ + 1) ∧ Int32.toInt (i4z689_ + 1) ≤ 6) := zadd_k i4z689_ 1 1 1 6 b709_ (by decide) (by decide) (by decide) (by decide) (by decide)
                  refine pw_blk hT 4 (S' := (33, [some (pvR 124), some (pvI (M.1 124 4)), some (pvI i2z553_), some (pvI 0), some (pvI (i4z689_ + 1))], [], M563_)) rfl ⟨trivial, trivial, trivial, trivial, trivial⟩ ?_
                  exact ihz689_ 0 (i4z689_ + 1) (zr_wide (show 0 ≤ Int32.toInt 0 ∧ Int32.toInt 0 ≤ 0 from (by decide)) (by decide) (by decide)) (zr_wide b729_ (by decide) (by decide)) (zhid (pvms_up (zshow hmz689_) h4z689_ q730_ (by decide) (by decide)))
                · have b731_ : 0 ≤ Int32.toInt x722_ ∧ Int32.toInt x722_ ≤ 9999 := (by have u0 := b724_; have u1 := (zi_eq _ _).mp c728_; have u2 := b727_; omega)
                  have d732_ : Int32.toInt x722_ = Int32.toInt (M563_.1 148 (Int32.toNatClampNeg i4z689_)) := (zi_eq _ _).mp c728_
                  obtain ⟨q734_, b733_⟩ : (Int32.toInt (i4z689_ + 1) = Int32.toInt i4z689_ + 1) ∧ (1 ≤ Int32.toInt (i4z689_ + 1) ∧ Int32.toInt (i4z689_ + 1) ≤ 6) := zadd_k i4z689_ 1 1 1 6 b709_ (by decide) (by decide) (by decide) (by decide) (by decide)
                  refine pw_blk hT 5 (S' := (33, [some (pvR 124), some (pvI (M.1 124 4)), some (pvI i2z553_), some (pvI 1), some (pvI (i4z689_ + 1))], [], M563_)) rfl ⟨trivial, trivial, trivial, trivial, trivial, trivial⟩ ?_
                  exact ihz689_ 1 (i4z689_ + 1) (zr_wide (show 1 ≤ Int32.toInt 1 ∧ Int32.toInt 1 ≤ 1 from (by decide)) (by decide) (by decide)) (zr_wide b733_ (by decide) (by decide)) (zhid (pvms_up (zshow hmz689_) h4z689_ q734_ (by decide) (by decide)))
        exact hlz689_ _ 1 0 (zr_wide (show 1 ≤ Int32.toInt 1 ∧ Int32.toInt 1 ≤ 1 from (by decide)) (by decide) (by decide)) (zr_wide (show 0 ≤ Int32.toInt 0 ∧ Int32.toInt 0 ≤ 0 from (by decide)) (by decide) (by decide)) (zhid (Nat.lt_succ_self _))
  exact hlz553_ _ 0 none none M8_ o10_ f11_ (zhid (Nat.lt_succ_self _))
