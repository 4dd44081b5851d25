def fpL_eX9_row_0_x_x_x : List (Nat × Nat × Nat) := [(1, 113, 0)]
def fp_eX9_row_0_x_x_x (q k : Nat) : Bool := pvfp fpL_eX9_row_0_x_x_x q k
set_option maxHeartbeats 4000000 in
set_option maxRecDepth 10000 in
theorem se_X9_row_0_x_x_x (M : pvM) (hok : pvOk M) (n1 : Int32) (n2 : Int32) (n3 : Int32) (d : Nat) : PW 196 d (0, [some (pvR 0), some (pvI n1), some (pvI n2), some (pvI n3), none, none], [], M) (fun r X => (∃ x : Int32, r = some (pvI x) ∧ ((-3) ≤ Int32.toInt x ∧ Int32.toInt x ≤ 9) ∧ x = (if n1 < 0 then (-1) else (if (M.1 8 1) ≤ n1 then (-1) else (if n2 < 0 then (-1) else (if 3 < n2 then (-1) else (if n3 < 0 then (-2) else (if 9 < n3 then (-2) else (if (M.1 (pvbs 10 + Int32.toNatClampNeg n1) 0) = 6 then (M.1 ((pvbs 10 + Int32.toNatClampNeg n1) + 7) (Int32.toNatClampNeg n2)) else (-3))))))))) ∧ pvOk X ∧ pvFr fp_eX9_row_0_x_x_x M X ∧ zV9 n1 n2 n3 r M X ∧ zKc 74 M X) := by
  have hT : pvdom 196 = pvD_196 := rfl
  refine pw_blk hT 3 (S' := (5, [some (pvR 0), some (pvI n1), some (pvI n2), some (pvI n3), none, none], [pvI n1, pvR 8], M)) rfl ⟨trivial, rfl, trivial, trivial⟩ ?_
  refine pw_callT hT (as := [pvR 8, pvI n1]) (lo1 := [some (pvR 8), some (pvI n1)]) (d1 := d) (rest := []) rfl rfl rfl rfl rfl (fun _ => rfl) (Nat.zero_le _) rfl rfl rfl (sf_X7_has_8_x M hok n1 d) ?_
  by_cases c6_ : n1 < 0
  · refine pw_eqI (if_pos c6_) ?_
    have b7_ : (-2147483648) ≤ Int32.toInt n1 ∧ Int32.toInt n1 ≤ (-1) := zr_lt_l (-1) c6_ (zbnd n1) (show 0 ≤ Int32.toInt 0 ∧ Int32.toInt 0 ≤ 0 from (by decide)) (by decide)
    show PW 196 d (8, [some (pvR 0), some (pvI n1), some (pvI n2), some (pvI n3), none, none], [pvI 0], M) _
    refine pw_if hT (c := 0 = 0) rfl rfl (fun c8_ => ?_) (fun c8_ => absurd (by decide) c8_)
    refine pw_blk hT 1 (S' := (21, [some (pvR 0), some (pvI n1), some (pvI n2), some (pvI n3), none, none], [pvI (-1)], M)) rfl ⟨trivial, trivial⟩ ?_
    exact pw_ret hT rfl (r := some (pvI (-1))) (M' := M) ⟨rfl, rfl⟩ ⟨⟨_, rfl, (zr_wide (show (-1) ≤ Int32.toInt (-1) ∧ Int32.toInt (-1) ≤ (-1) from (by decide)) (by decide) (by decide)), (by rw [if_pos c6_]; first | done | (rw [if_pos c6_]; done))⟩, hok, pvfr_0, ⟨_, rfl, Or.inl ⟨by decide, zKc_r 60 M⟩⟩, (zKc_r 74 M)⟩
  · refine pw_eqI (if_neg c6_) ?_
    have b9_ : 0 ≤ Int32.toInt n1 ∧ Int32.toInt n1 ≤ 2147483647 := zr_nlt_l 0 c6_ (zbnd n1) (show 0 ≤ Int32.toInt 0 ∧ Int32.toInt 0 ≤ 0 from (by decide)) (by decide)
    have b10_ : 0 ≤ Int32.toInt (M.1 8 1) ∧ Int32.toInt (M.1 8 1) ≤ 7 := pvok_r hok 8 1 rfl
    by_cases c11_ : (M.1 8 1) ≤ n1
    · refine pw_eqI (if_pos c11_) ?_
      have d12_ : Int32.toInt (M.1 8 1) ≤ Int32.toInt n1 := (zi_le _ _).mp c11_
      show PW 196 d (8, [some (pvR 0), some (pvI n1), some (pvI n2), some (pvI n3), none, none], [pvI 0], M) _
      refine pw_if hT (c := 0 = 0) rfl rfl (fun c13_ => ?_) (fun c13_ => absurd (by decide) c13_)
      refine pw_blk hT 1 (S' := (21, [some (pvR 0), some (pvI n1), some (pvI n2), some (pvI n3), none, none], [pvI (-1)], M)) rfl ⟨trivial, trivial⟩ ?_
      exact pw_ret hT rfl (r := some (pvI (-1))) (M' := M) ⟨rfl, rfl⟩ ⟨⟨_, rfl, (zr_wide (show (-1) ≤ Int32.toInt (-1) ∧ Int32.toInt (-1) ≤ (-1) from (by decide)) (by decide) (by decide)), (by rw [if_neg c6_, if_pos c11_]; first | done | (rw [if_pos c11_]; done))⟩, hok, pvfr_0, ⟨_, rfl, Or.inl ⟨by decide, zKc_r 60 M⟩⟩, (zKc_r 74 M)⟩
    · refine pw_eqI (if_neg c11_) ?_
      have b14_ : 1 ≤ Int32.toInt (M.1 8 1) ∧ Int32.toInt (M.1 8 1) ≤ 7 := zr_nle_l 1 c11_ b10_ b9_ (by decide)
      have b15_ : 0 ≤ Int32.toInt n1 ∧ Int32.toInt n1 ≤ 6 := zr_nle_r 6 c11_ b9_ b14_ (by decide)
      have d16_ : Int32.toInt (M.1 8 1) > Int32.toInt n1 := Int.not_le.mp ((not_congr (zi_le _ _)).mp c11_)
      show PW 196 d (8, [some (pvR 0), some (pvI n1), some (pvI n2), some (pvI n3), none, none], [pvI 1], M) _
      refine pw_if hT (c := 1 = 0) rfl rfl (fun c17_ => absurd c17_ (by decide)) (fun c17_ => ?_)
      refine pw_blk hT 3 (S' := (14, [some (pvR 0), some (pvI n1), some (pvI n2), some (pvI n3), none, none], [pvI 3, pvI 0, pvI n2], M)) rfl ⟨trivial, trivial, trivial, trivial⟩ ?_
      refine pw_callT hT (as := [pvI n2, pvI 0, pvI 3]) (lo1 := [some (pvI n2), some (pvI 0), some (pvI 3)]) (d1 := d) (rest := []) rfl rfl rfl rfl rfl (fun h => absurd h (by decide)) (Nat.zero_le _) rfl rfl rfl (sf_X9_within_x_x_x M hok n2 0 3 d) ?_
      by_cases c23_ : n2 < 0
      · refine pw_eqI (if_pos c23_) ?_
        have b24_ : (-2147483648) ≤ Int32.toInt n2 ∧ Int32.toInt n2 ≤ (-1) := zr_lt_l (-1) c23_ (zbnd n2) (show 0 ≤ Int32.toInt 0 ∧ Int32.toInt 0 ≤ 0 from (by decide)) (by decide)
        show PW 196 d (17, [some (pvR 0), some (pvI n1), some (pvI n2), some (pvI n3), none, none], [pvI 0], M) _
        refine pw_ifn hT (c := 0 = 0) rfl rfl (fun c25_ => absurd (by decide) c25_) (fun c25_ => ?_)
        refine pw_blk hT 1 (S' := (21, [some (pvR 0), some (pvI n1), some (pvI n2), some (pvI n3), none, none], [pvI (-1)], M)) rfl ⟨trivial, trivial⟩ ?_
        exact pw_ret hT rfl (r := some (pvI (-1))) (M' := M) ⟨rfl, rfl⟩ ⟨⟨_, rfl, (zr_wide (show (-1) ≤ Int32.toInt (-1) ∧ Int32.toInt (-1) ≤ (-1) from (by decide)) (by decide) (by decide)), (by rw [if_neg c6_, if_neg c11_, if_pos c23_]; first | done | (rw [if_pos c23_]; done))⟩, hok, pvfr_0, ⟨_, rfl, Or.inl ⟨by decide, zKc_r 60 M⟩⟩, (zKc_r 74 M)⟩
      · refine pw_eqI (if_neg c23_) ?_
        have b26_ : 0 ≤ Int32.toInt n2 ∧ Int32.toInt n2 ≤ 2147483647 := zr_nlt_l 0 c23_ (zbnd n2) (show 0 ≤ Int32.toInt 0 ∧ Int32.toInt 0 ≤ 0 from (by decide)) (by decide)
        by_cases c27_ : 3 < n2
        · refine pw_eqI (if_pos c27_) ?_
          have b28_ : 4 ≤ Int32.toInt n2 ∧ Int32.toInt n2 ≤ 2147483647 := zr_lt_r 4 c27_ b26_ (show 3 ≤ Int32.toInt 3 ∧ Int32.toInt 3 ≤ 3 from (by decide)) (by decide)
          show PW 196 d (17, [some (pvR 0), some (pvI n1), some (pvI n2), some (pvI n3), none, none], [pvI 0], M) _
          refine pw_ifn hT (c := 0 = 0) rfl rfl (fun c29_ => absurd (by decide) c29_) (fun c29_ => ?_)
          refine pw_blk hT 1 (S' := (21, [some (pvR 0), some (pvI n1), some (pvI n2), some (pvI n3), none, none], [pvI (-1)], M)) rfl ⟨trivial, trivial⟩ ?_
          exact pw_ret hT rfl (r := some (pvI (-1))) (M' := M) ⟨rfl, rfl⟩ ⟨⟨_, rfl, (zr_wide (show (-1) ≤ Int32.toInt (-1) ∧ Int32.toInt (-1) ≤ (-1) from (by decide)) (by decide) (by decide)), (by rw [if_neg c6_, if_neg c11_, if_neg c23_, if_pos c27_]; first | done | (rw [if_pos c27_]; done))⟩, hok, pvfr_0, ⟨_, rfl, Or.inl ⟨by decide, zKc_r 60 M⟩⟩, (zKc_r 74 M)⟩
        · refine pw_eqI (if_neg c27_) ?_
          have b30_ : 0 ≤ Int32.toInt n2 ∧ Int32.toInt n2 ≤ 3 := zr_nlt_r 3 c27_ b26_ (show 3 ≤ Int32.toInt 3 ∧ Int32.toInt 3 ≤ 3 from (by decide)) (by decide)
          show PW 196 d (17, [some (pvR 0), some (pvI n1), some (pvI n2), some (pvI n3), none, none], [pvI 1], M) _
          refine pw_ifn hT (c := 1 = 0) rfl rfl (fun c31_ => ?_) (fun c31_ => absurd c31_ (by decide))
          refine pw_blk hT 3 (S' := (26, [some (pvR 0), some (pvI n1), some (pvI n2), some (pvI n3), none, none], [pvI 9, pvI 0, pvI n3], M)) rfl ⟨trivial, trivial, trivial, trivial⟩ ?_
          refine pw_callT hT (as := [pvI n3, pvI 0, pvI 9]) (lo1 := [some (pvI n3), some (pvI 0), some (pvI 9)]) (d1 := d) (rest := []) rfl rfl rfl rfl rfl (fun h => absurd h (by decide)) (Nat.zero_le _) rfl rfl rfl (sf_X9_within_x_x_x M hok n3 0 9 d) ?_
          by_cases c37_ : n3 < 0
          · refine pw_eqI (if_pos c37_) ?_
            have b38_ : (-2147483648) ≤ Int32.toInt n3 ∧ Int32.toInt n3 ≤ (-1) := zr_lt_l (-1) c37_ (zbnd n3) (show 0 ≤ Int32.toInt 0 ∧ Int32.toInt 0 ≤ 0 from (by decide)) (by decide)
            show PW 196 d (29, [some (pvR 0), some (pvI n1), some (pvI n2), some (pvI n3), none, none], [pvI 0], M) _
            refine pw_ifn hT (c := 0 = 0) rfl rfl (fun c39_ => absurd (by decide) c39_) (fun c39_ => ?_)
            refine pw_blk hT 1 (S' := (34, [some (pvR 0), some (pvI n1), some (pvI n2), some (pvI n3), none, none], [pvI (-2)], M)) rfl ⟨trivial, trivial⟩ ?_
            exact pw_ret hT rfl (r := some (pvI (-2))) (M' := M) ⟨rfl, rfl⟩ ⟨⟨_, rfl, (zr_wide (show (-2) ≤ Int32.toInt (-2) ∧ Int32.toInt (-2) ≤ (-2) from (by decide)) (by decide) (by decide)), (by rw [if_neg c6_, if_neg c11_, if_neg c23_, if_neg c27_, if_pos c37_]; first | done | (rw [if_pos c37_]; done))⟩, hok, pvfr_0, ⟨_, rfl, Or.inl ⟨by decide, zKc_r 60 M⟩⟩, (zKc_r 74 M)⟩
          · refine pw_eqI (if_neg c37_) ?_
            have b40_ : 0 ≤ Int32.toInt n3 ∧ Int32.toInt n3 ≤ 2147483647 := zr_nlt_l 0 c37_ (zbnd n3) (show 0 ≤ Int32.toInt 0 ∧ Int32.toInt 0 ≤ 0 from (by decide)) (by decide)
            by_cases c41_ : 9 < n3
            · refine pw_eqI (if_pos c41_) ?_
              have b42_ : 10 ≤ Int32.toInt n3 ∧ Int32.toInt n3 ≤ 2147483647 := zr_lt_r 10 c41_ b40_ (show 9 ≤ Int32.toInt 9 ∧ Int32.toInt 9 ≤ 9 from (by decide)) (by decide)
              show PW 196 d (29, [some (pvR 0), some (pvI n1), some (pvI n2), some (pvI n3), none, none], [pvI 0], M) _
              refine pw_ifn hT (c := 0 = 0) rfl rfl (fun c43_ => absurd (by decide) c43_) (fun c43_ => ?_)
              refine pw_blk hT 1 (S' := (34, [some (pvR 0), some (pvI n1), some (pvI n2), some (pvI n3), none, none], [pvI (-2)], M)) rfl ⟨trivial, trivial⟩ ?_
              exact pw_ret hT rfl (r := some (pvI (-2))) (M' := M) ⟨rfl, rfl⟩ ⟨⟨_, rfl, (zr_wide (show (-2) ≤ Int32.toInt (-2) ∧ Int32.toInt (-2) ≤ (-2) from (by decide)) (by decide) (by decide)), (by rw [if_neg c6_, if_neg c11_, if_neg c23_, if_neg c27_, if_neg c37_, if_pos c41_]; first | done | (rw [if_pos c41_]; done))⟩, hok, pvfr_0, ⟨_, rfl, Or.inl ⟨by decide, zKc_r 60 M⟩⟩, (zKc_r 74 M)⟩
            · refine pw_eqI (if_neg c41_) ?_
              have b44_ : 0 ≤ Int32.toInt n3 ∧ Int32.toInt n3 ≤ 9 := zr_nlt_r 9 c41_ b40_ (show 9 ≤ Int32.toInt 9 ∧ Int32.toInt 9 ≤ 9 from (by decide)) (by decide)
              show PW 196 d (29, [some (pvR 0), some (pvI n1), some (pvI n2), some (pvI n3), none, none], [pvI 1], M) _
              refine pw_ifn hT (c := 1 = 0) rfl rfl (fun c45_ => ?_) (fun c45_ => absurd c45_ (by decide))
              refine pw_blkr hT 5 (pc := 44) (lo := [some (pvR 0), some (pvI n1), some (pvI n2), some (pvI n3), none, none]) (st := []) (M := M) (z := (pvbs 10 + Int32.toNatClampNeg n1)) rfl ⟨trivial, rfl, rfl, trivial, ⟨rfl, (zr_in (n := 7) b15_ (by decide) (by decide))⟩, trivial⟩ (fun q46_ e48_ => ?_)
              have k47_ : pvkl q46_ = 3 := pvel_10 (zr_in (n := 7) b15_ (by decide) (by decide)) e48_
              subst e48_
              have b49_ : 0 ≤ Int32.toInt (M.1 (pvbs 10 + Int32.toNatClampNeg n1) 0) ∧ Int32.toInt (M.1 (pvbs 10 + Int32.toNatClampNeg n1) 0) ≤ 6 := pvok_r hok (pvbs 10 + Int32.toNatClampNeg n1) 0 ((pvrg_o 0 k47_ (by decide) (by decide)).trans rfl)
              refine pw_blk hT 4 (S' := (53, [some (pvR 0), some (pvI n1), some (pvI n2), some (pvI n3), some (pvR (pvbs 10 + Int32.toNatClampNeg n1)), none], [pvI 6, pvI (M.1 (pvbs 10 + Int32.toNatClampNeg n1) 0)], M)) rfl ⟨trivial, trivial, k47_, trivial, trivial⟩ ?_
              refine pw_ic hT (c := (M.1 (pvbs 10 + Int32.toNatClampNeg n1) 0) = 6) rfl rfl (fun c50_ => ?_) (fun c50_ => ?_)
              · have b51_ : 6 ≤ Int32.toInt (M.1 (pvbs 10 + Int32.toNatClampNeg n1) 0) ∧ Int32.toInt (M.1 (pvbs 10 + Int32.toNatClampNeg n1) 0) ≤ 6 := (by have u0 := b49_; have u1 := (zi_eq _ _).mp c50_; have u2 := (show 6 ≤ Int32.toInt 6 ∧ Int32.toInt 6 ≤ 6 from (by decide)); omega)
                have b52_ : 0 ≤ Int32.toInt (M.1 ((pvbs 10 + Int32.toNatClampNeg n1) + 7) (Int32.toNatClampNeg n2)) ∧ Int32.toInt (M.1 ((pvbs 10 + Int32.toNatClampNeg n1) + 7) (Int32.toNatClampNeg n2)) ≤ 9 := pvok_r hok ((pvbs 10 + Int32.toNatClampNeg n1) + 7) (Int32.toNatClampNeg n2) ((pvrg_a _ (by rw [(pvow_3_7 k47_).1]; decide)).trans (pvow_3_7 k47_).2.2.2)
                refine pw_blkw hT 10 (pc := 76) (lo := [some (pvR 0), some (pvI n1), some (pvI n2), some (pvI n3), some (pvR (pvbs 10 + Int32.toNatClampNeg n1)), some (pvI (M.1 ((pvbs 10 + Int32.toNatClampNeg n1) + 7) (Int32.toNatClampNeg n2)))]) (st := []) (M := pvu M ((pvbs 10 + Int32.toNatClampNeg n1) + 7) (Int32.toNatClampNeg n2) n3) rfl ⟨trivial, k47_, trivial, ⟨(pvow_3_7 k47_).1, (by rw [(pvow_3_7 k47_).2.1]; exact (zr_in (n := 4) b30_ (by decide) (by decide)))⟩, trivial, trivial, k47_, trivial, trivial, ⟨(pvow_3_7 k47_).1, (by rw [(pvow_3_7 k47_).2.1]; exact (zr_in (n := 4) b30_ (by decide) (by decide)))⟩, trivial⟩ (fun M53_ e54_ => ?_)
                have o55_ : pvOk M53_ := pvok_u2 e54_ hok ((pvrg_a _ (by rw [(pvow_3_7 k47_).1]; decide)).trans (pvow_3_7 k47_).2.2.2) b44_
                have f56_ : pvFr fp_eX9_row_0_x_x_x M M53_ := pvfr_u e54_ pvfr_0 (pvfp_r (l := fpL_eX9_row_0_x_x_x) (pvow_3_7 k47_).2.2.1 (kk := 0) (by decide) (Or.inl rfl))
                refine pw_blk hT 1 (S' := (78, [some (pvR 0), some (pvI n1), some (pvI n2), some (pvI n3), some (pvR (pvbs 10 + Int32.toNatClampNeg n1)), some (pvI (M.1 ((pvbs 10 + Int32.toNatClampNeg n1) + 7) (Int32.toNatClampNeg n2)))], [pvI (M.1 ((pvbs 10 + Int32.toNatClampNeg n1) + 7) (Int32.toNatClampNeg n2))], M53_)) rfl ⟨trivial, trivial⟩ ?_
                exact pw_ret hT rfl (r := some (pvI (M.1 ((pvbs 10 + Int32.toNatClampNeg n1) + 7) (Int32.toNatClampNeg n2)))) (M' := M53_) ⟨rfl, rfl⟩ ⟨⟨_, rfl, (zr_wide b52_ (by decide) (by decide)), (by rw [if_neg c6_, if_neg c11_, if_neg c23_, if_neg c27_, if_neg c37_, if_neg c41_, if_pos c50_]; first | done | (rw [if_pos c50_]; done))⟩, o55_, f56_, ⟨_, rfl, Or.inr ⟨(b52_).1, fun i hi => ⟨fun f hf => pvu_n e54_ (60 + i) f (Or.inl (by have u : pvbs 10 = 60 := rfl; omega)), fun j hj => zrow9 rfl e54_ i j⟩⟩⟩, (fun i hi => ⟨fun f hf => pvu_n e54_ (74 + i) f (Or.inl (by have u : pvbs 10 = 60 := rfl; have w : Int32.toNatClampNeg n1 ≤ 6 := (by have u0 := b15_; show n1.toInt.toNat ≤ 6; omega); omega)), fun j hj => pvu_n e54_ (74 + 7 + i) j (Or.inl (by have u : pvbs 10 = 60 := rfl; have w : Int32.toNatClampNeg n1 ≤ 6 := (by have u0 := b15_; show n1.toInt.toNat ≤ 6; omega); omega))⟩)⟩
              · have b57_ : 0 ≤ Int32.toInt (M.1 (pvbs 10 + Int32.toNatClampNeg n1) 0) ∧ Int32.toInt (M.1 (pvbs 10 + Int32.toNatClampNeg n1) 0) ≤ 5 := (by have u0 := b49_; have u1 := (not_congr (zi_eq _ _)).mp c50_; have u2 := (show 6 ≤ Int32.toInt 6 ∧ Int32.toInt 6 ≤ 6 from (by decide)); omega)
                refine pw_blk hT 1 (S' := (58, [some (pvR 0), some (pvI n1), some (pvI n2), some (pvI n3), some (pvR (pvbs 10 + Int32.toNatClampNeg n1)), none], [pvI (-3)], M)) rfl ⟨trivial, trivial⟩ ?_
                exact pw_ret hT rfl (r := some (pvI (-3))) (M' := M) ⟨rfl, rfl⟩ ⟨⟨_, rfl, (zr_wide (show (-3) ≤ Int32.toInt (-3) ∧ Int32.toInt (-3) ≤ (-3) from (by decide)) (by decide) (by decide)), (by rw [if_neg c6_, if_neg c11_, if_neg c23_, if_neg c27_, if_neg c37_, if_neg c41_, if_neg c50_]; first | done | (rw [if_neg c50_]; done))⟩, hok, pvfr_0, ⟨_, rfl, Or.inl ⟨by decide, zKc_r 60 M⟩⟩, (zKc_r 74 M)⟩
def fpL_eX6_append_102_x_x : List (Nat × Nat × Nat) := [(0, 102, 1), (0, 110, 0), (0, 118, 0)]
def fp_eX6_append_102_x_x (q k : Nat) : Bool := pvfp fpL_eX6_append_102_x_x q k
set_option maxHeartbeats 4000000 in
set_option maxRecDepth 10000 in
theorem se_X6_append_102_x_x (M : pvM) (hok : pvOk M) (n1 : Int32) (n2 : Int32) (hn1 : 0 ≤ Int32.toInt n1 ∧ Int32.toInt n1 ≤ 6) (hn2 : 0 ≤ Int32.toInt n2 ∧ Int32.toInt n2 ≤ 9999) (d : Nat) : PW 151 d (0, [some (pvR 102), some (pvI n1), some (pvI n2)], [], M) (fun r X => (∃ x : Int32, r = some (pvI x) ∧ (1 ≤ Int32.toInt x ∧ Int32.toInt x ≤ 6) ∧ x = (if (M.1 102 0) < (Int32.ofNat 6) then ((M.1 102 0) + 1) else (M.1 102 0))) ∧ pvOk X ∧ pvFr fp_eX6_append_102_x_x M X ∧ zAp 102 110 118 6 n1 n2 M X ∧ X.1 102 0 = (if (M.1 102 0) < (Int32.ofNat 6) then ((M.1 102 0) + 1) else (M.1 102 0))) := by
  have hT : pvdom 151 = pvD_151 := rfl
  refine pw_blk hT 1 (S' := (1, [some (pvR 102), some (pvI n1), some (pvI n2)], [pvR 102], M)) rfl ⟨trivial, trivial⟩ ?_
  refine pw_callT hT (as := [pvR 102]) (lo1 := [some (pvR 102)]) (d1 := d) (rest := []) rfl rfl rfl rfl rfl (fun _ => rfl) (Nat.zero_le _) rfl rfl rfl (sf_X6_isFull_102 M hok d) ?_
  have b6_ : 0 ≤ Int32.toInt (M.1 102 0) ∧ Int32.toInt (M.1 102 0) ≤ 6 := pvok_r hok 102 0 rfl
  by_cases c7_ : (M.1 102 0) < (Int32.ofNat 6)
  · refine pw_eqI (if_pos c7_) ?_
    have b8_ : 0 ≤ Int32.toInt (M.1 102 0) ∧ Int32.toInt (M.1 102 0) ≤ 5 := zr_lt_l 5 c7_ b6_ (show 6 ≤ Int32.toInt (Int32.ofNat 6) ∧ Int32.toInt (Int32.ofNat 6) ≤ 6 from (by decide)) (by decide)
    show PW 151 d (4, [some (pvR 102), some (pvI n1), some (pvI n2)], [pvI 0], M) _
    refine pw_if hT (c := 0 = 0) rfl rfl (fun c9_ => ?_) (fun c9_ => absurd (by decide) c9_)
    refine pw_blkw hT 6 (pc := 22) (lo := [some (pvR 102), some (pvI n1), some (pvI n2)]) (st := []) (M := pvu M 110 (Int32.toNatClampNeg (M.1 102 0)) n1) rfl ⟨trivial, rfl, trivial, rfl, trivial, ⟨rfl, (zr_in (n := 6) b8_ (by decide) (by decide))⟩, trivial⟩ (fun M10_ e11_ => ?_)
    have o12_ : pvOk M10_ := pvok_u2 e11_ hok rfl hn1
    have f13_ : pvFr fp_eX6_append_102_x_x M M10_ := pvfr_u e11_ pvfr_0 rfl
    have e14_ : (M10_.1 102 0) = (M.1 102 0) := (pvu_n e11_ 102 0 (Or.inl (by decide)))
    have b15_ : 0 ≤ Int32.toInt (M10_.1 102 0) ∧ Int32.toInt (M10_.1 102 0) ≤ 5 := (by rw [e14_]; exact b8_)
    refine pw_blkw hT 6 (pc := 32) (lo := [some (pvR 102), some (pvI n1), some (pvI n2)]) (st := []) (M := pvu M10_ 118 (Int32.toNatClampNeg (M10_.1 102 0)) n2) rfl ⟨trivial, rfl, trivial, rfl, trivial, ⟨rfl, (zr_in (n := 6) b15_ (by decide) (by decide))⟩, trivial⟩ (fun M16_ e17_ => ?_)
    have o18_ : pvOk M16_ := pvok_u2 e17_ o12_ rfl hn2
    have f19_ : pvFr fp_eX6_append_102_x_x M M16_ := pvfr_u e17_ f13_ rfl
    have e20_ : (M16_.1 102 0) = (M10_.1 102 0) := (pvu_n e17_ 102 0 (Or.inl (by decide)))
    have b21_ : 0 ≤ Int32.toInt (M16_.1 102 0) ∧ Int32.toInt (M16_.1 102 0) ≤ 5 := (by rw [e20_]; exact b15_)
    obtain ⟨q23_, b22_⟩ : (Int32.toInt ((M16_.1 102 0) + 1) = Int32.toInt (M16_.1 102 0) + 1) ∧ (1 ≤ Int32.toInt ((M16_.1 102 0) + 1) ∧ Int32.toInt ((M16_.1 102 0) + 1) ≤ 6) := zadd_k (M16_.1 102 0) 1 1 1 6 b21_ (by decide) (by decide) (by decide) (by decide) (by decide)
    refine pw_blkw hT 6 (pc := 42) (lo := [some (pvR 102), some (pvI n1), some (pvI n2)]) (st := []) (M := pvu M16_ 102 0 ((M16_.1 102 0) + 1)) rfl ⟨trivial, trivial, rfl, trivial, trivial, rfl, trivial⟩ (fun M24_ e25_ => ?_)
    have o26_ : pvOk M24_ := pvok_u2 e25_ o18_ rfl (zr_wide b22_ (by decide) (by decide))
    have f27_ : pvFr fp_eX6_append_102_x_x M M24_ := pvfr_u e25_ f19_ rfl
    have e28_ : (M24_.1 102 0) = ((M16_.1 102 0) + 1) := (pvu_s e25_)
    have b29_ : 1 ≤ Int32.toInt (M24_.1 102 0) ∧ Int32.toInt (M24_.1 102 0) ≤ 6 := (by rw [e28_]; exact b22_)
    refine pw_blk hT 2 (S' := (46, [some (pvR 102), some (pvI n1), some (pvI n2)], [pvI (M24_.1 102 0)], M24_)) rfl ⟨trivial, rfl, trivial⟩ ?_
    exact pw_ret hT rfl (r := some (pvI (M24_.1 102 0))) (M' := M24_) ⟨rfl, rfl⟩ ⟨⟨_, rfl, b29_, (by rw [if_pos c7_]; first | done | exact (show (M24_.1 102 0) = ((M.1 102 0) + 1) from by rw [((pvu_s e25_).trans (show ((M16_.1 102 0) + 1) = ((M.1 102 0) + 1) from by rw [((pvu_n e17_ 102 0 (Or.inl (by decide))).trans (pvu_n e11_ 102 0 (Or.inl (by decide))))]))]) | (rw [if_pos c7_]; exact (show (M24_.1 102 0) = ((M.1 102 0) + 1) from by rw [((pvu_s e25_).trans (show ((M16_.1 102 0) + 1) = ((M.1 102 0) + 1) from by rw [((pvu_n e17_ 102 0 (Or.inl (by decide))).trans (pvu_n e11_ 102 0 (Or.inl (by decide))))]))])))⟩, o26_, f27_, (zAp_y (by decide) (by decide) (by decide) (by have u := b8_; omega) e11_ e17_ e25_), (by rw [if_pos c7_]; first | done | exact ((pvu_s e25_).trans (show ((M16_.1 102 0) + 1) = ((M.1 102 0) + 1) from by rw [((pvu_n e17_ 102 0 (Or.inl (by decide))).trans (pvu_n e11_ 102 0 (Or.inl (by decide))))])) | (rw [if_pos c7_]; done) | (rw [if_pos c7_]; exact ((pvu_s e25_).trans (show ((M16_.1 102 0) + 1) = ((M.1 102 0) + 1) from by rw [((pvu_n e17_ 102 0 (Or.inl (by decide))).trans (pvu_n e11_ 102 0 (Or.inl (by decide))))]))))⟩
  · refine pw_eqI (if_neg c7_) ?_
    have b30_ : 6 ≤ Int32.toInt (M.1 102 0) ∧ Int32.toInt (M.1 102 0) ≤ 6 := zr_nlt_l 6 c7_ b6_ (show 6 ≤ Int32.toInt (Int32.ofNat 6) ∧ Int32.toInt (Int32.ofNat 6) ≤ 6 from (by decide)) (by decide)
    show PW 151 d (4, [some (pvR 102), some (pvI n1), some (pvI n2)], [pvI 1], M) _
    refine pw_if hT (c := 1 = 0) rfl rfl (fun c31_ => absurd c31_ (by decide)) (fun c31_ => ?_)
    refine pw_blk hT 2 (S' := (11, [some (pvR 102), some (pvI n1), some (pvI n2)], [pvI (M.1 102 0)], M)) rfl ⟨trivial, rfl, trivial⟩ ?_
    exact pw_ret hT rfl (r := some (pvI (M.1 102 0))) (M' := M) ⟨rfl, rfl⟩ ⟨⟨_, rfl, (zr_wide b30_ (by decide) (by decide)), (by rw [if_neg c7_]; first | done | (rw [if_neg c7_]; done))⟩, hok, pvfr_0, (zAp_n (by have u := b30_; omega)), (by rw [if_neg c7_]; first | done | exact rfl | (rw [if_neg c7_]; done) | (rw [if_neg c7_]; exact rfl))⟩
def fpL_eX6_clear_102 : List (Nat × Nat × Nat) := [(0, 102, 1)]
def fp_eX6_clear_102 (q k : Nat) : Bool := pvfp fpL_eX6_clear_102 q k
set_option maxHeartbeats 4000000 in
set_option maxRecDepth 10000 in
theorem se_X6_clear_102 (M : pvM) (hok : pvOk M) (d : Nat) : PW 153 d (0, [some (pvR 102)], [], M) (fun r X => (∃ x : Int32, r = some (pvI x) ∧ (0 ≤ Int32.toInt x ∧ Int32.toInt x ≤ 0) ∧ x = 0) ∧ pvOk X ∧ pvFr fp_eX6_clear_102 M X ∧ X.1 102 0 = 0) := by
  have hT : pvdom 153 = pvD_153 := rfl
  refine pw_blkw hT 3 (pc := 5) (lo := [some (pvR 102)]) (st := []) (M := pvu M 102 0 0) rfl ⟨trivial, trivial, rfl, trivial⟩ (fun M1_ e2_ => ?_)
  have o3_ : pvOk M1_ := pvok_u2 e2_ hok rfl (zr_wide (show 0 ≤ Int32.toInt 0 ∧ Int32.toInt 0 ≤ 0 from (by decide)) (by decide) (by decide))
  have f4_ : pvFr fp_eX6_clear_102 M M1_ := pvfr_u e2_ pvfr_0 rfl
  refine pw_blk hT 1 (S' := (6, [some (pvR 102)], [pvI 0], M1_)) rfl ⟨trivial, trivial⟩ ?_
  exact pw_ret hT rfl (r := some (pvI 0)) (M' := M1_) ⟨rfl, rfl⟩ ⟨⟨_, rfl, (show 0 ≤ Int32.toInt 0 ∧ Int32.toInt 0 ≤ 0 from (by decide)), rfl⟩, o3_, f4_, (pvu_s e2_)⟩
def fpL_eX9_appendTold_0_102_x_x : List (Nat × Nat × Nat) := [(0, 102, 1), (0, 110, 0), (0, 118, 0)]
def fp_eX9_appendTold_0_102_x_x (q k : Nat) : Bool := pvfp fpL_eX9_appendTold_0_102_x_x q k
theorem fp_eX9_appendTold_0_102_x_x_fp_eX6_append_102_x_x (a b : Nat) (h : fp_eX6_append_102_x_x a b = true) : fp_eX9_appendTold_0_102_x_x a b = true := pvfp_sub (l1 := fpL_eX6_append_102_x_x) (l2 := fpL_eX9_appendTold_0_102_x_x) (by decide) a b h
theorem fp_eX9_appendTold_0_102_x_x_fp_eX6_clear_102 (a b : Nat) (h : fp_eX6_clear_102 a b = true) : fp_eX9_appendTold_0_102_x_x a b = true := pvfp_sub (l1 := fpL_eX6_clear_102) (l2 := fpL_eX9_appendTold_0_102_x_x) (by decide) a b h
set_option maxHeartbeats 4000000 in
set_option maxRecDepth 10000 in
theorem se_X9_appendTold_0_102_x_x (M : pvM) (hok : pvOk M) (n2 : Int32) (n3 : Int32) (d : Nat) : PW 168 d (0, [some (pvR 0), some (pvR 102), some (pvI n2), some (pvI n3)], [], M) (fun r X => (∃ x : Int32, r = some (pvI x) ∧ ((-4) ≤ Int32.toInt x ∧ Int32.toInt x ≤ 6) ∧ x = (if n2 = (-1) then 0 else (if n2 < 0 then (-1) else (if (M.1 8 1) ≤ n2 then (-1) else (if n3 < 0 then (-2) else (if 9999 < n3 then (-2) else (if (M.1 102 0) < (Int32.ofNat 6) then (if (M.1 102 0) < (Int32.ofNat 6) then ((M.1 102 0) + 1) else (M.1 102 0)) else (-4)))))))) ∧ pvOk X ∧ pvFr fp_eX9_appendTold_0_102_x_x M X ∧ X.1 102 0 = (if n2 = (-1) then 0 else (if n2 < 0 then (M.1 102 0) else (if (M.1 8 1) ≤ n2 then (M.1 102 0) else (if n3 < 0 then (M.1 102 0) else (if 9999 < n3 then (M.1 102 0) else (if (M.1 102 0) < (Int32.ofNat 6) then (if (M.1 102 0) < (Int32.ofNat 6) then ((M.1 102 0) + 1) else (M.1 102 0)) else (M.1 102 0)))))))) := by
  have hT : pvdom 168 = pvD_168 := rfl
  refine pw_blk hT 2 (S' := (2, [some (pvR 0), some (pvR 102), some (pvI n2), some (pvI n3)], [pvI (-1), pvI n2], M)) rfl ⟨trivial, trivial, trivial⟩ ?_
  refine pw_icn hT (c := n2 = (-1)) rfl rfl (fun c1_ => ?_) (fun c1_ => ?_)
  · refine pw_blk hT 3 (S' := (15, [some (pvR 0), some (pvR 102), some (pvI n2), some (pvI n3)], [pvI n2, pvR 8], M)) rfl ⟨trivial, rfl, trivial, trivial⟩ ?_
    refine pw_callT hT (as := [pvR 8, pvI n2]) (lo1 := [some (pvR 8), some (pvI n2)]) (d1 := d) (rest := []) rfl rfl rfl rfl rfl (fun _ => rfl) (Nat.zero_le _) rfl rfl rfl (sf_X7_has_8_x M hok n2 d) ?_
    by_cases c7_ : n2 < 0
    · refine pw_eqI (if_pos c7_) ?_
      have b8_ : (-2147483648) ≤ Int32.toInt n2 ∧ Int32.toInt n2 ≤ (-2) := (by have u0 := (zbnd n2); have u9 := (show _ ∧ _ from ⟨(zi_lt _ _).mp c7_, (show 0 ≤ Int32.toInt 0 ∧ Int32.toInt 0 ≤ 0 from (by decide))⟩); have v1 := (not_congr (zi_eq _ _)).mp c1_; have w1 : ((-1) : Int32).toInt = -1 := (by decide); omega)
      show PW 168 d (18, [some (pvR 0), some (pvR 102), some (pvI n2), some (pvI n3)], [pvI 0], M) _
      refine pw_ifn hT (c := 0 = 0) rfl rfl (fun c9_ => absurd (by decide) c9_) (fun c9_ => ?_)
      refine pw_blk hT 1 (S' := (22, [some (pvR 0), some (pvR 102), some (pvI n2), some (pvI n3)], [pvI (-1)], M)) rfl ⟨trivial, trivial⟩ ?_
      exact pw_ret hT rfl (r := some (pvI (-1))) (M' := M) ⟨rfl, rfl⟩ ⟨⟨_, rfl, (zr_wide (show (-1) ≤ Int32.toInt (-1) ∧ Int32.toInt (-1) ≤ (-1) from (by decide)) (by decide) (by decide)), (by rw [if_neg c1_, if_pos c7_]; first | done | (rw [if_pos c7_]; done))⟩, hok, pvfr_0, (by rw [if_neg c1_, if_pos c7_]; first | done | exact rfl | (rw [if_pos c7_]; done) | (rw [if_pos c7_]; exact rfl))⟩
    · refine pw_eqI (if_neg c7_) ?_
      have b10_ : 0 ≤ Int32.toInt n2 ∧ Int32.toInt n2 ≤ 2147483647 := zr_nlt_l 0 c7_ (zbnd n2) (show 0 ≤ Int32.toInt 0 ∧ Int32.toInt 0 ≤ 0 from (by decide)) (by decide)
      have b11_ : 0 ≤ Int32.toInt (M.1 8 1) ∧ Int32.toInt (M.1 8 1) ≤ 7 := pvok_r hok 8 1 rfl
      by_cases c12_ : (M.1 8 1) ≤ n2
      · refine pw_eqI (if_pos c12_) ?_
        have d13_ : Int32.toInt (M.1 8 1) ≤ Int32.toInt n2 := (zi_le _ _).mp c12_
        show PW 168 d (18, [some (pvR 0), some (pvR 102), some (pvI n2), some (pvI n3)], [pvI 0], M) _
        refine pw_ifn hT (c := 0 = 0) rfl rfl (fun c14_ => absurd (by decide) c14_) (fun c14_ => ?_)
        refine pw_blk hT 1 (S' := (22, [some (pvR 0), some (pvR 102), some (pvI n2), some (pvI n3)], [pvI (-1)], M)) rfl ⟨trivial, trivial⟩ ?_
        exact pw_ret hT rfl (r := some (pvI (-1))) (M' := M) ⟨rfl, rfl⟩ ⟨⟨_, rfl, (zr_wide (show (-1) ≤ Int32.toInt (-1) ∧ Int32.toInt (-1) ≤ (-1) from (by decide)) (by decide) (by decide)), (by rw [if_neg c1_, if_neg c7_, if_pos c12_]; first | done | (rw [if_pos c12_]; done))⟩, hok, pvfr_0, (by rw [if_neg c1_, if_neg c7_, if_pos c12_]; first | done | exact rfl | (rw [if_pos c12_]; done) | (rw [if_pos c12_]; exact rfl))⟩
      · refine pw_eqI (if_neg c12_) ?_
        have b15_ : 1 ≤ Int32.toInt (M.1 8 1) ∧ Int32.toInt (M.1 8 1) ≤ 7 := zr_nle_l 1 c12_ b11_ b10_ (by decide)
        have b16_ : 0 ≤ Int32.toInt n2 ∧ Int32.toInt n2 ≤ 6 := zr_nle_r 6 c12_ b10_ b15_ (by decide)
        have d17_ : Int32.toInt (M.1 8 1) > Int32.toInt n2 := Int.not_le.mp ((not_congr (zi_le _ _)).mp c12_)
        show PW 168 d (18, [some (pvR 0), some (pvR 102), some (pvI n2), some (pvI n3)], [pvI 1], M) _
        refine pw_ifn hT (c := 1 = 0) rfl rfl (fun c18_ => ?_) (fun c18_ => absurd c18_ (by decide))
        refine pw_blk hT 3 (S' := (28, [some (pvR 0), some (pvR 102), some (pvI n2), some (pvI n3)], [pvI 9999, pvI 0, pvI n3], M)) rfl ⟨trivial, trivial, trivial, trivial⟩ ?_
        refine pw_callT hT (as := [pvI n3, pvI 0, pvI 9999]) (lo1 := [some (pvI n3), some (pvI 0), some (pvI 9999)]) (d1 := d) (rest := []) rfl rfl rfl rfl rfl (fun h => absurd h (by decide)) (Nat.zero_le _) rfl rfl rfl (sf_X9_within_x_x_x M hok n3 0 9999 d) ?_
        by_cases c24_ : n3 < 0
        · refine pw_eqI (if_pos c24_) ?_
          have b25_ : (-2147483648) ≤ Int32.toInt n3 ∧ Int32.toInt n3 ≤ (-1) := zr_lt_l (-1) c24_ (zbnd n3) (show 0 ≤ Int32.toInt 0 ∧ Int32.toInt 0 ≤ 0 from (by decide)) (by decide)
          show PW 168 d (31, [some (pvR 0), some (pvR 102), some (pvI n2), some (pvI n3)], [pvI 0], M) _
          refine pw_ifn hT (c := 0 = 0) rfl rfl (fun c26_ => absurd (by decide) c26_) (fun c26_ => ?_)
          refine pw_blk hT 1 (S' := (36, [some (pvR 0), some (pvR 102), some (pvI n2), some (pvI n3)], [pvI (-2)], M)) rfl ⟨trivial, trivial⟩ ?_
          exact pw_ret hT rfl (r := some (pvI (-2))) (M' := M) ⟨rfl, rfl⟩ ⟨⟨_, rfl, (zr_wide (show (-2) ≤ Int32.toInt (-2) ∧ Int32.toInt (-2) ≤ (-2) from (by decide)) (by decide) (by decide)), (by rw [if_neg c1_, if_neg c7_, if_neg c12_, if_pos c24_]; first | done | (rw [if_pos c24_]; done))⟩, hok, pvfr_0, (by rw [if_neg c1_, if_neg c7_, if_neg c12_, if_pos c24_]; first | done | exact rfl | (rw [if_pos c24_]; done) | (rw [if_pos c24_]; exact rfl))⟩
        · refine pw_eqI (if_neg c24_) ?_
          have b27_ : 0 ≤ Int32.toInt n3 ∧ Int32.toInt n3 ≤ 2147483647 := zr_nlt_l 0 c24_ (zbnd n3) (show 0 ≤ Int32.toInt 0 ∧ Int32.toInt 0 ≤ 0 from (by decide)) (by decide)
          by_cases c28_ : 9999 < n3
          · refine pw_eqI (if_pos c28_) ?_
            have b29_ : 10000 ≤ Int32.toInt n3 ∧ Int32.toInt n3 ≤ 2147483647 := zr_lt_r 10000 c28_ b27_ (show 9999 ≤ Int32.toInt 9999 ∧ Int32.toInt 9999 ≤ 9999 from (by decide)) (by decide)
            show PW 168 d (31, [some (pvR 0), some (pvR 102), some (pvI n2), some (pvI n3)], [pvI 0], M) _
            refine pw_ifn hT (c := 0 = 0) rfl rfl (fun c30_ => absurd (by decide) c30_) (fun c30_ => ?_)
            refine pw_blk hT 1 (S' := (36, [some (pvR 0), some (pvR 102), some (pvI n2), some (pvI n3)], [pvI (-2)], M)) rfl ⟨trivial, trivial⟩ ?_
            exact pw_ret hT rfl (r := some (pvI (-2))) (M' := M) ⟨rfl, rfl⟩ ⟨⟨_, rfl, (zr_wide (show (-2) ≤ Int32.toInt (-2) ∧ Int32.toInt (-2) ≤ (-2) from (by decide)) (by decide) (by decide)), (by rw [if_neg c1_, if_neg c7_, if_neg c12_, if_neg c24_, if_pos c28_]; first | done | (rw [if_pos c28_]; done))⟩, hok, pvfr_0, (by rw [if_neg c1_, if_neg c7_, if_neg c12_, if_neg c24_, if_pos c28_]; first | done | exact rfl | (rw [if_pos c28_]; done) | (rw [if_pos c28_]; exact rfl))⟩
          · refine pw_eqI (if_neg c28_) ?_
            have b31_ : 0 ≤ Int32.toInt n3 ∧ Int32.toInt n3 ≤ 9999 := zr_nlt_r 9999 c28_ b27_ (show 9999 ≤ Int32.toInt 9999 ∧ Int32.toInt 9999 ≤ 9999 from (by decide)) (by decide)
            show PW 168 d (31, [some (pvR 0), some (pvR 102), some (pvI n2), some (pvI n3)], [pvI 1], M) _
            refine pw_ifn hT (c := 1 = 0) rfl rfl (fun c32_ => ?_) (fun c32_ => absurd c32_ (by decide))
            refine pw_blk hT 1 (S' := (38, [some (pvR 0), some (pvR 102), some (pvI n2), some (pvI n3)], [pvR 102], M)) rfl ⟨trivial, trivial⟩ ?_
            refine pw_callT hT (as := [pvR 102]) (lo1 := [some (pvR 102)]) (d1 := d) (rest := []) rfl rfl rfl rfl rfl (fun _ => rfl) (Nat.zero_le _) rfl rfl rfl (sf_X6_isFull_102 M hok d) ?_
            have b38_ : 0 ≤ Int32.toInt (M.1 102 0) ∧ Int32.toInt (M.1 102 0) ≤ 6 := pvok_r hok 102 0 rfl
            by_cases c39_ : (M.1 102 0) < (Int32.ofNat 6)
            · refine pw_eqI (if_pos c39_) ?_
              have b40_ : 0 ≤ Int32.toInt (M.1 102 0) ∧ Int32.toInt (M.1 102 0) ≤ 5 := zr_lt_l 5 c39_ b38_ (show 6 ≤ Int32.toInt (Int32.ofNat 6) ∧ Int32.toInt (Int32.ofNat 6) ≤ 6 from (by decide)) (by decide)
              show PW 168 d (41, [some (pvR 0), some (pvR 102), some (pvI n2), some (pvI n3)], [pvI 0], M) _
              refine pw_if hT (c := 0 = 0) rfl rfl (fun c41_ => ?_) (fun c41_ => absurd (by decide) c41_)
              refine pw_blk hT 3 (S' := (50, [some (pvR 0), some (pvR 102), some (pvI n2), some (pvI n3)], [pvI n3, pvI n2, pvR 102], M)) rfl ⟨trivial, trivial, trivial, trivial⟩ ?_
              refine pw_callGd hT (as := [pvR 102, pvI n2, pvI n3]) (lo1 := [some (pvR 102), some (pvI n2), some (pvI n3)]) (d1 := d) (rest := []) rfl rfl rfl rfl rfl (fun _ => rfl) (Nat.zero_le _) rfl rfl rfl (se_X6_append_102_x_x M hok n2 n3 b16_ b31_ d) (fun x43_ M44_ b45_ o46_ g47_ d42_ => ?_)
              have f48_ : pvFr fp_eX9_appendTold_0_102_x_x M M44_ := pvfr_t g47_ pvfr_0 fp_eX9_appendTold_0_102_x_x_fp_eX6_append_102_x_x
              obtain ⟨b49_, d50_⟩ := b45_
              subst d50_
              exact pw_ret hT rfl (r := some (pvI (if (M.1 102 0) < (Int32.ofNat 6) then ((M.1 102 0) + 1) else (M.1 102 0)))) (M' := M44_) ⟨rfl, rfl⟩ ⟨⟨_, rfl, (zr_wide b49_ (by decide) (by decide)), (by rw [if_neg c1_, if_neg c7_, if_neg c12_, if_neg c24_, if_neg c28_, if_pos c39_]; first | done | (rw [if_pos c39_]; done))⟩, o46_, f48_, (by rw [if_neg c1_, if_neg c7_, if_neg c12_, if_neg c24_, if_neg c28_, if_pos c39_]; first | done | exact d42_.2 | (rw [if_pos c39_]; done) | (rw [if_pos c39_]; exact d42_.2))⟩
            · refine pw_eqI (if_neg c39_) ?_
              have b51_ : 6 ≤ Int32.toInt (M.1 102 0) ∧ Int32.toInt (M.1 102 0) ≤ 6 := zr_nlt_l 6 c39_ b38_ (show 6 ≤ Int32.toInt (Int32.ofNat 6) ∧ Int32.toInt (Int32.ofNat 6) ≤ 6 from (by decide)) (by decide)
              show PW 168 d (41, [some (pvR 0), some (pvR 102), some (pvI n2), some (pvI n3)], [pvI 1], M) _
              refine pw_if hT (c := 1 = 0) rfl rfl (fun c52_ => absurd c52_ (by decide)) (fun c52_ => ?_)
              refine pw_blk hT 1 (S' := (46, [some (pvR 0), some (pvR 102), some (pvI n2), some (pvI n3)], [pvI (-4)], M)) rfl ⟨trivial, trivial⟩ ?_
              exact pw_ret hT rfl (r := some (pvI (-4))) (M' := M) ⟨rfl, rfl⟩ ⟨⟨_, rfl, (zr_wide (show (-4) ≤ Int32.toInt (-4) ∧ Int32.toInt (-4) ≤ (-4) from (by decide)) (by decide) (by decide)), (by rw [if_neg c1_, if_neg c7_, if_neg c12_, if_neg c24_, if_neg c28_, if_neg c39_]; first | done | (rw [if_neg c39_]; done))⟩, hok, pvfr_0, (by rw [if_neg c1_, if_neg c7_, if_neg c12_, if_neg c24_, if_neg c28_, if_neg c39_]; first | done | exact rfl | (rw [if_neg c39_]; done) | (rw [if_neg c39_]; exact rfl))⟩
  · have b53_ : (-1) ≤ Int32.toInt n2 ∧ Int32.toInt n2 ≤ (-1) := (by have u0 := (zbnd n2); have u1 := (zi_eq _ _).mp c1_; have u2 := (show (-1) ≤ Int32.toInt (-1) ∧ Int32.toInt (-1) ≤ (-1) from (by decide)); omega)
    refine pw_blk hT 1 (S' := (6, [some (pvR 0), some (pvR 102), some (pvI n2), some (pvI n3)], [pvR 102], M)) rfl ⟨trivial, trivial⟩ ?_
    refine pw_callGd hT (as := [pvR 102]) (lo1 := [some (pvR 102)]) (d1 := d) (rest := []) rfl rfl rfl rfl rfl (fun _ => rfl) (Nat.zero_le _) rfl rfl rfl (se_X6_clear_102 M hok d) (fun x55_ M56_ b57_ o58_ g59_ d54_ => ?_)
    have f60_ : pvFr fp_eX9_appendTold_0_102_x_x M M56_ := pvfr_t g59_ pvfr_0 fp_eX9_appendTold_0_102_x_x_fp_eX6_clear_102
    obtain ⟨b61_, d62_⟩ := b57_
    subst d62_
    exact pw_ret hT rfl (r := some (pvI 0)) (M' := M56_) ⟨rfl, rfl⟩ ⟨⟨_, rfl, (zr_wide b61_ (by decide) (by decide)), (by rw [if_pos c1_]; first | done | (rw [if_pos c1_]; done))⟩, o58_, f60_, (by rw [if_pos c1_]; first | done | exact d54_ | (rw [if_pos c1_]; done) | (rw [if_pos c1_]; exact d54_))⟩
def fpL_eX9_see_0_x_x : List (Nat × Nat × Nat) := [(0, 102, 1), (0, 110, 0), (0, 118, 0)]
def fp_eX9_see_0_x_x (q k : Nat) : Bool := pvfp fpL_eX9_see_0_x_x q k
theorem fp_eX9_see_0_x_x_fp_eX9_appendTold_0_102_x_x (a b : Nat) (h : fp_eX9_appendTold_0_102_x_x a b = true) : fp_eX9_see_0_x_x a b = true := pvfp_sub (l1 := fpL_eX9_appendTold_0_102_x_x) (l2 := fpL_eX9_see_0_x_x) (by decide) a b h
set_option maxHeartbeats 4000000 in
set_option maxRecDepth 10000 in
theorem se_X9_see_0_x_x (M : pvM) (hok : pvOk M) (n1 : Int32) (n2 : Int32) (d : Nat) : PW 197 d (0, [some (pvR 0), some (pvI n1), some (pvI n2)], [], M) (fun r X => (∃ x : Int32, r = some (pvI x) ∧ ((-4) ≤ Int32.toInt x ∧ Int32.toInt x ≤ 6) ∧ x = (if n1 = (-1) then 0 else (if n1 < 0 then (-1) else (if (M.1 8 1) ≤ n1 then (-1) else (if n2 < 0 then (-2) else (if 9999 < n2 then (-2) else (if (M.1 102 0) < (Int32.ofNat 6) then (if (M.1 102 0) < (Int32.ofNat 6) then ((M.1 102 0) + 1) else (M.1 102 0)) else (-4)))))))) ∧ pvOk X ∧ pvFr fp_eX9_see_0_x_x M X ∧ X.1 102 0 = (if n1 = (-1) then 0 else (if n1 < 0 then (M.1 102 0) else (if (M.1 8 1) ≤ n1 then (M.1 102 0) else (if n2 < 0 then (M.1 102 0) else (if 9999 < n2 then (M.1 102 0) else (if (M.1 102 0) < (Int32.ofNat 6) then (if (M.1 102 0) < (Int32.ofNat 6) then ((M.1 102 0) + 1) else (M.1 102 0)) else (M.1 102 0)))))))) := by
  have hT : pvdom 197 = pvD_197 := rfl
  refine pw_blk hT 6 (S' := (10, [some (pvR 0), some (pvI n1), some (pvI n2)], [pvI n2, pvI n1, pvR 102, pvR 0], M)) rfl ⟨trivial, trivial, rfl, rfl, trivial, trivial, trivial⟩ ?_
  refine pw_callGd hT (as := [pvR 0, pvR 102, pvI n1, pvI n2]) (lo1 := [some (pvR 0), some (pvR 102), some (pvI n1), some (pvI n2)]) (d1 := d) (rest := []) rfl rfl rfl rfl rfl (fun _ => rfl) (Nat.zero_le _) rfl rfl rfl (se_X9_appendTold_0_102_x_x M hok n1 n2 d) (fun x2_ M3_ b4_ o5_ g6_ d1_ => ?_)
  have f7_ : pvFr fp_eX9_see_0_x_x M M3_ := pvfr_t g6_ pvfr_0 fp_eX9_see_0_x_x_fp_eX9_appendTold_0_102_x_x
  obtain ⟨b8_, d9_⟩ := b4_
  subst d9_
  exact pw_ret hT rfl (r := some (pvI (if n1 = (-1) then 0 else (if n1 < 0 then (-1) else (if (M.1 8 1) ≤ n1 then (-1) else (if n2 < 0 then (-2) else (if 9999 < n2 then (-2) else (if (M.1 102 0) < (Int32.ofNat 6) then (if (M.1 102 0) < (Int32.ofNat 6) then ((M.1 102 0) + 1) else (M.1 102 0)) else (-4))))))))) (M' := M3_) ⟨rfl, rfl⟩ ⟨⟨_, rfl, b8_, rfl⟩, o5_, f7_, d1_⟩
def fpL_eX9_shift_0_x_x_x_x_x : List (Nat × Nat × Nat) := []
def fp_eX9_shift_0_x_x_x_x_x (q k : Nat) : Bool := pvfp fpL_eX9_shift_0_x_x_x_x_x q k
set_option maxHeartbeats 4000000 in
set_option maxRecDepth 10000 in
theorem se_X9_shift_0_x_x_x_x_x (M : pvM) (hok : pvOk M) (n1 : Int32) (n2 : Int32) (n3 : Int32) (n4 : Int32) (n5 : Int32) (d : Nat) : PW 198 d (0, [some (pvR 0), some (pvI n1), some (pvI n2), some (pvI n3), some (pvI n4), some (pvI n5), none, none], [], M) (fun r X => (∃ x : Int32, r = some (pvI x) ∧ ((-13) ≤ Int32.toInt x ∧ Int32.toInt x ≤ 2147483647) ∧ x = (if n1 < 0 then (-1) else (if 5 < n1 then (-1) else (if n3 < 0 then (-1) else (if 5 < n3 then (-1) else (if (M.1 (pvbs 2 + Int32.toNatClampNeg n1) 0) = (-1) then (-11) else (if (M.1 (pvbs 2 + Int32.toNatClampNeg n3) 0) = (-1) then (-11) else (if (M.1 (pvbs 2 + Int32.toNatClampNeg n1) 0) = (M.1 (pvbs 2 + Int32.toNatClampNeg n3) 0) then (if n5 < 0 then (-13) else (if n2 < 0 then (-13) else (if ((M.1 (pvbs 2 + Int32.toNatClampNeg n1) 1) - n5) < n2 then (-13) else (if n4 < 0 then (-13) else (if ((M.1 (pvbs 2 + Int32.toNatClampNeg n3) 1) - n5) < n4 then (-13) else n5))))) else (-12))))))))) ∧ pvOk X ∧ pvFr fp_eX9_shift_0_x_x_x_x_x M X ∧ zSH9 n1 n2 n3 n4 n5 r M X ∧ zSo n1 n3 r M) := by
  have hT : pvdom 198 = pvD_198 := rfl
  refine pw_blk hT 1 (S' := (1, [some (pvR 0), some (pvI n1), some (pvI n2), some (pvI n3), some (pvI n4), some (pvI n5), none, none], [pvI n1], M)) rfl ⟨trivial, trivial⟩ ?_
  refine pw_callT hT (as := [pvI n1]) (lo1 := [some (pvI n1)]) (d1 := d) (rest := []) rfl rfl rfl rfl rfl (fun h => absurd h (by decide)) (Nat.zero_le _) rfl rfl rfl (sf_X9_isTape_x M hok n1 d) ?_
  by_cases c6_ : n1 < 0
  · refine pw_eqI (if_pos c6_) ?_
    have b7_ : (-2147483648) ≤ Int32.toInt n1 ∧ Int32.toInt n1 ≤ (-1) := zr_lt_l (-1) c6_ (zbnd n1) (show 0 ≤ Int32.toInt 0 ∧ Int32.toInt 0 ≤ 0 from (by decide)) (by decide)
    show PW 198 d (4, [some (pvR 0), some (pvI n1), some (pvI n2), some (pvI n3), some (pvI n4), some (pvI n5), none, none], [pvI 0], M) _
    refine pw_if hT (c := 0 = 0) rfl rfl (fun c8_ => ?_) (fun c8_ => absurd (by decide) c8_)
    refine pw_blk hT 1 (S' := (15, [some (pvR 0), some (pvI n1), some (pvI n2), some (pvI n3), some (pvI n4), some (pvI n5), none, none], [pvI (-1)], M)) rfl ⟨trivial, trivial⟩ ?_
    exact pw_ret hT rfl (r := some (pvI (-1))) (M' := M) ⟨rfl, rfl⟩ ⟨⟨_, rfl, (zr_wide (show (-1) ≤ Int32.toInt (-1) ∧ Int32.toInt (-1) ≤ (-1) from (by decide)) (by decide) (by decide)), (by rw [if_pos c6_]; first | done | (rw [if_pos c6_]; done))⟩, hok, pvfr_0, ⟨_, rfl, Or.inl ⟨by decide, rfl⟩⟩, (zSo_n (by decide))⟩
  · refine pw_eqI (if_neg c6_) ?_
    have b9_ : 0 ≤ Int32.toInt n1 ∧ Int32.toInt n1 ≤ 2147483647 := zr_nlt_l 0 c6_ (zbnd n1) (show 0 ≤ Int32.toInt 0 ∧ Int32.toInt 0 ≤ 0 from (by decide)) (by decide)
    by_cases c10_ : 5 < n1
    · refine pw_eqI (if_pos c10_) ?_
      have b11_ : 6 ≤ Int32.toInt n1 ∧ Int32.toInt n1 ≤ 2147483647 := zr_lt_r 6 c10_ b9_ (show 5 ≤ Int32.toInt 5 ∧ Int32.toInt 5 ≤ 5 from (by decide)) (by decide)
      show PW 198 d (4, [some (pvR 0), some (pvI n1), some (pvI n2), some (pvI n3), some (pvI n4), some (pvI n5), none, none], [pvI 0], M) _
      refine pw_if hT (c := 0 = 0) rfl rfl (fun c12_ => ?_) (fun c12_ => absurd (by decide) c12_)
      refine pw_blk hT 1 (S' := (15, [some (pvR 0), some (pvI n1), some (pvI n2), some (pvI n3), some (pvI n4), some (pvI n5), none, none], [pvI (-1)], M)) rfl ⟨trivial, trivial⟩ ?_
      exact pw_ret hT rfl (r := some (pvI (-1))) (M' := M) ⟨rfl, rfl⟩ ⟨⟨_, rfl, (zr_wide (show (-1) ≤ Int32.toInt (-1) ∧ Int32.toInt (-1) ≤ (-1) from (by decide)) (by decide) (by decide)), (by rw [if_neg c6_, if_pos c10_]; first | done | (rw [if_pos c10_]; done))⟩, hok, pvfr_0, ⟨_, rfl, Or.inl ⟨by decide, rfl⟩⟩, (zSo_n (by decide))⟩
    · refine pw_eqI (if_neg c10_) ?_
      have b13_ : 0 ≤ Int32.toInt n1 ∧ Int32.toInt n1 ≤ 5 := zr_nlt_r 5 c10_ b9_ (show 5 ≤ Int32.toInt 5 ∧ Int32.toInt 5 ≤ 5 from (by decide)) (by decide)
      show PW 198 d (4, [some (pvR 0), some (pvI n1), some (pvI n2), some (pvI n3), some (pvI n4), some (pvI n5), none, none], [pvI 1], M) _
      refine pw_if hT (c := 1 = 0) rfl rfl (fun c14_ => absurd c14_ (by decide)) (fun c14_ => ?_)
      refine pw_blk hT 1 (S' := (8, [some (pvR 0), some (pvI n1), some (pvI n2), some (pvI n3), some (pvI n4), some (pvI n5), none, none], [pvI n3], M)) rfl ⟨trivial, trivial⟩ ?_
      refine pw_callT hT (as := [pvI n3]) (lo1 := [some (pvI n3)]) (d1 := d) (rest := []) rfl rfl rfl rfl rfl (fun h => absurd h (by decide)) (Nat.zero_le _) rfl rfl rfl (sf_X9_isTape_x M hok n3 d) ?_
      by_cases c20_ : n3 < 0
      · refine pw_eqI (if_pos c20_) ?_
        have b21_ : (-2147483648) ≤ Int32.toInt n3 ∧ Int32.toInt n3 ≤ (-1) := zr_lt_l (-1) c20_ (zbnd n3) (show 0 ≤ Int32.toInt 0 ∧ Int32.toInt 0 ≤ 0 from (by decide)) (by decide)
        show PW 198 d (11, [some (pvR 0), some (pvI n1), some (pvI n2), some (pvI n3), some (pvI n4), some (pvI n5), none, none], [pvI 0], M) _
        refine pw_ifn hT (c := 0 = 0) rfl rfl (fun c22_ => absurd (by decide) c22_) (fun c22_ => ?_)
        refine pw_blk hT 1 (S' := (15, [some (pvR 0), some (pvI n1), some (pvI n2), some (pvI n3), some (pvI n4), some (pvI n5), none, none], [pvI (-1)], M)) rfl ⟨trivial, trivial⟩ ?_
        exact pw_ret hT rfl (r := some (pvI (-1))) (M' := M) ⟨rfl, rfl⟩ ⟨⟨_, rfl, (zr_wide (show (-1) ≤ Int32.toInt (-1) ∧ Int32.toInt (-1) ≤ (-1) from (by decide)) (by decide) (by decide)), (by rw [if_neg c6_, if_neg c10_, if_pos c20_]; first | done | (rw [if_pos c20_]; done))⟩, hok, pvfr_0, ⟨_, rfl, Or.inl ⟨by decide, rfl⟩⟩, (zSo_n (by decide))⟩
      · refine pw_eqI (if_neg c20_) ?_
        have b23_ : 0 ≤ Int32.toInt n3 ∧ Int32.toInt n3 ≤ 2147483647 := zr_nlt_l 0 c20_ (zbnd n3) (show 0 ≤ Int32.toInt 0 ∧ Int32.toInt 0 ≤ 0 from (by decide)) (by decide)
        by_cases c24_ : 5 < n3
        · refine pw_eqI (if_pos c24_) ?_
          have b25_ : 6 ≤ Int32.toInt n3 ∧ Int32.toInt n3 ≤ 2147483647 := zr_lt_r 6 c24_ b23_ (show 5 ≤ Int32.toInt 5 ∧ Int32.toInt 5 ≤ 5 from (by decide)) (by decide)
          show PW 198 d (11, [some (pvR 0), some (pvI n1), some (pvI n2), some (pvI n3), some (pvI n4), some (pvI n5), none, none], [pvI 0], M) _
          refine pw_ifn hT (c := 0 = 0) rfl rfl (fun c26_ => absurd (by decide) c26_) (fun c26_ => ?_)
          refine pw_blk hT 1 (S' := (15, [some (pvR 0), some (pvI n1), some (pvI n2), some (pvI n3), some (pvI n4), some (pvI n5), none, none], [pvI (-1)], M)) rfl ⟨trivial, trivial⟩ ?_
          exact pw_ret hT rfl (r := some (pvI (-1))) (M' := M) ⟨rfl, rfl⟩ ⟨⟨_, rfl, (zr_wide (show (-1) ≤ Int32.toInt (-1) ∧ Int32.toInt (-1) ≤ (-1) from (by decide)) (by decide) (by decide)), (by rw [if_neg c6_, if_neg c10_, if_neg c20_, if_pos c24_]; first | done | (rw [if_pos c24_]; done))⟩, hok, pvfr_0, ⟨_, rfl, Or.inl ⟨by decide, rfl⟩⟩, (zSo_n (by decide))⟩
        · refine pw_eqI (if_neg c24_) ?_
          have b27_ : 0 ≤ Int32.toInt n3 ∧ Int32.toInt n3 ≤ 5 := zr_nlt_r 5 c24_ b23_ (show 5 ≤ Int32.toInt 5 ∧ Int32.toInt 5 ≤ 5 from (by decide)) (by decide)
          show PW 198 d (11, [some (pvR 0), some (pvI n1), some (pvI n2), some (pvI n3), some (pvI n4), some (pvI n5), none, none], [pvI 1], M) _
          refine pw_ifn hT (c := 1 = 0) rfl rfl (fun c28_ => ?_) (fun c28_ => absurd c28_ (by decide))
          refine pw_blkr hT 4 (pc := 22) (lo := [some (pvR 0), some (pvI n1), some (pvI n2), some (pvI n3), some (pvI n4), some (pvI n5), none, none]) (st := []) (M := M) (z := (pvbs 2 + Int32.toNatClampNeg n1)) rfl ⟨trivial, rfl, trivial, ⟨rfl, (zr_in (n := 6) b13_ (by decide) (by decide))⟩, trivial⟩ (fun q29_ e31_ => ?_)
          have k30_ : pvkl q29_ = 7 := pvel_2 (zr_in (n := 6) b13_ (by decide) (by decide)) e31_
          subst e31_
          refine pw_blkr hT 5 (pc := 30) (lo := [some (pvR 0), some (pvI n1), some (pvI n2), some (pvI n3), some (pvI n4), some (pvI n5), some (pvR (pvbs 2 + Int32.toNatClampNeg n1)), none]) (st := []) (M := M) (z := (pvbs 2 + Int32.toNatClampNeg n3)) rfl ⟨trivial, trivial, rfl, trivial, ⟨rfl, (zr_in (n := 6) b27_ (by decide) (by decide))⟩, trivial⟩ (fun q32_ e34_ => ?_)
          have k33_ : pvkl q32_ = 7 := pvel_2 (zr_in (n := 6) b27_ (by decide) (by decide)) e34_
          subst e34_
          refine pw_blk hT 2 (S' := (34, [some (pvR 0), some (pvI n1), some (pvI n2), some (pvI n3), some (pvI n4), some (pvI n5), some (pvR (pvbs 2 + Int32.toNatClampNeg n1)), some (pvR (pvbs 2 + Int32.toNatClampNeg n3))], [pvR (pvbs 2 + Int32.toNatClampNeg n1)], M)) rfl ⟨trivial, trivial, trivial⟩ ?_
          refine pw_callT hT (as := [pvR (pvbs 2 + Int32.toNatClampNeg n1)]) (lo1 := [some (pvR (pvbs 2 + Int32.toNatClampNeg n1))]) (d1 := d) (rest := []) rfl rfl rfl rfl rfl (fun _ => k30_) (Nat.zero_le _) rfl rfl rfl (sf_X8_isNothing_x M hok (pvbs 2 + Int32.toNatClampNeg n1) k30_ d) ?_
          have b40_ : (-1) ≤ Int32.toInt (M.1 (pvbs 2 + Int32.toNatClampNeg n1) 0) ∧ Int32.toInt (M.1 (pvbs 2 + Int32.toNatClampNeg n1) 0) ≤ 4 := pvok_r hok (pvbs 2 + Int32.toNatClampNeg n1) 0 ((pvrg_o 0 k30_ (by decide) (by decide)).trans rfl)
          by_cases c41_ : (M.1 (pvbs 2 + Int32.toNatClampNeg n1) 0) = (-1)
          · refine pw_eqI (if_pos c41_) ?_
            have b42_ : (-1) ≤ Int32.toInt (M.1 (pvbs 2 + Int32.toNatClampNeg n1) 0) ∧ Int32.toInt (M.1 (pvbs 2 + Int32.toNatClampNeg n1) 0) ≤ (-1) := (by have u0 := b40_; have u1 := (zi_eq _ _).mp c41_; have u2 := (show (-1) ≤ Int32.toInt (-1) ∧ Int32.toInt (-1) ≤ (-1) from (by decide)); omega)
            show PW 198 d (37, [some (pvR 0), some (pvI n1), some (pvI n2), some (pvI n3), some (pvI n4), some (pvI n5), some (pvR (pvbs 2 + Int32.toNatClampNeg n1)), some (pvR (pvbs 2 + Int32.toNatClampNeg n3))], [pvI 1], M) _
            refine pw_ifn hT (c := 1 = 0) rfl rfl (fun c43_ => ?_) (fun c43_ => absurd c43_ (by decide))
            refine pw_blk hT 1 (S' := (50, [some (pvR 0), some (pvI n1), some (pvI n2), some (pvI n3), some (pvI n4), some (pvI n5), some (pvR (pvbs 2 + Int32.toNatClampNeg n1)), some (pvR (pvbs 2 + Int32.toNatClampNeg n3))], [pvI (-11)], M)) rfl ⟨trivial, trivial⟩ ?_
            exact pw_ret hT rfl (r := some (pvI (-11))) (M' := M) ⟨rfl, rfl⟩ ⟨⟨_, rfl, (zr_wide (show (-11) ≤ Int32.toInt (-11) ∧ Int32.toInt (-11) ≤ (-11) from (by decide)) (by decide) (by decide)), (by rw [if_neg c6_, if_neg c10_, if_neg c20_, if_neg c24_, if_pos c41_]; first | done | (rw [if_pos c41_]; done))⟩, hok, pvfr_0, ⟨_, rfl, Or.inl ⟨by decide, rfl⟩⟩, (zSo_n (by decide))⟩
          · refine pw_eqI (if_neg c41_) ?_
            have b44_ : 0 ≤ Int32.toInt (M.1 (pvbs 2 + Int32.toNatClampNeg n1) 0) ∧ Int32.toInt (M.1 (pvbs 2 + Int32.toNatClampNeg n1) 0) ≤ 4 := (by have u0 := b40_; have u1 := (not_congr (zi_eq _ _)).mp c41_; have u2 := (show (-1) ≤ Int32.toInt (-1) ∧ Int32.toInt (-1) ≤ (-1) from (by decide)); omega)
            show PW 198 d (37, [some (pvR 0), some (pvI n1), some (pvI n2), some (pvI n3), some (pvI n4), some (pvI n5), some (pvR (pvbs 2 + Int32.toNatClampNeg n1)), some (pvR (pvbs 2 + Int32.toNatClampNeg n3))], [pvI 0], M) _
            refine pw_ifn hT (c := 0 = 0) rfl rfl (fun c45_ => absurd (by decide) c45_) (fun c45_ => ?_)
            refine pw_blk hT 1 (S' := (42, [some (pvR 0), some (pvI n1), some (pvI n2), some (pvI n3), some (pvI n4), some (pvI n5), some (pvR (pvbs 2 + Int32.toNatClampNeg n1)), some (pvR (pvbs 2 + Int32.toNatClampNeg n3))], [pvR (pvbs 2 + Int32.toNatClampNeg n3)], M)) rfl ⟨trivial, trivial⟩ ?_
            refine pw_callT hT (as := [pvR (pvbs 2 + Int32.toNatClampNeg n3)]) (lo1 := [some (pvR (pvbs 2 + Int32.toNatClampNeg n3))]) (d1 := d) (rest := []) rfl rfl rfl rfl rfl (fun _ => k33_) (Nat.zero_le _) rfl rfl rfl (sf_X8_isNothing_x M hok (pvbs 2 + Int32.toNatClampNeg n3) k33_ d) ?_
            have b51_ : (-1) ≤ Int32.toInt (M.1 (pvbs 2 + Int32.toNatClampNeg n3) 0) ∧ Int32.toInt (M.1 (pvbs 2 + Int32.toNatClampNeg n3) 0) ≤ 4 := pvok_r hok (pvbs 2 + Int32.toNatClampNeg n3) 0 ((pvrg_o 0 k33_ (by decide) (by decide)).trans rfl)
            by_cases c52_ : (M.1 (pvbs 2 + Int32.toNatClampNeg n3) 0) = (-1)
            · refine pw_eqI (if_pos c52_) ?_
              have b53_ : (-1) ≤ Int32.toInt (M.1 (pvbs 2 + Int32.toNatClampNeg n3) 0) ∧ Int32.toInt (M.1 (pvbs 2 + Int32.toNatClampNeg n3) 0) ≤ (-1) := (by have u0 := b51_; have u1 := (zi_eq _ _).mp c52_; have u2 := (show (-1) ≤ Int32.toInt (-1) ∧ Int32.toInt (-1) ≤ (-1) from (by decide)); omega)
              show PW 198 d (45, [some (pvR 0), some (pvI n1), some (pvI n2), some (pvI n3), some (pvI n4), some (pvI n5), some (pvR (pvbs 2 + Int32.toNatClampNeg n1)), some (pvR (pvbs 2 + Int32.toNatClampNeg n3))], [pvI 1], M) _
              refine pw_if hT (c := 1 = 0) rfl rfl (fun c54_ => absurd c54_ (by decide)) (fun c54_ => ?_)
              refine pw_blk hT 1 (S' := (50, [some (pvR 0), some (pvI n1), some (pvI n2), some (pvI n3), some (pvI n4), some (pvI n5), some (pvR (pvbs 2 + Int32.toNatClampNeg n1)), some (pvR (pvbs 2 + Int32.toNatClampNeg n3))], [pvI (-11)], M)) rfl ⟨trivial, trivial⟩ ?_
              exact pw_ret hT rfl (r := some (pvI (-11))) (M' := M) ⟨rfl, rfl⟩ ⟨⟨_, rfl, (zr_wide (show (-11) ≤ Int32.toInt (-11) ∧ Int32.toInt (-11) ≤ (-11) from (by decide)) (by decide) (by decide)), (by rw [if_neg c6_, if_neg c10_, if_neg c20_, if_neg c24_, if_neg c41_, if_pos c52_]; first | done | (rw [if_pos c52_]; done))⟩, hok, pvfr_0, ⟨_, rfl, Or.inl ⟨by decide, rfl⟩⟩, (zSo_n (by decide))⟩
            · refine pw_eqI (if_neg c52_) ?_
              have b55_ : 0 ≤ Int32.toInt (M.1 (pvbs 2 + Int32.toNatClampNeg n3) 0) ∧ Int32.toInt (M.1 (pvbs 2 + Int32.toNatClampNeg n3) 0) ≤ 4 := (by have u0 := b51_; have u1 := (not_congr (zi_eq _ _)).mp c52_; have u2 := (show (-1) ≤ Int32.toInt (-1) ∧ Int32.toInt (-1) ≤ (-1) from (by decide)); omega)
              show PW 198 d (45, [some (pvR 0), some (pvI n1), some (pvI n2), some (pvI n3), some (pvI n4), some (pvI n5), some (pvR (pvbs 2 + Int32.toNatClampNeg n1)), some (pvR (pvbs 2 + Int32.toNatClampNeg n3))], [pvI 0], M) _
              refine pw_if hT (c := 0 = 0) rfl rfl (fun c56_ => ?_) (fun c56_ => absurd (by decide) c56_)
              refine pw_blk hT 4 (S' := (61, [some (pvR 0), some (pvI n1), some (pvI n2), some (pvI n3), some (pvI n4), some (pvI n5), some (pvR (pvbs 2 + Int32.toNatClampNeg n1)), some (pvR (pvbs 2 + Int32.toNatClampNeg n3))], [pvI (M.1 (pvbs 2 + Int32.toNatClampNeg n3) 0), pvI (M.1 (pvbs 2 + Int32.toNatClampNeg n1) 0)], M)) rfl ⟨trivial, k30_, trivial, k33_, trivial⟩ ?_
              refine pw_ic hT (c := (M.1 (pvbs 2 + Int32.toNatClampNeg n1) 0) = (M.1 (pvbs 2 + Int32.toNatClampNeg n3) 0)) rfl rfl (fun c57_ => ?_) (fun c57_ => ?_)
              · have d58_ : Int32.toInt (M.1 (pvbs 2 + Int32.toNatClampNeg n1) 0) = Int32.toInt (M.1 (pvbs 2 + Int32.toNatClampNeg n3) 0) := (zi_eq _ _).mp c57_
                refine pw_blk hT 3 (S' := (72, [some (pvR 0), some (pvI n1), some (pvI n2), some (pvI n3), some (pvI n4), some (pvI n5), some (pvR (pvbs 2 + Int32.toNatClampNeg n1)), some (pvR (pvbs 2 + Int32.toNatClampNeg n3))], [pvI n5, pvI n2, pvR (pvbs 2 + Int32.toNatClampNeg n1)], M)) rfl ⟨trivial, trivial, trivial, trivial⟩ ?_
                refine pw_callT hT (as := [pvR (pvbs 2 + Int32.toNatClampNeg n1), pvI n2, pvI n5]) (lo1 := [some (pvR (pvbs 2 + Int32.toNatClampNeg n1)), some (pvI n2), some (pvI n5)]) (d1 := d) (rest := []) rfl rfl rfl rfl rfl (fun _ => k30_) (Nat.zero_le _) rfl rfl rfl (sf_X8_hasSpan_x_x_x M hok (pvbs 2 + Int32.toNatClampNeg n1) n2 n5 k30_ d) ?_
                by_cases c64_ : n5 < 0
                · refine pw_eqI (if_pos c64_) ?_
                  have b65_ : (-2147483648) ≤ Int32.toInt n5 ∧ Int32.toInt n5 ≤ (-1) := zr_lt_l (-1) c64_ (zbnd n5) (show 0 ≤ Int32.toInt 0 ∧ Int32.toInt 0 ≤ 0 from (by decide)) (by decide)
                  show PW 198 d (75, [some (pvR 0), some (pvI n1), some (pvI n2), some (pvI n3), some (pvI n4), some (pvI n5), some (pvR (pvbs 2 + Int32.toNatClampNeg n1)), some (pvR (pvbs 2 + Int32.toNatClampNeg n3))], [pvI 0], M) _
                  refine pw_if hT (c := 0 = 0) rfl rfl (fun c66_ => ?_) (fun c66_ => absurd (by decide) c66_)
                  refine pw_blk hT 1 (S' := (92, [some (pvR 0), some (pvI n1), some (pvI n2), some (pvI n3), some (pvI n4), some (pvI n5), some (pvR (pvbs 2 + Int32.toNatClampNeg n1)), some (pvR (pvbs 2 + Int32.toNatClampNeg n3))], [pvI (-13)], M)) rfl ⟨trivial, trivial⟩ ?_
                  exact pw_ret hT rfl (r := some (pvI (-13))) (M' := M) ⟨rfl, rfl⟩ ⟨⟨_, rfl, (zr_wide (show (-13) ≤ Int32.toInt (-13) ∧ Int32.toInt (-13) ≤ (-13) from (by decide)) (by decide) (by decide)), (by rw [if_neg c6_, if_neg c10_, if_neg c20_, if_neg c24_, if_neg c41_, if_neg c52_, if_pos c57_, if_pos c64_]; first | done | (rw [if_pos c64_]; done))⟩, hok, pvfr_0, ⟨_, rfl, Or.inl ⟨by decide, rfl⟩⟩, (zSo_n (by decide))⟩
                · refine pw_eqI (if_neg c64_) ?_
                  have b67_ : 0 ≤ Int32.toInt n5 ∧ Int32.toInt n5 ≤ 2147483647 := zr_nlt_l 0 c64_ (zbnd n5) (show 0 ≤ Int32.toInt 0 ∧ Int32.toInt 0 ≤ 0 from (by decide)) (by decide)
                  by_cases c68_ : n2 < 0
                  · refine pw_eqI (if_pos c68_) ?_
                    have b69_ : (-2147483648) ≤ Int32.toInt n2 ∧ Int32.toInt n2 ≤ (-1) := zr_lt_l (-1) c68_ (zbnd n2) (show 0 ≤ Int32.toInt 0 ∧ Int32.toInt 0 ≤ 0 from (by decide)) (by decide)
                    show PW 198 d (75, [some (pvR 0), some (pvI n1), some (pvI n2), some (pvI n3), some (pvI n4), some (pvI n5), some (pvR (pvbs 2 + Int32.toNatClampNeg n1)), some (pvR (pvbs 2 + Int32.toNatClampNeg n3))], [pvI 0], M) _
                    refine pw_if hT (c := 0 = 0) rfl rfl (fun c70_ => ?_) (fun c70_ => absurd (by decide) c70_)
                    refine pw_blk hT 1 (S' := (92, [some (pvR 0), some (pvI n1), some (pvI n2), some (pvI n3), some (pvI n4), some (pvI n5), some (pvR (pvbs 2 + Int32.toNatClampNeg n1)), some (pvR (pvbs 2 + Int32.toNatClampNeg n3))], [pvI (-13)], M)) rfl ⟨trivial, trivial⟩ ?_
                    exact pw_ret hT rfl (r := some (pvI (-13))) (M' := M) ⟨rfl, rfl⟩ ⟨⟨_, rfl, (zr_wide (show (-13) ≤ Int32.toInt (-13) ∧ Int32.toInt (-13) ≤ (-13) from (by decide)) (by decide) (by decide)), (by rw [if_neg c6_, if_neg c10_, if_neg c20_, if_neg c24_, if_neg c41_, if_neg c52_, if_pos c57_, if_neg c64_, if_pos c68_]; first | done | (rw [if_pos c68_]; done))⟩, hok, pvfr_0, ⟨_, rfl, Or.inl ⟨by decide, rfl⟩⟩, (zSo_n (by decide))⟩
                  · refine pw_eqI (if_neg c68_) ?_
                    have b71_ : 0 ≤ Int32.toInt n2 ∧ Int32.toInt n2 ≤ 2147483647 := zr_nlt_l 0 c68_ (zbnd n2) (show 0 ≤ Int32.toInt 0 ∧ Int32.toInt 0 ≤ 0 from (by decide)) (by decide)
                    have b72_ : 0 ≤ Int32.toInt (M.1 (pvbs 2 + Int32.toNatClampNeg n1) 1) ∧ Int32.toInt (M.1 (pvbs 2 + Int32.toNatClampNeg n1) 1) ≤ 60 := pvok_r hok (pvbs 2 + Int32.toNatClampNeg n1) 1 ((pvrg_o 1 k30_ (by decide) (by decide)).trans rfl)
                    obtain ⟨q74_, b73_⟩ : (Int32.toInt ((M.1 (pvbs 2 + Int32.toNatClampNeg n1) 1) - n5) = Int32.toInt (M.1 (pvbs 2 + Int32.toNatClampNeg n1) 1) - Int32.toInt n5) ∧ ((-2147483647) ≤ Int32.toInt ((M.1 (pvbs 2 + Int32.toNatClampNeg n1) 1) - n5) ∧ Int32.toInt ((M.1 (pvbs 2 + Int32.toNatClampNeg n1) 1) - n5) ≤ 60) := zsub_r (M.1 (pvbs 2 + Int32.toNatClampNeg n1) 1) n5 (-2147483647) 60 b72_ b67_ (by decide) (by decide) (by decide) (by decide)
                    by_cases c75_ : ((M.1 (pvbs 2 + Int32.toNatClampNeg n1) 1) - n5) < n2
                    · refine pw_eqI (if_pos c75_) ?_
                      have d76_ : Int32.toInt ((M.1 (pvbs 2 + Int32.toNatClampNeg n1) 1) - n5) < Int32.toInt n2 := (zi_lt _ _).mp c75_
                      show PW 198 d (75, [some (pvR 0), some (pvI n1), some (pvI n2), some (pvI n3), some (pvI n4), some (pvI n5), some (pvR (pvbs 2 + Int32.toNatClampNeg n1)), some (pvR (pvbs 2 + Int32.toNatClampNeg n3))], [pvI 0], M) _
                      refine pw_if hT (c := 0 = 0) rfl rfl (fun c77_ => ?_) (fun c77_ => absurd (by decide) c77_)
                      refine pw_blk hT 1 (S' := (92, [some (pvR 0), some (pvI n1), some (pvI n2), some (pvI n3), some (pvI n4), some (pvI n5), some (pvR (pvbs 2 + Int32.toNatClampNeg n1)), some (pvR (pvbs 2 + Int32.toNatClampNeg n3))], [pvI (-13)], M)) rfl ⟨trivial, trivial⟩ ?_
                      exact pw_ret hT rfl (r := some (pvI (-13))) (M' := M) ⟨rfl, rfl⟩ ⟨⟨_, rfl, (zr_wide (show (-13) ≤ Int32.toInt (-13) ∧ Int32.toInt (-13) ≤ (-13) from (by decide)) (by decide) (by decide)), (by rw [if_neg c6_, if_neg c10_, if_neg c20_, if_neg c24_, if_neg c41_, if_neg c52_, if_pos c57_, if_neg c64_, if_neg c68_, if_pos c75_]; first | done | (rw [if_pos c75_]; done))⟩, hok, pvfr_0, ⟨_, rfl, Or.inl ⟨by decide, rfl⟩⟩, (zSo_n (by decide))⟩
                    · refine pw_eqI (if_neg c75_) ?_
                      have b78_ : 0 ≤ Int32.toInt ((M.1 (pvbs 2 + Int32.toNatClampNeg n1) 1) - n5) ∧ Int32.toInt ((M.1 (pvbs 2 + Int32.toNatClampNeg n1) 1) - n5) ≤ 60 := zr_nlt_l 0 c75_ b73_ b71_ (by decide)
                      have b79_ : 0 ≤ Int32.toInt n2 ∧ Int32.toInt n2 ≤ 60 := zr_nlt_r 60 c75_ b71_ b78_ (by decide)
                      have d80_ : Int32.toInt ((M.1 (pvbs 2 + Int32.toNatClampNeg n1) 1) - n5) ≥ Int32.toInt n2 := Int.not_lt.mp ((not_congr (zi_lt _ _)).mp c75_)
                      show PW 198 d (75, [some (pvR 0), some (pvI n1), some (pvI n2), some (pvI n3), some (pvI n4), some (pvI n5), some (pvR (pvbs 2 + Int32.toNatClampNeg n1)), some (pvR (pvbs 2 + Int32.toNatClampNeg n3))], [pvI 1], M) _
                      refine pw_if hT (c := 1 = 0) rfl rfl (fun c81_ => absurd c81_ (by decide)) (fun c81_ => ?_)
                      refine pw_blk hT 3 (S' := (84, [some (pvR 0), some (pvI n1), some (pvI n2), some (pvI n3), some (pvI n4), some (pvI n5), some (pvR (pvbs 2 + Int32.toNatClampNeg n1)), some (pvR (pvbs 2 + Int32.toNatClampNeg n3))], [pvI n5, pvI n4, pvR (pvbs 2 + Int32.toNatClampNeg n3)], M)) rfl ⟨trivial, trivial, trivial, trivial⟩ ?_
                      refine pw_callT hT (as := [pvR (pvbs 2 + Int32.toNatClampNeg n3), pvI n4, pvI n5]) (lo1 := [some (pvR (pvbs 2 + Int32.toNatClampNeg n3)), some (pvI n4), some (pvI n5)]) (d1 := d) (rest := []) rfl rfl rfl rfl rfl (fun _ => k33_) (Nat.zero_le _) rfl rfl rfl (sf_X8_hasSpan_x_x_x M hok (pvbs 2 + Int32.toNatClampNeg n3) n4 n5 k33_ d) ?_
                      refine pw_eqI (if_neg c64_) ?_
                      by_cases c87_ : n4 < 0
                      · refine pw_eqI (if_pos c87_) ?_
                        have b88_ : (-2147483648) ≤ Int32.toInt n4 ∧ Int32.toInt n4 ≤ (-1) := zr_lt_l (-1) c87_ (zbnd n4) (show 0 ≤ Int32.toInt 0 ∧ Int32.toInt 0 ≤ 0 from (by decide)) (by decide)
                        show PW 198 d (87, [some (pvR 0), some (pvI n1), some (pvI n2), some (pvI n3), some (pvI n4), some (pvI n5), some (pvR (pvbs 2 + Int32.toNatClampNeg n1)), some (pvR (pvbs 2 + Int32.toNatClampNeg n3))], [pvI 0], M) _
                        refine pw_ifn hT (c := 0 = 0) rfl rfl (fun c89_ => absurd (by decide) c89_) (fun c89_ => ?_)
                        refine pw_blk hT 1 (S' := (92, [some (pvR 0), some (pvI n1), some (pvI n2), some (pvI n3), some (pvI n4), some (pvI n5), some (pvR (pvbs 2 + Int32.toNatClampNeg n1)), some (pvR (pvbs 2 + Int32.toNatClampNeg n3))], [pvI (-13)], M)) rfl ⟨trivial, trivial⟩ ?_
                        exact pw_ret hT rfl (r := some (pvI (-13))) (M' := M) ⟨rfl, rfl⟩ ⟨⟨_, rfl, (zr_wide (show (-13) ≤ Int32.toInt (-13) ∧ Int32.toInt (-13) ≤ (-13) from (by decide)) (by decide) (by decide)), (by rw [if_neg c6_, if_neg c10_, if_neg c20_, if_neg c24_, if_neg c41_, if_neg c52_, if_pos c57_, if_neg c64_, if_neg c68_, if_neg c75_, if_pos c87_]; first | done | (rw [if_pos c87_]; done))⟩, hok, pvfr_0, ⟨_, rfl, Or.inl ⟨by decide, rfl⟩⟩, (zSo_n (by decide))⟩
                      · refine pw_eqI (if_neg c87_) ?_
                        have b90_ : 0 ≤ Int32.toInt n4 ∧ Int32.toInt n4 ≤ 2147483647 := zr_nlt_l 0 c87_ (zbnd n4) (show 0 ≤ Int32.toInt 0 ∧ Int32.toInt 0 ≤ 0 from (by decide)) (by decide)
                        have b91_ : 0 ≤ Int32.toInt (M.1 (pvbs 2 + Int32.toNatClampNeg n3) 1) ∧ Int32.toInt (M.1 (pvbs 2 + Int32.toNatClampNeg n3) 1) ≤ 60 := pvok_r hok (pvbs 2 + Int32.toNatClampNeg n3) 1 ((pvrg_o 1 k33_ (by decide) (by decide)).trans rfl)
                        obtain ⟨q93_, b92_⟩ : (Int32.toInt ((M.1 (pvbs 2 + Int32.toNatClampNeg n3) 1) - n5) = Int32.toInt (M.1 (pvbs 2 + Int32.toNatClampNeg n3) 1) - Int32.toInt n5) ∧ ((-2147483647) ≤ Int32.toInt ((M.1 (pvbs 2 + Int32.toNatClampNeg n3) 1) - n5) ∧ Int32.toInt ((M.1 (pvbs 2 + Int32.toNatClampNeg n3) 1) - n5) ≤ 60) := zsub_r (M.1 (pvbs 2 + Int32.toNatClampNeg n3) 1) n5 (-2147483647) 60 b91_ b67_ (by decide) (by decide) (by decide) (by decide)
                        by_cases c94_ : ((M.1 (pvbs 2 + Int32.toNatClampNeg n3) 1) - n5) < n4
                        · refine pw_eqI (if_pos c94_) ?_
                          have d95_ : Int32.toInt ((M.1 (pvbs 2 + Int32.toNatClampNeg n3) 1) - n5) < Int32.toInt n4 := (zi_lt _ _).mp c94_
                          show PW 198 d (87, [some (pvR 0), some (pvI n1), some (pvI n2), some (pvI n3), some (pvI n4), some (pvI n5), some (pvR (pvbs 2 + Int32.toNatClampNeg n1)), some (pvR (pvbs 2 + Int32.toNatClampNeg n3))], [pvI 0], M) _
                          refine pw_ifn hT (c := 0 = 0) rfl rfl (fun c96_ => absurd (by decide) c96_) (fun c96_ => ?_)
                          refine pw_blk hT 1 (S' := (92, [some (pvR 0), some (pvI n1), some (pvI n2), some (pvI n3), some (pvI n4), some (pvI n5), some (pvR (pvbs 2 + Int32.toNatClampNeg n1)), some (pvR (pvbs 2 + Int32.toNatClampNeg n3))], [pvI (-13)], M)) rfl ⟨trivial, trivial⟩ ?_
                          exact pw_ret hT rfl (r := some (pvI (-13))) (M' := M) ⟨rfl, rfl⟩ ⟨⟨_, rfl, (zr_wide (show (-13) ≤ Int32.toInt (-13) ∧ Int32.toInt (-13) ≤ (-13) from (by decide)) (by decide) (by decide)), (by rw [if_neg c6_, if_neg c10_, if_neg c20_, if_neg c24_, if_neg c41_, if_neg c52_, if_pos c57_, if_neg c64_, if_neg c68_, if_neg c75_, if_neg c87_, if_pos c94_]; first | done | (rw [if_pos c94_]; done))⟩, hok, pvfr_0, ⟨_, rfl, Or.inl ⟨by decide, rfl⟩⟩, (zSo_n (by decide))⟩
                        · refine pw_eqI (if_neg c94_) ?_
                          have b97_ : 0 ≤ Int32.toInt ((M.1 (pvbs 2 + Int32.toNatClampNeg n3) 1) - n5) ∧ Int32.toInt ((M.1 (pvbs 2 + Int32.toNatClampNeg n3) 1) - n5) ≤ 60 := zr_nlt_l 0 c94_ b92_ b90_ (by decide)
                          have b98_ : 0 ≤ Int32.toInt n4 ∧ Int32.toInt n4 ≤ 60 := zr_nlt_r 60 c94_ b90_ b97_ (by decide)
                          have d99_ : Int32.toInt ((M.1 (pvbs 2 + Int32.toNatClampNeg n3) 1) - n5) ≥ Int32.toInt n4 := Int.not_lt.mp ((not_congr (zi_lt _ _)).mp c94_)
                          show PW 198 d (87, [some (pvR 0), some (pvI n1), some (pvI n2), some (pvI n3), some (pvI n4), some (pvI n5), some (pvR (pvbs 2 + Int32.toNatClampNeg n1)), some (pvR (pvbs 2 + Int32.toNatClampNeg n3))], [pvI 1], M) _
                          refine pw_ifn hT (c := 1 = 0) rfl rfl (fun c100_ => ?_) (fun c100_ => absurd c100_ (by decide))
                          refine pw_blkw hT 8 (pc := 111) (lo := [some (pvR 0), some (pvI n1), some (pvI n2), some (pvI n3), some (pvI n4), some (pvI n5), some (pvR (pvbs 2 + Int32.toNatClampNeg n1)), some (pvR (pvbs 2 + Int32.toNatClampNeg n3))]) (st := []) (M := pvrL M ((pvbs 2 + Int32.toNatClampNeg n3) + 6) (va_cpy (M.2 ((pvbs 2 + Int32.toNatClampNeg n1) + 6)) (M.2 ((pvbs 2 + Int32.toNatClampNeg n3) + 6)) (Int32.toNatClampNeg n2) (Int32.toNatClampNeg n4) (Int32.toNatClampNeg n5))) rfl ⟨trivial, k30_, trivial, trivial, k33_, trivial, trivial, ⟨(pvow_7_6 k30_).1, (pvow_7_6 k33_).1, (pvnneg (b := 60) b79_), (pvnneg (b := 60) b98_), (pvnneg (b := 2147483647) b67_), (by have u0 := b79_; have u1 := b67_; have u2 := ztn n2 (by omega); have u3 := ztn n5 (by omega); rw [(pvow_7_6 k30_).2.1]; omega), (by have u0 := b98_; have u1 := b67_; have u2 := ztn n4 (by omega); have u3 := ztn n5 (by omega); rw [(pvow_7_6 k33_).2.1]; omega), Nat.le_of_ble_eq_true rfl⟩, trivial⟩ (fun M101_ e102_ => ?_)
                          have o103_ : pvOk M101_ := pvok_rL e102_ hok
                          have f104_ : pvFr fp_eX9_shift_0_x_x_x_x_x M M101_ := pvfr_rL e102_ pvfr_0
                          refine pw_blk hT 1 (S' := (113, [some (pvR 0), some (pvI n1), some (pvI n2), some (pvI n3), some (pvI n4), some (pvI n5), some (pvR (pvbs 2 + Int32.toNatClampNeg n1)), some (pvR (pvbs 2 + Int32.toNatClampNeg n3))], [pvI n5], M101_)) rfl ⟨trivial, trivial⟩ ?_
                          exact pw_ret hT rfl (r := some (pvI n5)) (M' := M101_) ⟨rfl, rfl⟩ ⟨⟨_, rfl, (zr_wide b67_ (by decide) (by decide)), (by rw [if_neg c6_, if_neg c10_, if_neg c20_, if_neg c24_, if_neg c41_, if_neg c52_, if_pos c57_, if_neg c64_, if_neg c68_, if_neg c75_, if_neg c87_, if_neg c94_]; first | done | (rw [if_neg c94_]; done))⟩, o103_, f104_, (zSH9_c (by have u := b67_; omega) b13_ b27_ (by have u := b79_; omega) (by have u := b98_; omega) (show Int32.toInt n2 + Int32.toInt n5 ≤ Int32.toInt (M.1 (pvbs 2 + Int32.toNatClampNeg n1) 1) from by omega) (show Int32.toInt n4 + Int32.toInt n5 ≤ Int32.toInt (M.1 (pvbs 2 + Int32.toNatClampNeg n3) 1) from by omega) (show pvbs 2 + Int32.toNatClampNeg n1 + 6 = 94 + Int32.toNatClampNeg n1 from by have u : pvbs 2 = 88 := rfl; omega) (show pvbs 2 + Int32.toNatClampNeg n3 + 6 = 94 + Int32.toNatClampNeg n3 from by have u : pvbs 2 = 88 := rfl; omega) e102_), (zSo_y (by have v : pvbs 2 = 88 := rfl; exact v ▸ c57_))⟩
              · refine pw_blk hT 1 (S' := (66, [some (pvR 0), some (pvI n1), some (pvI n2), some (pvI n3), some (pvI n4), some (pvI n5), some (pvR (pvbs 2 + Int32.toNatClampNeg n1)), some (pvR (pvbs 2 + Int32.toNatClampNeg n3))], [pvI (-12)], M)) rfl ⟨trivial, trivial⟩ ?_
                exact pw_ret hT rfl (r := some (pvI (-12))) (M' := M) ⟨rfl, rfl⟩ ⟨⟨_, rfl, (zr_wide (show (-12) ≤ Int32.toInt (-12) ∧ Int32.toInt (-12) ≤ (-12) from (by decide)) (by decide) (by decide)), (by rw [if_neg c6_, if_neg c10_, if_neg c20_, if_neg c24_, if_neg c41_, if_neg c52_, if_neg c57_]; first | done | (rw [if_neg c57_]; done))⟩, hok, pvfr_0, ⟨_, rfl, Or.inl ⟨by decide, rfl⟩⟩, (zSo_n (by decide))⟩
def fpL_eX9_shut_0_x : List (Nat × Nat × Nat) := [(0, 12, 0), (0, 13, 0), (0, 14, 0), (0, 5, 2), (0, 5, 3), (0, 8, 5), (0, 8, 6), (0, 8, 7), (0, 8, 8), (1, 112, 0), (1, 3, 6)]
def fp_eX9_shut_0_x (q k : Nat) : Bool := pvfp fpL_eX9_shut_0_x q k
theorem fp_eX9_shut_0_x_fp_X1_beginFromNow_5 (a b : Nat) (h : fp_X1_beginFromNow_5 a b = true) : fp_eX9_shut_0_x a b = true := pvfp_sub (l1 := fpL_X1_beginFromNow_5) (l2 := fpL_eX9_shut_0_x) (by decide) a b h
theorem fp_eX9_shut_0_x_fp_eX9_go_0_x (a b : Nat) (h : fp_eX9_go_0_x a b = true) : fp_eX9_shut_0_x a b = true := pvfp_sub (l1 := fpL_eX9_go_0_x) (l2 := fpL_eX9_shut_0_x) (by decide) a b h
set_option maxHeartbeats 4000000 in
set_option maxRecDepth 10000 in
theorem se_X9_shut_0_x (M : pvM) (hok : pvOk M) (n1 : Int32) (d : Nat) : PW 199 d (0, [some (pvR 0), some (pvI n1), none, none], [], M) (fun r X => (∃ x : Int32, r = some (pvI x) ∧ (-3) ≤ Int32.toInt x ∧ Int32.toInt x ≤ 319) ∧ pvOk X ∧ pvFr fp_eX9_shut_0_x M X ∧ zST9 n1 r M X ∧ zKy9 9 74 M X) := by
  have hT : pvdom 199 = pvD_199 := rfl
  have b1_ : 0 ≤ Int32.toInt (M.1 8 4) ∧ Int32.toInt (M.1 8 4) ≤ 9999 := pvok_r hok 8 4 rfl
  refine pw_blk hT 3 (S' := (5, [some (pvR 0), some (pvI n1), none, none], [pvI n1, pvR 8], M)) rfl ⟨trivial, rfl, trivial, trivial⟩ ?_
  refine pw_callT hT (as := [pvR 8, pvI n1]) (lo1 := [some (pvR 8), some (pvI n1)]) (d1 := d) (rest := []) rfl rfl rfl rfl rfl (fun _ => rfl) (Nat.zero_le _) rfl rfl rfl (sf_X7_has_8_x M hok n1 d) ?_
  by_cases c7_ : n1 < 0
  · refine pw_eqI (if_pos c7_) ?_
    have b8_ : (-2147483648) ≤ Int32.toInt n1 ∧ Int32.toInt n1 ≤ (-1) := zr_lt_l (-1) c7_ (zbnd n1) (show 0 ≤ Int32.toInt 0 ∧ Int32.toInt 0 ≤ 0 from (by decide)) (by decide)
    show PW 199 d (8, [some (pvR 0), some (pvI n1), none, none], [pvI 0], M) _
    refine pw_ifn hT (c := 0 = 0) rfl rfl (fun c9_ => absurd (by decide) c9_) (fun c9_ => ?_)
    refine pw_blk hT 1 (S' := (12, [some (pvR 0), some (pvI n1), none, none], [pvI (-1)], M)) rfl ⟨trivial, trivial⟩ ?_
    exact pw_ret hT rfl (r := some (pvI (-1))) (M' := M) ⟨rfl, rfl⟩ ⟨⟨_, rfl, (zr_wide (show (-1) ≤ Int32.toInt (-1) ∧ Int32.toInt (-1) ≤ (-1) from (by decide)) (by decide) (by decide))⟩, hok, pvfr_0, ⟨zwT_n (by decide), zsA_0 (zvl_l c7_)⟩, (zKy9_r 9 74 M)⟩
  · refine pw_eqI (if_neg c7_) ?_
    have b10_ : 0 ≤ Int32.toInt n1 ∧ Int32.toInt n1 ≤ 2147483647 := zr_nlt_l 0 c7_ (zbnd n1) (show 0 ≤ Int32.toInt 0 ∧ Int32.toInt 0 ≤ 0 from (by decide)) (by decide)
    have b11_ : 0 ≤ Int32.toInt (M.1 8 1) ∧ Int32.toInt (M.1 8 1) ≤ 7 := pvok_r hok 8 1 rfl
    by_cases c12_ : (M.1 8 1) ≤ n1
    · refine pw_eqI (if_pos c12_) ?_
      have d13_ : Int32.toInt (M.1 8 1) ≤ Int32.toInt n1 := (zi_le _ _).mp c12_
      show PW 199 d (8, [some (pvR 0), some (pvI n1), none, none], [pvI 0], M) _
      refine pw_ifn hT (c := 0 = 0) rfl rfl (fun c14_ => absurd (by decide) c14_) (fun c14_ => ?_)
      refine pw_blk hT 1 (S' := (12, [some (pvR 0), some (pvI n1), none, none], [pvI (-1)], M)) rfl ⟨trivial, trivial⟩ ?_
      exact pw_ret hT rfl (r := some (pvI (-1))) (M' := M) ⟨rfl, rfl⟩ ⟨⟨_, rfl, (zr_wide (show (-1) ≤ Int32.toInt (-1) ∧ Int32.toInt (-1) ≤ (-1) from (by decide)) (by decide) (by decide))⟩, hok, pvfr_0, ⟨zwT_n (by decide), zsA_0 (zvl_u c12_)⟩, (zKy9_r 9 74 M)⟩
    · refine pw_eqI (if_neg c12_) ?_
      have b15_ : 1 ≤ Int32.toInt (M.1 8 1) ∧ Int32.toInt (M.1 8 1) ≤ 7 := zr_nle_l 1 c12_ b11_ b10_ (by decide)
      have b16_ : 0 ≤ Int32.toInt n1 ∧ Int32.toInt n1 ≤ 6 := zr_nle_r 6 c12_ b10_ b15_ (by decide)
      have d17_ : Int32.toInt (M.1 8 1) > Int32.toInt n1 := Int.not_le.mp ((not_congr (zi_le _ _)).mp c12_)
      show PW 199 d (8, [some (pvR 0), some (pvI n1), none, none], [pvI 1], M) _
      refine pw_ifn hT (c := 1 = 0) rfl rfl (fun c18_ => ?_) (fun c18_ => absurd c18_ (by decide))
      refine pw_blkr hT 5 (pc := 22) (lo := [some (pvR 0), some (pvI n1), none, none]) (st := []) (M := M) (z := (pvbs 10 + Int32.toNatClampNeg n1)) rfl ⟨trivial, rfl, rfl, trivial, ⟨rfl, (zr_in (n := 7) b16_ (by decide) (by decide))⟩, trivial⟩ (fun q19_ e21_ => ?_)
      have k20_ : pvkl q19_ = 3 := pvel_10 (zr_in (n := 7) b16_ (by decide) (by decide)) e21_
      subst e21_
      have b22_ : 0 ≤ Int32.toInt (M.1 8 6) ∧ Int32.toInt (M.1 8 6) ≤ 3 := pvok_r hok 8 6 rfl
      have b23_ : 0 ≤ Int32.toInt (M.1 8 7) ∧ Int32.toInt (M.1 8 7) ≤ 4 := pvok_r hok 8 7 rfl
      have b24_ : 15 ≤ Int32.toInt (M.1 8 8) ∧ Int32.toInt (M.1 8 8) ≤ 23 := pvok_r hok 8 8 rfl
      refine pw_blkr hT 11 (pc := 45) (lo := [some (pvR 0), some (pvI n1), some (pvR (pvbs 10 + Int32.toNatClampNeg n1)), none]) (st := [pvI (M.1 8 7), pvI (M.1 8 6), pvR (pvbs 10 + Int32.toNatClampNeg n1)]) (M := M) (z := (pvhp (M.1 8 8))) rfl ⟨trivial, trivial, trivial, rfl, rfl, trivial, rfl, rfl, trivial, rfl, rfl, trivial⟩ (fun q25_ e27_ => ?_)
      have k26_ : pvkl q25_ = 2 := pvhp_k b24_ e27_
      subst e27_
      have b28_ : 0 ≤ Int32.toInt (M.1 (pvhp (M.1 8 8)) 0) ∧ Int32.toInt (M.1 (pvhp (M.1 8 8)) 0) ≤ 99 := pvok_r hok (pvhp (M.1 8 8)) 0 ((pvrg_o 0 k26_ (by decide) (by decide)).trans rfl)
      refine pw_blk hT 1 (S' := (48, [some (pvR 0), some (pvI n1), some (pvR (pvbs 10 + Int32.toNatClampNeg n1)), none], [pvI (M.1 (pvhp (M.1 8 8)) 0), pvI (M.1 8 7), pvI (M.1 8 6), pvR (pvbs 10 + Int32.toNatClampNeg n1)], M)) rfl ⟨k26_, trivial⟩ ?_
      refine pw_callGp hT (as := [pvR (pvbs 10 + Int32.toNatClampNeg n1), pvI (M.1 8 6), pvI (M.1 8 7), pvI (M.1 (pvhp (M.1 8 8)) 0)]) (lo1 := [some (pvR (pvbs 10 + Int32.toNatClampNeg n1)), some (pvI (M.1 8 6)), some (pvI (M.1 8 7)), some (pvI (M.1 (pvhp (M.1 8 8)) 0)), none]) (d1 := d) (rest := []) rfl rfl rfl rfl rfl (fun _ => k20_) (Nat.zero_le _) rfl rfl rfl (se_X4_minutesFrom_x_x_x_x M hok (pvbs 10 + Int32.toNatClampNeg n1) (M.1 8 6) (M.1 8 7) (M.1 (pvhp (M.1 8 8)) 0) k20_ b22_ b23_ b28_ d) (fun x29_ b31_ => ?_)
      obtain ⟨b34_, d35_⟩ := b31_
      have b36_ : 0 ≤ Int32.toInt (M.1 (pvbs 10 + Int32.toNatClampNeg n1) 5) ∧ Int32.toInt (M.1 (pvbs 10 + Int32.toNatClampNeg n1) 5) ≤ 1 := pvok_r hok (pvbs 10 + Int32.toNatClampNeg n1) 5 ((pvrg_o 5 k20_ (by decide) (by decide)).trans rfl)
      refine pw_blk hT 3 (S' := (56, [some (pvR 0), some (pvI n1), some (pvR (pvbs 10 + Int32.toNatClampNeg n1)), some (pvI x29_)], [pvI (M.1 (pvbs 10 + Int32.toNatClampNeg n1) 5)], M)) rfl ⟨trivial, trivial, k20_, trivial⟩ ?_
      refine pw_ifn hT (c := (M.1 (pvbs 10 + Int32.toNatClampNeg n1) 5) = 0) rfl rfl (fun c37_ => ?_) (fun c37_ => ?_)
      · have b38_ : 1 ≤ Int32.toInt (M.1 (pvbs 10 + Int32.toNatClampNeg n1) 5) ∧ Int32.toInt (M.1 (pvbs 10 + Int32.toNatClampNeg n1) 5) ≤ 1 := (by have u0 := b36_; have u1 := (not_congr (zi_eq _ _)).mp c37_; have u2 := (show 0 ≤ Int32.toInt 0 ∧ Int32.toInt 0 ≤ 0 from (by decide)); omega)
        refine pw_blk hT 1 (S' := (76, [some (pvR 0), some (pvI n1), some (pvR (pvbs 10 + Int32.toNatClampNeg n1)), some (pvI x29_)], [pvI (-3)], M)) rfl ⟨trivial, trivial⟩ ?_
        exact pw_ret hT rfl (r := some (pvI (-3))) (M' := M) ⟨rfl, rfl⟩ ⟨⟨_, rfl, (zr_wide (show (-3) ≤ Int32.toInt (-3) ∧ Int32.toInt (-3) ≤ (-3) from (by decide)) (by decide) (by decide))⟩, hok, pvfr_0, ⟨zwT_n (by decide), zsA_1 (zvl_y c7_ c12_) (Or.inl c37_)⟩, (zKy9_r 9 74 M)⟩
      · have b39_ : 0 ≤ Int32.toInt (M.1 (pvbs 10 + Int32.toNatClampNeg n1) 5) ∧ Int32.toInt (M.1 (pvbs 10 + Int32.toNatClampNeg n1) 5) ≤ 0 := (by have u0 := b36_; have u1 := (zi_eq _ _).mp c37_; have u2 := (show 0 ≤ Int32.toInt 0 ∧ Int32.toInt 0 ≤ 0 from (by decide)); omega)
        obtain ⟨q41_, b40_⟩ : (Int32.toInt ((M.1 8 4) + x29_) = Int32.toInt (M.1 8 4) + Int32.toInt x29_) ∧ (0 ≤ Int32.toInt ((M.1 8 4) + x29_) ∧ Int32.toInt ((M.1 8 4) + x29_) ≤ 10318) := zadd_r (M.1 8 4) x29_ 0 10318 b1_ b34_ (by decide) (by decide) (by decide) (by decide)
        refine pw_blk hT 6 (S' := (71, [some (pvR 0), some (pvI n1), some (pvR (pvbs 10 + Int32.toNatClampNeg n1)), some (pvI x29_)], [pvI 9999, pvI ((M.1 8 4) + x29_)], M)) rfl ⟨trivial, rfl, rfl, trivial, trivial, trivial, trivial⟩ ?_
        refine pw_ic hT (c := ((M.1 8 4) + x29_) ≤ 9999) rfl rfl (fun c42_ => ?_) (fun c42_ => ?_)
        · have b43_ : 0 ≤ Int32.toInt ((M.1 8 4) + x29_) ∧ Int32.toInt ((M.1 8 4) + x29_) ≤ 9999 := zr_le_l 9999 c42_ b40_ (show 9999 ≤ Int32.toInt 9999 ∧ Int32.toInt 9999 ≤ 9999 from (by decide)) (by decide)
          refine pw_blk hT 2 (S' := (81, [some (pvR 0), some (pvI n1), some (pvR (pvbs 10 + Int32.toNatClampNeg n1)), some (pvI x29_)], [pvR 5], M)) rfl ⟨trivial, rfl, trivial⟩ ?_
          refine pw_callV hT (as := [pvR 5]) (lo1 := [some (pvR 5)]) (d1 := d) (rest := []) rfl rfl rfl rfl rfl (fun _ => rfl) (Nat.zero_le _) rfl rfl rfl (sf_X1_beginFromNow_5 M hok d) (fun M45_ o47_ g48_ => ?_)
          have f49_ : pvFr fp_eX9_shut_0_x M M45_ := pvfr_t g48_ pvfr_0 fp_eX9_shut_0_x_fp_X1_beginFromNow_5
          refine pw_blk hT 2 (S' := (86, [some (pvR 0), some (pvI n1), some (pvR (pvbs 10 + Int32.toNatClampNeg n1)), some (pvI x29_)], [pvI x29_, pvR 0], M45_)) rfl ⟨trivial, trivial, trivial⟩ ?_
          have e50_ : (M45_.1 8 4) = (M.1 8 4) := (g48_ 8 4 rfl)
          have b51_ : 0 ≤ Int32.toInt (M45_.1 8 4) ∧ Int32.toInt (M45_.1 8 4) ≤ 9999 := pvok_r o47_ 8 4 rfl
          have d52_ : Int32.toInt (M45_.1 8 4) = Int32.toInt (M.1 8 4) := congrArg Int32.toInt e50_
          refine pw_callGd hT (as := [pvR 0, pvI x29_]) (lo1 := [some (pvR 0), some (pvI x29_), none]) (d1 := d) (rest := []) rfl rfl rfl rfl rfl (fun _ => rfl) (Nat.zero_le _) rfl rfl rfl (se_X9_go_0_x M45_ o47_ x29_ (zr_wide b34_ (by decide) (by decide)) (show Int32.toInt (M45_.1 8 4) + Int32.toInt x29_ ≤ 9999 from (by omega)) d) (fun x54_ M55_ b56_ o57_ g58_ d53_ => ?_)
          have f59_ : pvFr fp_eX9_shut_0_x M M55_ := pvfr_t g58_ f49_ fp_eX9_shut_0_x_fp_eX9_go_0_x
          refine pw_blkw hT 4 (pc := 95) (lo := [some (pvR 0), some (pvI n1), some (pvR (pvbs 10 + Int32.toNatClampNeg n1)), some (pvI x29_)]) (st := []) (M := pvu M55_ (pvbs 10 + Int32.toNatClampNeg n1) 5 1) rfl ⟨trivial, trivial, trivial, ⟨k20_, Or.inr rfl⟩, trivial⟩ (fun M60_ e61_ => ?_)
          have o62_ : pvOk M60_ := pvok_u2 e61_ o57_ ((pvrg_o 5 k20_ (by decide) (by decide)).trans rfl) (zr_wide (show 1 ≤ Int32.toInt 1 ∧ Int32.toInt 1 ≤ 1 from (by decide)) (by decide) (by decide))
          have f63_ : pvFr fp_eX9_shut_0_x M M60_ := pvfr_u e61_ f59_ (pvfp_r (l := fpL_eX9_shut_0_x) (pvowr_3 k20_) (kk := 6) (by decide) (Or.inr rfl))
          have b64_ : 0 ≤ Int32.toInt (M60_.1 (pvbs 10 + Int32.toNatClampNeg n1) 2) ∧ Int32.toInt (M60_.1 (pvbs 10 + Int32.toNatClampNeg n1) 2) ≤ 3 := pvok_r o62_ (pvbs 10 + Int32.toNatClampNeg n1) 2 ((pvrg_o 2 k20_ (by decide) (by decide)).trans rfl)
          refine pw_blkw hT 5 (pc := 106) (lo := [some (pvR 0), some (pvI n1), some (pvR (pvbs 10 + Int32.toNatClampNeg n1)), some (pvI x29_)]) (st := []) (M := pvu M60_ 8 6 (M60_.1 (pvbs 10 + Int32.toNatClampNeg n1) 2)) rfl ⟨trivial, rfl, trivial, k20_, rfl, trivial⟩ (fun M65_ e66_ => ?_)
          have o67_ : pvOk M65_ := pvok_u2 e66_ o62_ rfl b64_
          have f68_ : pvFr fp_eX9_shut_0_x M M65_ := pvfr_u e66_ f63_ rfl
          have b69_ : 0 ≤ Int32.toInt (M65_.1 (pvbs 10 + Int32.toNatClampNeg n1) 3) ∧ Int32.toInt (M65_.1 (pvbs 10 + Int32.toNatClampNeg n1) 3) ≤ 4 := pvok_r o67_ (pvbs 10 + Int32.toNatClampNeg n1) 3 ((pvrg_o 3 k20_ (by decide) (by decide)).trans rfl)
          refine pw_blkw hT 5 (pc := 117) (lo := [some (pvR 0), some (pvI n1), some (pvR (pvbs 10 + Int32.toNatClampNeg n1)), some (pvI x29_)]) (st := []) (M := pvu M65_ 8 7 (M65_.1 (pvbs 10 + Int32.toNatClampNeg n1) 3)) rfl ⟨trivial, rfl, trivial, k20_, rfl, trivial⟩ (fun M70_ e71_ => ?_)
          have o72_ : pvOk M70_ := pvok_u2 e71_ o67_ rfl b69_
          have f73_ : pvFr fp_eX9_shut_0_x M M70_ := pvfr_u e71_ f68_ rfl
          refine pw_blk hT 1 (S' := (118, [some (pvR 0), some (pvI n1), some (pvR (pvbs 10 + Int32.toNatClampNeg n1)), some (pvI x29_)], [pvI x29_], M70_)) rfl ⟨trivial, trivial⟩ ?_
          exact pw_ret hT rfl (r := some (pvI x29_)) (M' := M70_) ⟨rfl, rfl⟩ ⟨⟨_, rfl, (zr_wide b34_ (by decide) (by decide))⟩, o72_, f73_, ⟨zwT_i (by have u := b34_; omega) b16_ (((((pvu_n e71_ 8 4 (Or.inr (by decide))).trans (pvu_n e66_ 8 4 (Or.inr (by decide)))).trans (pvu_n e61_ 8 4 (Or.inl (fun z => absurd (z ▸ k20_) (by decide))))).trans (d53_)).trans (show ((M45_.1 8 4) + x29_) = ((M.1 8 4) + x29_) from by rw [(g48_ 8 4 rfl)])) ((pvu_n e71_ 8 6 (Or.inr (by decide))).trans ((pvu_s e66_).trans (((pvu_n e61_ (pvbs 10 + Int32.toNatClampNeg n1) 2 (Or.inr (by decide))).trans (g58_ (pvbs 10 + Int32.toNatClampNeg n1) 2 (zfpn (L := fpL_eX9_go_0_x) b16_ (by decide +kernel)))).trans (g48_ (pvbs 10 + Int32.toNatClampNeg n1) 2 (zfpn (L := fpL_X1_beginFromNow_5) b16_ (by decide +kernel)))))) ((pvu_s e71_).trans ((pvu_n e66_ (pvbs 10 + Int32.toNatClampNeg n1) 3 (Or.inl (show (pvbs 10 + Int32.toNatClampNeg n1) ≠ 8 from by have u : pvbs 10 = 60 := rfl; omega))).trans (((pvu_n e61_ (pvbs 10 + Int32.toNatClampNeg n1) 3 (Or.inr (by decide))).trans (g58_ (pvbs 10 + Int32.toNatClampNeg n1) 3 (zfpn (L := fpL_eX9_go_0_x) b16_ (by decide +kernel)))).trans (g48_ (pvbs 10 + Int32.toNatClampNeg n1) 3 (zfpn (L := fpL_X1_beginFromNow_5) b16_ (by decide +kernel)))))) (zVu5 e61_ (fun i _ => (pvu_n e71_ (60 + i) 5 (Or.inl (by omega))).trans (pvu_n e66_ (60 + i) 5 (Or.inl (by omega)))) (fun i hi => ((zfr5 (L := fpL_eX9_go_0_x) g58_ (by decide +kernel) i hi).trans (zfr5 (L := fpL_X1_beginFromNow_5) g48_ (by decide +kernel) i hi)))), zsA_2 (zvl_y c7_ c12_) c37_ (by have b := b43_; unfold zcS9; rw [← d35_]; omega) d35_⟩, (zKy9_t (zKy9_t (zKy9_t (zKy9_t (zKy9_fr (L := fpL_X1_beginFromNow_5) g48_ (by decide +kernel)) (zKy9_fr (L := fpL_eX9_go_0_x) g58_ (by decide +kernel))) (zKy9_u e61_ (by have v : pvbs 10 = 60 := rfl; omega) (fun i hi => by have v : pvbs 10 = 60 := rfl; have w : Int32.toNatClampNeg n1 < 7 := (by have u := b16_; show n1.toInt.toNat < 7; omega); omega))) (zKy9_u e66_ (by decide) (fun i hi => by omega))) (zKy9_u e71_ (by decide) (fun i hi => by omega)))⟩
        · have b74_ : 10000 ≤ Int32.toInt ((M.1 8 4) + x29_) ∧ Int32.toInt ((M.1 8 4) + x29_) ≤ 10318 := zr_nle_l 10000 c42_ b40_ (show 9999 ≤ Int32.toInt 9999 ∧ Int32.toInt 9999 ≤ 9999 from (by decide)) (by decide)
          refine pw_blk hT 1 (S' := (76, [some (pvR 0), some (pvI n1), some (pvR (pvbs 10 + Int32.toNatClampNeg n1)), some (pvI x29_)], [pvI (-3)], M)) rfl ⟨trivial, trivial⟩ ?_
          exact pw_ret hT rfl (r := some (pvI (-3))) (M' := M) ⟨rfl, rfl⟩ ⟨⟨_, rfl, (zr_wide (show (-3) ≤ Int32.toInt (-3) ∧ Int32.toInt (-3) ≤ (-3) from (by decide)) (by decide) (by decide))⟩, hok, pvfr_0, ⟨zwT_n (by decide), zsA_1 (zvl_y c7_ c12_) (Or.inr (by have b := b74_; unfold zcS9; rw [← d35_]; omega))⟩, (zKy9_r 9 74 M)⟩
def fpL_eX9_stand_0_x_x : List (Nat × Nat × Nat) := [(0, 8, 7), (0, 8, 8)]
def fp_eX9_stand_0_x_x (q k : Nat) : Bool := pvfp fpL_eX9_stand_0_x_x q k
set_option maxHeartbeats 4000000 in
set_option maxRecDepth 10000 in
theorem se_X9_stand_0_x_x (M : pvM) (hok : pvOk M) (n1 : Int32) (n2 : Int32) (d : Nat) : PW 201 d (0, [some (pvR 0), some (pvI n1), some (pvI n2)], [], M) (fun r X => (∃ x : Int32, r = some (pvI x) ∧ ((-2) ≤ Int32.toInt x ∧ Int32.toInt x ≤ 1) ∧ x = (if n1 < 0 then (-2) else (if 3 < n1 then (-2) else (if n2 < 0 then (-2) else (if 4 < n2 then (-2) else 1))))) ∧ pvOk X ∧ pvFr fp_eX9_stand_0_x_x M X ∧ zwS n1 n2 (zw9 8 60 M) (zw9 8 60 X)) := by
  have hT : pvdom 201 = pvD_201 := rfl
  refine pw_blk hT 2 (S' := (2, [some (pvR 0), some (pvI n1), some (pvI n2)], [pvI n2, pvI n1], M)) rfl ⟨trivial, trivial, trivial⟩ ?_
  refine pw_callT hT (as := [pvI n1, pvI n2]) (lo1 := [some (pvI n1), some (pvI n2)]) (d1 := d) (rest := []) rfl rfl rfl rfl rfl (fun h => absurd h (by decide)) (Nat.zero_le _) rfl rfl rfl (sf_X9_isPlace_x_x M hok n1 n2 d) ?_
  by_cases c6_ : n1 < 0
  · refine pw_eqI (if_pos c6_) ?_
    have b7_ : (-2147483648) ≤ Int32.toInt n1 ∧ Int32.toInt n1 ≤ (-1) := zr_lt_l (-1) c6_ (zbnd n1) (show 0 ≤ Int32.toInt 0 ∧ Int32.toInt 0 ≤ 0 from (by decide)) (by decide)
    show PW 201 d (5, [some (pvR 0), some (pvI n1), some (pvI n2)], [pvI 0], M) _
    refine pw_ifn hT (c := 0 = 0) rfl rfl (fun c8_ => absurd (by decide) c8_) (fun c8_ => ?_)
    refine pw_blk hT 1 (S' := (10, [some (pvR 0), some (pvI n1), some (pvI n2)], [pvI (-2)], M)) rfl ⟨trivial, trivial⟩ ?_
    exact pw_ret hT rfl (r := some (pvI (-2))) (M' := M) ⟨rfl, rfl⟩ ⟨⟨_, rfl, (zr_wide (show (-2) ≤ Int32.toInt (-2) ∧ Int32.toInt (-2) ≤ (-2) from (by decide)) (by decide) (by decide)), (by rw [if_pos c6_]; first | done | (rw [if_pos c6_]; done))⟩, hok, pvfr_0, (zwS_n (fun z => by have v := (zi_lt _ _).mp c6_; have w := z.1.1; have u0 : (0 : Int32).toInt = 0 := (by decide); have u3 : (3 : Int32).toInt = 3 := (by decide); have u4 : (4 : Int32).toInt = 4 := (by decide); omega))⟩
  · refine pw_eqI (if_neg c6_) ?_
    have b9_ : 0 ≤ Int32.toInt n1 ∧ Int32.toInt n1 ≤ 2147483647 := zr_nlt_l 0 c6_ (zbnd n1) (show 0 ≤ Int32.toInt 0 ∧ Int32.toInt 0 ≤ 0 from (by decide)) (by decide)
    by_cases c10_ : 3 < n1
    · refine pw_eqI (if_pos c10_) ?_
      have b11_ : 4 ≤ Int32.toInt n1 ∧ Int32.toInt n1 ≤ 2147483647 := zr_lt_r 4 c10_ b9_ (show 3 ≤ Int32.toInt 3 ∧ Int32.toInt 3 ≤ 3 from (by decide)) (by decide)
      show PW 201 d (5, [some (pvR 0), some (pvI n1), some (pvI n2)], [pvI 0], M) _
      refine pw_ifn hT (c := 0 = 0) rfl rfl (fun c12_ => absurd (by decide) c12_) (fun c12_ => ?_)
      refine pw_blk hT 1 (S' := (10, [some (pvR 0), some (pvI n1), some (pvI n2)], [pvI (-2)], M)) rfl ⟨trivial, trivial⟩ ?_
      exact pw_ret hT rfl (r := some (pvI (-2))) (M' := M) ⟨rfl, rfl⟩ ⟨⟨_, rfl, (zr_wide (show (-2) ≤ Int32.toInt (-2) ∧ Int32.toInt (-2) ≤ (-2) from (by decide)) (by decide) (by decide)), (by rw [if_neg c6_, if_pos c10_]; first | done | (rw [if_pos c10_]; done))⟩, hok, pvfr_0, (zwS_n (fun z => by have v := (zi_lt _ _).mp c10_; have w := z.1.2; have u0 : (0 : Int32).toInt = 0 := (by decide); have u3 : (3 : Int32).toInt = 3 := (by decide); have u4 : (4 : Int32).toInt = 4 := (by decide); omega))⟩
    · refine pw_eqI (if_neg c10_) ?_
      have b13_ : 0 ≤ Int32.toInt n1 ∧ Int32.toInt n1 ≤ 3 := zr_nlt_r 3 c10_ b9_ (show 3 ≤ Int32.toInt 3 ∧ Int32.toInt 3 ≤ 3 from (by decide)) (by decide)
      by_cases c14_ : n2 < 0
      · refine pw_eqI (if_pos c14_) ?_
        have b15_ : (-2147483648) ≤ Int32.toInt n2 ∧ Int32.toInt n2 ≤ (-1) := zr_lt_l (-1) c14_ (zbnd n2) (show 0 ≤ Int32.toInt 0 ∧ Int32.toInt 0 ≤ 0 from (by decide)) (by decide)
        show PW 201 d (5, [some (pvR 0), some (pvI n1), some (pvI n2)], [pvI 0], M) _
        refine pw_ifn hT (c := 0 = 0) rfl rfl (fun c16_ => absurd (by decide) c16_) (fun c16_ => ?_)
        refine pw_blk hT 1 (S' := (10, [some (pvR 0), some (pvI n1), some (pvI n2)], [pvI (-2)], M)) rfl ⟨trivial, trivial⟩ ?_
        exact pw_ret hT rfl (r := some (pvI (-2))) (M' := M) ⟨rfl, rfl⟩ ⟨⟨_, rfl, (zr_wide (show (-2) ≤ Int32.toInt (-2) ∧ Int32.toInt (-2) ≤ (-2) from (by decide)) (by decide) (by decide)), (by rw [if_neg c6_, if_neg c10_, if_pos c14_]; first | done | (rw [if_pos c14_]; done))⟩, hok, pvfr_0, (zwS_n (fun z => by have v := (zi_lt _ _).mp c14_; have w := z.2.1; have u0 : (0 : Int32).toInt = 0 := (by decide); have u3 : (3 : Int32).toInt = 3 := (by decide); have u4 : (4 : Int32).toInt = 4 := (by decide); omega))⟩
      · refine pw_eqI (if_neg c14_) ?_
        have b17_ : 0 ≤ Int32.toInt n2 ∧ Int32.toInt n2 ≤ 2147483647 := zr_nlt_l 0 c14_ (zbnd n2) (show 0 ≤ Int32.toInt 0 ∧ Int32.toInt 0 ≤ 0 from (by decide)) (by decide)
        by_cases c18_ : 4 < n2
        · refine pw_eqI (if_pos c18_) ?_
          have b19_ : 5 ≤ Int32.toInt n2 ∧ Int32.toInt n2 ≤ 2147483647 := zr_lt_r 5 c18_ b17_ (show 4 ≤ Int32.toInt 4 ∧ Int32.toInt 4 ≤ 4 from (by decide)) (by decide)
          show PW 201 d (5, [some (pvR 0), some (pvI n1), some (pvI n2)], [pvI 0], M) _
          refine pw_ifn hT (c := 0 = 0) rfl rfl (fun c20_ => absurd (by decide) c20_) (fun c20_ => ?_)
          refine pw_blk hT 1 (S' := (10, [some (pvR 0), some (pvI n1), some (pvI n2)], [pvI (-2)], M)) rfl ⟨trivial, trivial⟩ ?_
          exact pw_ret hT rfl (r := some (pvI (-2))) (M' := M) ⟨rfl, rfl⟩ ⟨⟨_, rfl, (zr_wide (show (-2) ≤ Int32.toInt (-2) ∧ Int32.toInt (-2) ≤ (-2) from (by decide)) (by decide) (by decide)), (by rw [if_neg c6_, if_neg c10_, if_neg c14_, if_pos c18_]; first | done | (rw [if_pos c18_]; done))⟩, hok, pvfr_0, (zwS_n (fun z => by have v := (zi_lt _ _).mp c18_; have w := z.2.2; have u0 : (0 : Int32).toInt = 0 := (by decide); have u3 : (3 : Int32).toInt = 3 := (by decide); have u4 : (4 : Int32).toInt = 4 := (by decide); omega))⟩
        · refine pw_eqI (if_neg c18_) ?_
          have b21_ : 0 ≤ Int32.toInt n2 ∧ Int32.toInt n2 ≤ 4 := zr_nlt_r 4 c18_ b17_ (show 4 ≤ Int32.toInt 4 ∧ Int32.toInt 4 ≤ 4 from (by decide)) (by decide)
          show PW 201 d (5, [some (pvR 0), some (pvI n1), some (pvI n2)], [pvI 1], M) _
          refine pw_ifn hT (c := 1 = 0) rfl rfl (fun c22_ => ?_) (fun c22_ => absurd c22_ (by decide))
          refine pw_blkw hT 4 (pc := 19) (lo := [some (pvR 0), some (pvI n1), some (pvI n2)]) (st := []) (M := pvu M 8 6 n1) rfl ⟨trivial, rfl, trivial, rfl, trivial⟩ (fun M23_ e24_ => ?_)
          have o25_ : pvOk M23_ := pvok_u2 e24_ hok rfl b13_
          have f26_ : pvFr fp_eX9_stand_0_x_x M M23_ := pvfr_u e24_ pvfr_0 rfl
          refine pw_blkw hT 4 (pc := 27) (lo := [some (pvR 0), some (pvI n1), some (pvI n2)]) (st := []) (M := pvu M23_ 8 7 n2) rfl ⟨trivial, rfl, trivial, rfl, trivial⟩ (fun M27_ e28_ => ?_)
          have o29_ : pvOk M27_ := pvok_u2 e28_ o25_ rfl b21_
          have f30_ : pvFr fp_eX9_stand_0_x_x M M27_ := pvfr_u e28_ f26_ rfl
          refine pw_blk hT 1 (S' := (28, [some (pvR 0), some (pvI n1), some (pvI n2)], [pvI 1], M27_)) rfl ⟨trivial, trivial⟩ ?_
          exact pw_ret hT rfl (r := some (pvI 1)) (M' := M27_) ⟨rfl, rfl⟩ ⟨⟨_, rfl, (zr_wide (show 1 ≤ Int32.toInt 1 ∧ Int32.toInt 1 ≤ 1 from (by decide)) (by decide) (by decide)), (by rw [if_neg c6_, if_neg c10_, if_neg c14_, if_neg c18_]; first | done | (rw [if_neg c18_]; done))⟩, o29_, f30_, (zwS_i ⟨b13_, b21_⟩ ((pvu_n e28_ 8 4 (Or.inr (by decide))).trans (pvu_n e24_ 8 4 (Or.inr (by decide)))) ((pvu_n e28_ 8 6 (Or.inr (by decide))).trans (pvu_s e24_)) (pvu_s e28_) (fun i _ => (pvu_n e28_ (60 + i) 5 (Or.inl (by omega))).trans (pvu_n e24_ (60 + i) 5 (Or.inl (by omega)))))⟩
def fpL_eX9_storm_0_x_x : List (Nat × Nat × Nat) := [(0, 8, 3), (0, 8, 4)]
def fp_eX9_storm_0_x_x (q k : Nat) : Bool := pvfp fpL_eX9_storm_0_x_x q k
set_option maxHeartbeats 4000000 in
set_option maxRecDepth 10000 in
theorem se_X9_storm_0_x_x (M : pvM) (hok : pvOk M) (n1 : Int32) (n2 : Int32) (d : Nat) : PW 202 d (0, [some (pvR 0), some (pvI n1), some (pvI n2), none], [], M) (fun r X => (∃ x : Int32, r = some (pvI x) ∧ ((-2) ≤ Int32.toInt x ∧ Int32.toInt x ≤ 99) ∧ x = (if n2 < 0 then (-1) else (if 3 < n2 then (-1) else (if n1 < 0 then (-2) else (if 99 < n1 then (-2) else (M.1 8 2)))))) ∧ pvOk X ∧ pvFr fp_eX9_storm_0_x_x M X ∧ X.1 8 2 = (if n2 < 0 then (M.1 8 2) else (if 3 < n2 then (M.1 8 2) else (if n1 < 0 then (M.1 8 2) else (if 99 < n1 then (M.1 8 2) else n1)))) ∧ X.1 8 3 = (if n2 < 0 then (M.1 8 3) else (if 3 < n2 then (M.1 8 3) else (if n1 < 0 then (M.1 8 3) else (if 99 < n1 then (M.1 8 3) else n2))))) := by
  have hT : pvdom 202 = pvD_202 := rfl
  refine pw_blk hT 3 (S' := (3, [some (pvR 0), some (pvI n1), some (pvI n2), none], [pvI 3, pvI 0, pvI n2], M)) rfl ⟨trivial, trivial, trivial, trivial⟩ ?_
  refine pw_callT hT (as := [pvI n2, pvI 0, pvI 3]) (lo1 := [some (pvI n2), some (pvI 0), some (pvI 3)]) (d1 := d) (rest := []) rfl rfl rfl rfl rfl (fun h => absurd h (by decide)) (Nat.zero_le _) rfl rfl rfl (sf_X9_within_x_x_x M hok n2 0 3 d) ?_
  by_cases c6_ : n2 < 0
  · refine pw_eqI (if_pos c6_) ?_
    have b7_ : (-2147483648) ≤ Int32.toInt n2 ∧ Int32.toInt n2 ≤ (-1) := zr_lt_l (-1) c6_ (zbnd n2) (show 0 ≤ Int32.toInt 0 ∧ Int32.toInt 0 ≤ 0 from (by decide)) (by decide)
    show PW 202 d (6, [some (pvR 0), some (pvI n1), some (pvI n2), none], [pvI 0], M) _
    refine pw_ifn hT (c := 0 = 0) rfl rfl (fun c8_ => absurd (by decide) c8_) (fun c8_ => ?_)
    refine pw_blk hT 1 (S' := (10, [some (pvR 0), some (pvI n1), some (pvI n2), none], [pvI (-1)], M)) rfl ⟨trivial, trivial⟩ ?_
    exact pw_ret hT rfl (r := some (pvI (-1))) (M' := M) ⟨rfl, rfl⟩ ⟨⟨_, rfl, (zr_wide (show (-1) ≤ Int32.toInt (-1) ∧ Int32.toInt (-1) ≤ (-1) from (by decide)) (by decide) (by decide)), (by rw [if_pos c6_]; first | done | (rw [if_pos c6_]; done))⟩, hok, pvfr_0, (by rw [if_pos c6_]; first | done | exact rfl | (rw [if_pos c6_]; done) | (rw [if_pos c6_]; exact rfl)), (by rw [if_pos c6_]; first | done | exact rfl | (rw [if_pos c6_]; done) | (rw [if_pos c6_]; exact rfl))⟩
  · refine pw_eqI (if_neg c6_) ?_
    have b9_ : 0 ≤ Int32.toInt n2 ∧ Int32.toInt n2 ≤ 2147483647 := zr_nlt_l 0 c6_ (zbnd n2) (show 0 ≤ Int32.toInt 0 ∧ Int32.toInt 0 ≤ 0 from (by decide)) (by decide)
    by_cases c10_ : 3 < n2
    · refine pw_eqI (if_pos c10_) ?_
      have b11_ : 4 ≤ Int32.toInt n2 ∧ Int32.toInt n2 ≤ 2147483647 := zr_lt_r 4 c10_ b9_ (show 3 ≤ Int32.toInt 3 ∧ Int32.toInt 3 ≤ 3 from (by decide)) (by decide)
      show PW 202 d (6, [some (pvR 0), some (pvI n1), some (pvI n2), none], [pvI 0], M) _
      refine pw_ifn hT (c := 0 = 0) rfl rfl (fun c12_ => absurd (by decide) c12_) (fun c12_ => ?_)
      refine pw_blk hT 1 (S' := (10, [some (pvR 0), some (pvI n1), some (pvI n2), none], [pvI (-1)], M)) rfl ⟨trivial, trivial⟩ ?_
      exact pw_ret hT rfl (r := some (pvI (-1))) (M' := M) ⟨rfl, rfl⟩ ⟨⟨_, rfl, (zr_wide (show (-1) ≤ Int32.toInt (-1) ∧ Int32.toInt (-1) ≤ (-1) from (by decide)) (by decide) (by decide)), (by rw [if_neg c6_, if_pos c10_]; first | done | (rw [if_pos c10_]; done))⟩, hok, pvfr_0, (by rw [if_neg c6_, if_pos c10_]; first | done | exact rfl | (rw [if_pos c10_]; done) | (rw [if_pos c10_]; exact rfl)), (by rw [if_neg c6_, if_pos c10_]; first | done | exact rfl | (rw [if_pos c10_]; done) | (rw [if_pos c10_]; exact rfl))⟩
    · refine pw_eqI (if_neg c10_) ?_
      have b13_ : 0 ≤ Int32.toInt n2 ∧ Int32.toInt n2 ≤ 3 := zr_nlt_r 3 c10_ b9_ (show 3 ≤ Int32.toInt 3 ∧ Int32.toInt 3 ≤ 3 from (by decide)) (by decide)
      show PW 202 d (6, [some (pvR 0), some (pvI n1), some (pvI n2), none], [pvI 1], M) _
      refine pw_ifn hT (c := 1 = 0) rfl rfl (fun c14_ => ?_) (fun c14_ => absurd c14_ (by decide))
      refine pw_blk hT 3 (S' := (15, [some (pvR 0), some (pvI n1), some (pvI n2), none], [pvI 99, pvI 0, pvI n1], M)) rfl ⟨trivial, trivial, trivial, trivial⟩ ?_
      refine pw_callT hT (as := [pvI n1, pvI 0, pvI 99]) (lo1 := [some (pvI n1), some (pvI 0), some (pvI 99)]) (d1 := d) (rest := []) rfl rfl rfl rfl rfl (fun h => absurd h (by decide)) (Nat.zero_le _) rfl rfl rfl (sf_X9_within_x_x_x M hok n1 0 99 d) ?_
      by_cases c20_ : n1 < 0
      · refine pw_eqI (if_pos c20_) ?_
        have b21_ : (-2147483648) ≤ Int32.toInt n1 ∧ Int32.toInt n1 ≤ (-1) := zr_lt_l (-1) c20_ (zbnd n1) (show 0 ≤ Int32.toInt 0 ∧ Int32.toInt 0 ≤ 0 from (by decide)) (by decide)
        show PW 202 d (18, [some (pvR 0), some (pvI n1), some (pvI n2), none], [pvI 0], M) _
        refine pw_ifn hT (c := 0 = 0) rfl rfl (fun c22_ => absurd (by decide) c22_) (fun c22_ => ?_)
        refine pw_blk hT 1 (S' := (23, [some (pvR 0), some (pvI n1), some (pvI n2), none], [pvI (-2)], M)) rfl ⟨trivial, trivial⟩ ?_
        exact pw_ret hT rfl (r := some (pvI (-2))) (M' := M) ⟨rfl, rfl⟩ ⟨⟨_, rfl, (zr_wide (show (-2) ≤ Int32.toInt (-2) ∧ Int32.toInt (-2) ≤ (-2) from (by decide)) (by decide) (by decide)), (by rw [if_neg c6_, if_neg c10_, if_pos c20_]; first | done | (rw [if_pos c20_]; done))⟩, hok, pvfr_0, (by rw [if_neg c6_, if_neg c10_, if_pos c20_]; first | done | exact rfl | (rw [if_pos c20_]; done) | (rw [if_pos c20_]; exact rfl)), (by rw [if_neg c6_, if_neg c10_, if_pos c20_]; first | done | exact rfl | (rw [if_pos c20_]; done) | (rw [if_pos c20_]; exact rfl))⟩
      · refine pw_eqI (if_neg c20_) ?_
        have b23_ : 0 ≤ Int32.toInt n1 ∧ Int32.toInt n1 ≤ 2147483647 := zr_nlt_l 0 c20_ (zbnd n1) (show 0 ≤ Int32.toInt 0 ∧ Int32.toInt 0 ≤ 0 from (by decide)) (by decide)
        by_cases c24_ : 99 < n1
        · refine pw_eqI (if_pos c24_) ?_
          have b25_ : 100 ≤ Int32.toInt n1 ∧ Int32.toInt n1 ≤ 2147483647 := zr_lt_r 100 c24_ b23_ (show 99 ≤ Int32.toInt 99 ∧ Int32.toInt 99 ≤ 99 from (by decide)) (by decide)
          show PW 202 d (18, [some (pvR 0), some (pvI n1), some (pvI n2), none], [pvI 0], M) _
          refine pw_ifn hT (c := 0 = 0) rfl rfl (fun c26_ => absurd (by decide) c26_) (fun c26_ => ?_)
          refine pw_blk hT 1 (S' := (23, [some (pvR 0), some (pvI n1), some (pvI n2), none], [pvI (-2)], M)) rfl ⟨trivial, trivial⟩ ?_
          exact pw_ret hT rfl (r := some (pvI (-2))) (M' := M) ⟨rfl, rfl⟩ ⟨⟨_, rfl, (zr_wide (show (-2) ≤ Int32.toInt (-2) ∧ Int32.toInt (-2) ≤ (-2) from (by decide)) (by decide) (by decide)), (by rw [if_neg c6_, if_neg c10_, if_neg c20_, if_pos c24_]; first | done | (rw [if_pos c24_]; done))⟩, hok, pvfr_0, (by rw [if_neg c6_, if_neg c10_, if_neg c20_, if_pos c24_]; first | done | exact rfl | (rw [if_pos c24_]; done) | (rw [if_pos c24_]; exact rfl)), (by rw [if_neg c6_, if_neg c10_, if_neg c20_, if_pos c24_]; first | done | exact rfl | (rw [if_pos c24_]; done) | (rw [if_pos c24_]; exact rfl))⟩
        · refine pw_eqI (if_neg c24_) ?_
          have b27_ : 0 ≤ Int32.toInt n1 ∧ Int32.toInt n1 ≤ 99 := zr_nlt_r 99 c24_ b23_ (show 99 ≤ Int32.toInt 99 ∧ Int32.toInt 99 ≤ 99 from (by decide)) (by decide)
          show PW 202 d (18, [some (pvR 0), some (pvI n1), some (pvI n2), none], [pvI 1], M) _
          refine pw_ifn hT (c := 1 = 0) rfl rfl (fun c28_ => ?_) (fun c28_ => absurd c28_ (by decide))
          have b29_ : 0 ≤ Int32.toInt (M.1 8 2) ∧ Int32.toInt (M.1 8 2) ≤ 99 := pvok_r hok 8 2 rfl
          refine pw_blkw hT 8 (pc := 40) (lo := [some (pvR 0), some (pvI n1), some (pvI n2), some (pvI (M.1 8 2))]) (st := []) (M := pvu M 8 2 n1) rfl ⟨trivial, rfl, rfl, trivial, trivial, rfl, trivial, rfl, trivial⟩ (fun M30_ e31_ => ?_)
          have o32_ : pvOk M30_ := pvok_u2 e31_ hok rfl b27_
          have f33_ : pvFr fp_eX9_storm_0_x_x M M30_ := pvfr_u e31_ pvfr_0 rfl
          refine pw_blkw hT 4 (pc := 48) (lo := [some (pvR 0), some (pvI n1), some (pvI n2), some (pvI (M.1 8 2))]) (st := []) (M := pvu M30_ 8 3 n2) rfl ⟨trivial, rfl, trivial, rfl, trivial⟩ (fun M34_ e35_ => ?_)
          have o36_ : pvOk M34_ := pvok_u2 e35_ o32_ rfl b13_
          have f37_ : pvFr fp_eX9_storm_0_x_x M M34_ := pvfr_u e35_ f33_ rfl
          refine pw_blk hT 1 (S' := (49, [some (pvR 0), some (pvI n1), some (pvI n2), some (pvI (M.1 8 2))], [pvI (M.1 8 2)], M34_)) rfl ⟨trivial, trivial⟩ ?_
          exact pw_ret hT rfl (r := some (pvI (M.1 8 2))) (M' := M34_) ⟨rfl, rfl⟩ ⟨⟨_, rfl, (zr_wide b29_ (by decide) (by decide)), (by rw [if_neg c6_, if_neg c10_, if_neg c20_, if_neg c24_]; first | done | (rw [if_neg c24_]; done))⟩, o36_, f37_, (by rw [if_neg c6_, if_neg c10_, if_neg c20_, if_neg c24_]; first | done | exact ((pvu_n e35_ 8 2 (Or.inr (by decide))).trans (pvu_s e31_)) | (rw [if_neg c24_]; done) | (rw [if_neg c24_]; exact ((pvu_n e35_ 8 2 (Or.inr (by decide))).trans (pvu_s e31_)))), (by rw [if_neg c6_, if_neg c10_, if_neg c20_, if_neg c24_]; first | done | exact (pvu_s e35_) | (rw [if_neg c24_]; done) | (rw [if_neg c24_]; exact (pvu_s e35_)))⟩
