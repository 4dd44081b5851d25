def fpL_eX6_append_104_x_x : List (Nat × Nat × Nat) := [(0, 104, 1), (0, 112, 0), (0, 120, 0)]
def fp_eX6_append_104_x_x (q k : Nat) : Bool := pvfp fpL_eX6_append_104_x_x q k
set_option maxHeartbeats 4000000 in
set_option maxRecDepth 10000 in
theorem se_X6_append_104_x_x (M : pvM) (hok : pvOk M) (n1 : Int32) (n2 : Int32) (hn1 : 0 ≤ Int32.toInt n1 ∧ Int32.toInt n1 ≤ 6) (hn2 : 0 ≤ Int32.toInt n2 ∧ Int32.toInt n2 ≤ 9999) (d : Nat) : PW 151 d (0, [some (pvR 104), some (pvI n1), some (pvI n2)], [], M) (fun r X => (∃ x : Int32, r = some (pvI x) ∧ (1 ≤ Int32.toInt x ∧ Int32.toInt x ≤ 8) ∧ x = (if (M.1 104 0) < (Int32.ofNat 8) then ((M.1 104 0) + 1) else (M.1 104 0))) ∧ pvOk X ∧ pvFr fp_eX6_append_104_x_x M X ∧ zAp 104 112 120 8 n1 n2 M X ∧ X.1 104 0 = (if (M.1 104 0) < (Int32.ofNat 8) then ((M.1 104 0) + 1) else (M.1 104 0))) := by
  have hT : pvdom 151 = pvD_151 := rfl
  refine pw_blk hT 1 (S' := (1, [some (pvR 104), some (pvI n1), some (pvI n2)], [pvR 104], M)) rfl ⟨trivial, trivial⟩ ?_
  refine pw_callT hT (as := [pvR 104]) (lo1 := [some (pvR 104)]) (d1 := d) (rest := []) rfl rfl rfl rfl rfl (fun _ => rfl) (Nat.zero_le _) rfl rfl rfl (sf_X6_isFull_104 M hok d) ?_
  have b6_ : 0 ≤ Int32.toInt (M.1 104 0) ∧ Int32.toInt (M.1 104 0) ≤ 8 := pvok_r hok 104 0 rfl
  by_cases c7_ : (M.1 104 0) < (Int32.ofNat 8)
  · refine pw_eqI (if_pos c7_) ?_
    have b8_ : 0 ≤ Int32.toInt (M.1 104 0) ∧ Int32.toInt (M.1 104 0) ≤ 7 := zr_lt_l 7 c7_ b6_ (show 8 ≤ Int32.toInt (Int32.ofNat 8) ∧ Int32.toInt (Int32.ofNat 8) ≤ 8 from (by decide)) (by decide)
    show PW 151 d (4, [some (pvR 104), some (pvI n1), some (pvI n2)], [pvI 0], M) _
    refine pw_if hT (c := 0 = 0) rfl rfl (fun c9_ => ?_) (fun c9_ => absurd (by decide) c9_)
    refine pw_blkw hT 6 (pc := 22) (lo := [some (pvR 104), some (pvI n1), some (pvI n2)]) (st := []) (M := pvu M 112 (Int32.toNatClampNeg (M.1 104 0)) n1) rfl ⟨trivial, rfl, trivial, rfl, trivial, ⟨rfl, (zr_in (n := 8) b8_ (by decide) (by decide))⟩, trivial⟩ (fun M10_ e11_ => ?_)
    have o12_ : pvOk M10_ := pvok_u2 e11_ hok rfl hn1
    have f13_ : pvFr fp_eX6_append_104_x_x M M10_ := pvfr_u e11_ pvfr_0 rfl
    have e14_ : (M10_.1 104 0) = (M.1 104 0) := (pvu_n e11_ 104 0 (Or.inl (by decide)))
    have b15_ : 0 ≤ Int32.toInt (M10_.1 104 0) ∧ Int32.toInt (M10_.1 104 0) ≤ 7 := (by rw [e14_]; exact b8_)
    refine pw_blkw hT 6 (pc := 32) (lo := [some (pvR 104), some (pvI n1), some (pvI n2)]) (st := []) (M := pvu M10_ 120 (Int32.toNatClampNeg (M10_.1 104 0)) n2) rfl ⟨trivial, rfl, trivial, rfl, trivial, ⟨rfl, (zr_in (n := 8) b15_ (by decide) (by decide))⟩, trivial⟩ (fun M16_ e17_ => ?_)
    have o18_ : pvOk M16_ := pvok_u2 e17_ o12_ rfl hn2
    have f19_ : pvFr fp_eX6_append_104_x_x M M16_ := pvfr_u e17_ f13_ rfl
    have e20_ : (M16_.1 104 0) = (M10_.1 104 0) := (pvu_n e17_ 104 0 (Or.inl (by decide)))
    have b21_ : 0 ≤ Int32.toInt (M16_.1 104 0) ∧ Int32.toInt (M16_.1 104 0) ≤ 7 := (by rw [e20_]; exact b15_)
    obtain ⟨q23_, b22_⟩ : (Int32.toInt ((M16_.1 104 0) + 1) = Int32.toInt (M16_.1 104 0) + 1) ∧ (1 ≤ Int32.toInt ((M16_.1 104 0) + 1) ∧ Int32.toInt ((M16_.1 104 0) + 1) ≤ 8) := zadd_k (M16_.1 104 0) 1 1 1 8 b21_ (by decide) (by decide) (by decide) (by decide) (by decide)
    refine pw_blkw hT 6 (pc := 42) (lo := [some (pvR 104), some (pvI n1), some (pvI n2)]) (st := []) (M := pvu M16_ 104 0 ((M16_.1 104 0) + 1)) rfl ⟨trivial, trivial, rfl, trivial, trivial, rfl, trivial⟩ (fun M24_ e25_ => ?_)
    have o26_ : pvOk M24_ := pvok_u2 e25_ o18_ rfl (zr_wide b22_ (by decide) (by decide))
    have f27_ : pvFr fp_eX6_append_104_x_x M M24_ := pvfr_u e25_ f19_ rfl
    have e28_ : (M24_.1 104 0) = ((M16_.1 104 0) + 1) := (pvu_s e25_)
    have b29_ : 1 ≤ Int32.toInt (M24_.1 104 0) ∧ Int32.toInt (M24_.1 104 0) ≤ 8 := (by rw [e28_]; exact b22_)
    refine pw_blk hT 2 (S' := (46, [some (pvR 104), some (pvI n1), some (pvI n2)], [pvI (M24_.1 104 0)], M24_)) rfl ⟨trivial, rfl, trivial⟩ ?_
    exact pw_ret hT rfl (r := some (pvI (M24_.1 104 0))) (M' := M24_) ⟨rfl, rfl⟩ ⟨⟨_, rfl, b29_, (by rw [if_pos c7_]; first | done | exact (show (M24_.1 104 0) = ((M.1 104 0) + 1) from by rw [((pvu_s e25_).trans (show ((M16_.1 104 0) + 1) = ((M.1 104 0) + 1) from by rw [((pvu_n e17_ 104 0 (Or.inl (by decide))).trans (pvu_n e11_ 104 0 (Or.inl (by decide))))]))]) | (rw [if_pos c7_]; exact (show (M24_.1 104 0) = ((M.1 104 0) + 1) from by rw [((pvu_s e25_).trans (show ((M16_.1 104 0) + 1) = ((M.1 104 0) + 1) from by rw [((pvu_n e17_ 104 0 (Or.inl (by decide))).trans (pvu_n e11_ 104 0 (Or.inl (by decide))))]))])))⟩, o26_, f27_, (zAp_y (by decide) (by decide) (by decide) (by have u := b8_; omega) e11_ e17_ e25_), (by rw [if_pos c7_]; first | done | exact ((pvu_s e25_).trans (show ((M16_.1 104 0) + 1) = ((M.1 104 0) + 1) from by rw [((pvu_n e17_ 104 0 (Or.inl (by decide))).trans (pvu_n e11_ 104 0 (Or.inl (by decide))))])) | (rw [if_pos c7_]; done) | (rw [if_pos c7_]; exact ((pvu_s e25_).trans (show ((M16_.1 104 0) + 1) = ((M.1 104 0) + 1) from by rw [((pvu_n e17_ 104 0 (Or.inl (by decide))).trans (pvu_n e11_ 104 0 (Or.inl (by decide))))]))))⟩
  · refine pw_eqI (if_neg c7_) ?_
    have b30_ : 8 ≤ Int32.toInt (M.1 104 0) ∧ Int32.toInt (M.1 104 0) ≤ 8 := zr_nlt_l 8 c7_ b6_ (show 8 ≤ Int32.toInt (Int32.ofNat 8) ∧ Int32.toInt (Int32.ofNat 8) ≤ 8 from (by decide)) (by decide)
    show PW 151 d (4, [some (pvR 104), some (pvI n1), some (pvI n2)], [pvI 1], M) _
    refine pw_if hT (c := 1 = 0) rfl rfl (fun c31_ => absurd c31_ (by decide)) (fun c31_ => ?_)
    refine pw_blk hT 2 (S' := (11, [some (pvR 104), some (pvI n1), some (pvI n2)], [pvI (M.1 104 0)], M)) rfl ⟨trivial, rfl, trivial⟩ ?_
    exact pw_ret hT rfl (r := some (pvI (M.1 104 0))) (M' := M) ⟨rfl, rfl⟩ ⟨⟨_, rfl, (zr_wide b30_ (by decide) (by decide)), (by rw [if_neg c7_]; first | done | (rw [if_neg c7_]; done))⟩, hok, pvfr_0, (zAp_n (by have u := b30_; omega)), (by rw [if_neg c7_]; first | done | exact rfl | (rw [if_neg c7_]; done) | (rw [if_neg c7_]; exact rfl))⟩
def fpL_eX6_clear_104 : List (Nat × Nat × Nat) := [(0, 104, 1)]
def fp_eX6_clear_104 (q k : Nat) : Bool := pvfp fpL_eX6_clear_104 q k
set_option maxHeartbeats 4000000 in
set_option maxRecDepth 10000 in
theorem se_X6_clear_104 (M : pvM) (hok : pvOk M) (d : Nat) : PW 153 d (0, [some (pvR 104)], [], M) (fun r X => (∃ x : Int32, r = some (pvI x) ∧ (0 ≤ Int32.toInt x ∧ Int32.toInt x ≤ 0) ∧ x = 0) ∧ pvOk X ∧ pvFr fp_eX6_clear_104 M X ∧ X.1 104 0 = 0) := by
  have hT : pvdom 153 = pvD_153 := rfl
  refine pw_blkw hT 3 (pc := 5) (lo := [some (pvR 104)]) (st := []) (M := pvu M 104 0 0) rfl ⟨trivial, trivial, rfl, trivial⟩ (fun M1_ e2_ => ?_)
  have o3_ : pvOk M1_ := pvok_u2 e2_ hok rfl (zr_wide (show 0 ≤ Int32.toInt 0 ∧ Int32.toInt 0 ≤ 0 from (by decide)) (by decide) (by decide))
  have f4_ : pvFr fp_eX6_clear_104 M M1_ := pvfr_u e2_ pvfr_0 rfl
  refine pw_blk hT 1 (S' := (6, [some (pvR 104)], [pvI 0], M1_)) rfl ⟨trivial, trivial⟩ ?_
  exact pw_ret hT rfl (r := some (pvI 0)) (M' := M1_) ⟨rfl, rfl⟩ ⟨⟨_, rfl, (show 0 ≤ Int32.toInt 0 ∧ Int32.toInt 0 ≤ 0 from (by decide)), rfl⟩, o3_, f4_, (pvu_s e2_)⟩
def fpL_eX9_appendTold_0_104_x_x : List (Nat × Nat × Nat) := [(0, 104, 1), (0, 112, 0), (0, 120, 0)]
def fp_eX9_appendTold_0_104_x_x (q k : Nat) : Bool := pvfp fpL_eX9_appendTold_0_104_x_x q k
theorem fp_eX9_appendTold_0_104_x_x_fp_eX6_append_104_x_x (a b : Nat) (h : fp_eX6_append_104_x_x a b = true) : fp_eX9_appendTold_0_104_x_x a b = true := pvfp_sub (l1 := fpL_eX6_append_104_x_x) (l2 := fpL_eX9_appendTold_0_104_x_x) (by decide) a b h
theorem fp_eX9_appendTold_0_104_x_x_fp_eX6_clear_104 (a b : Nat) (h : fp_eX6_clear_104 a b = true) : fp_eX9_appendTold_0_104_x_x a b = true := pvfp_sub (l1 := fpL_eX6_clear_104) (l2 := fpL_eX9_appendTold_0_104_x_x) (by decide) a b h
set_option maxHeartbeats 4000000 in
set_option maxRecDepth 10000 in
theorem se_X9_appendTold_0_104_x_x (M : pvM) (hok : pvOk M) (n2 : Int32) (n3 : Int32) (d : Nat) : PW 168 d (0, [some (pvR 0), some (pvR 104), some (pvI n2), some (pvI n3)], [], M) (fun r X => (∃ x : Int32, r = some (pvI x) ∧ ((-4) ≤ Int32.toInt x ∧ Int32.toInt x ≤ 8) ∧ x = (if n2 = (-1) then 0 else (if n2 < 0 then (-1) else (if (M.1 8 1) ≤ n2 then (-1) else (if n3 < 0 then (-2) else (if 9999 < n3 then (-2) else (if (M.1 104 0) < (Int32.ofNat 8) then (if (M.1 104 0) < (Int32.ofNat 8) then ((M.1 104 0) + 1) else (M.1 104 0)) else (-4)))))))) ∧ pvOk X ∧ pvFr fp_eX9_appendTold_0_104_x_x M X ∧ zBk 104 0 112 120 8 1 8 n2 n3 r M X ∧ X.1 104 0 = (if n2 = (-1) then 0 else (if n2 < 0 then (M.1 104 0) else (if (M.1 8 1) ≤ n2 then (M.1 104 0) else (if n3 < 0 then (M.1 104 0) else (if 9999 < n3 then (M.1 104 0) else (if (M.1 104 0) < (Int32.ofNat 8) then (if (M.1 104 0) < (Int32.ofNat 8) then ((M.1 104 0) + 1) else (M.1 104 0)) else (M.1 104 0)))))))) := by
  have hT : pvdom 168 = pvD_168 := rfl
  refine pw_blk hT 2 (S' := (2, [some (pvR 0), some (pvR 104), some (pvI n2), some (pvI n3)], [pvI (-1), pvI n2], M)) rfl ⟨trivial, trivial, trivial⟩ ?_
  refine pw_icn hT (c := n2 = (-1)) rfl rfl (fun c1_ => ?_) (fun c1_ => ?_)
  · refine pw_blk hT 3 (S' := (15, [some (pvR 0), some (pvR 104), some (pvI n2), some (pvI n3)], [pvI n2, pvR 8], M)) rfl ⟨trivial, rfl, trivial, trivial⟩ ?_
    refine pw_callT hT (as := [pvR 8, pvI n2]) (lo1 := [some (pvR 8), some (pvI n2)]) (d1 := d) (rest := []) rfl rfl rfl rfl rfl (fun _ => rfl) (Nat.zero_le _) rfl rfl rfl (sf_X7_has_8_x M hok n2 d) ?_
    by_cases c7_ : n2 < 0
    · refine pw_eqI (if_pos c7_) ?_
      have b8_ : (-2147483648) ≤ Int32.toInt n2 ∧ Int32.toInt n2 ≤ (-2) := (by have u0 := (zbnd n2); have u9 := (show _ ∧ _ from ⟨(zi_lt _ _).mp c7_, (show 0 ≤ Int32.toInt 0 ∧ Int32.toInt 0 ≤ 0 from (by decide))⟩); have v1 := (not_congr (zi_eq _ _)).mp c1_; have w1 : ((-1) : Int32).toInt = -1 := (by decide); omega)
      show PW 168 d (18, [some (pvR 0), some (pvR 104), some (pvI n2), some (pvI n3)], [pvI 0], M) _
      refine pw_ifn hT (c := 0 = 0) rfl rfl (fun c9_ => absurd (by decide) c9_) (fun c9_ => ?_)
      refine pw_blk hT 1 (S' := (22, [some (pvR 0), some (pvR 104), some (pvI n2), some (pvI n3)], [pvI (-1)], M)) rfl ⟨trivial, trivial⟩ ?_
      exact pw_ret hT rfl (r := some (pvI (-1))) (M' := M) ⟨rfl, rfl⟩ ⟨⟨_, rfl, (zr_wide (show (-1) ≤ Int32.toInt (-1) ∧ Int32.toInt (-1) ≤ (-1) from (by decide)) (by decide) (by decide)), (by rw [if_neg c1_, if_pos c7_]; first | done | (rw [if_pos c7_]; done))⟩, hok, pvfr_0, (zBk_n (by decide)), (by rw [if_neg c1_, if_pos c7_]; first | done | exact rfl | (rw [if_pos c7_]; done) | (rw [if_pos c7_]; exact rfl))⟩
    · refine pw_eqI (if_neg c7_) ?_
      have b10_ : 0 ≤ Int32.toInt n2 ∧ Int32.toInt n2 ≤ 2147483647 := zr_nlt_l 0 c7_ (zbnd n2) (show 0 ≤ Int32.toInt 0 ∧ Int32.toInt 0 ≤ 0 from (by decide)) (by decide)
      have b11_ : 0 ≤ Int32.toInt (M.1 8 1) ∧ Int32.toInt (M.1 8 1) ≤ 7 := pvok_r hok 8 1 rfl
      by_cases c12_ : (M.1 8 1) ≤ n2
      · refine pw_eqI (if_pos c12_) ?_
        have d13_ : Int32.toInt (M.1 8 1) ≤ Int32.toInt n2 := (zi_le _ _).mp c12_
        show PW 168 d (18, [some (pvR 0), some (pvR 104), some (pvI n2), some (pvI n3)], [pvI 0], M) _
        refine pw_ifn hT (c := 0 = 0) rfl rfl (fun c14_ => absurd (by decide) c14_) (fun c14_ => ?_)
        refine pw_blk hT 1 (S' := (22, [some (pvR 0), some (pvR 104), some (pvI n2), some (pvI n3)], [pvI (-1)], M)) rfl ⟨trivial, trivial⟩ ?_
        exact pw_ret hT rfl (r := some (pvI (-1))) (M' := M) ⟨rfl, rfl⟩ ⟨⟨_, rfl, (zr_wide (show (-1) ≤ Int32.toInt (-1) ∧ Int32.toInt (-1) ≤ (-1) from (by decide)) (by decide) (by decide)), (by rw [if_neg c1_, if_neg c7_, if_pos c12_]; first | done | (rw [if_pos c12_]; done))⟩, hok, pvfr_0, (zBk_n (by decide)), (by rw [if_neg c1_, if_neg c7_, if_pos c12_]; first | done | exact rfl | (rw [if_pos c12_]; done) | (rw [if_pos c12_]; exact rfl))⟩
      · refine pw_eqI (if_neg c12_) ?_
        have b15_ : 1 ≤ Int32.toInt (M.1 8 1) ∧ Int32.toInt (M.1 8 1) ≤ 7 := zr_nle_l 1 c12_ b11_ b10_ (by decide)
        have b16_ : 0 ≤ Int32.toInt n2 ∧ Int32.toInt n2 ≤ 6 := zr_nle_r 6 c12_ b10_ b15_ (by decide)
        have d17_ : Int32.toInt (M.1 8 1) > Int32.toInt n2 := Int.not_le.mp ((not_congr (zi_le _ _)).mp c12_)
        show PW 168 d (18, [some (pvR 0), some (pvR 104), some (pvI n2), some (pvI n3)], [pvI 1], M) _
        refine pw_ifn hT (c := 1 = 0) rfl rfl (fun c18_ => ?_) (fun c18_ => absurd c18_ (by decide))
        refine pw_blk hT 3 (S' := (28, [some (pvR 0), some (pvR 104), some (pvI n2), some (pvI n3)], [pvI 9999, pvI 0, pvI n3], M)) rfl ⟨trivial, trivial, trivial, trivial⟩ ?_
        refine pw_callT hT (as := [pvI n3, pvI 0, pvI 9999]) (lo1 := [some (pvI n3), some (pvI 0), some (pvI 9999)]) (d1 := d) (rest := []) rfl rfl rfl rfl rfl (fun h => absurd h (by decide)) (Nat.zero_le _) rfl rfl rfl (sf_X9_within_x_x_x M hok n3 0 9999 d) ?_
        by_cases c24_ : n3 < 0
        · refine pw_eqI (if_pos c24_) ?_
          have b25_ : (-2147483648) ≤ Int32.toInt n3 ∧ Int32.toInt n3 ≤ (-1) := zr_lt_l (-1) c24_ (zbnd n3) (show 0 ≤ Int32.toInt 0 ∧ Int32.toInt 0 ≤ 0 from (by decide)) (by decide)
          show PW 168 d (31, [some (pvR 0), some (pvR 104), some (pvI n2), some (pvI n3)], [pvI 0], M) _
          refine pw_ifn hT (c := 0 = 0) rfl rfl (fun c26_ => absurd (by decide) c26_) (fun c26_ => ?_)
          refine pw_blk hT 1 (S' := (36, [some (pvR 0), some (pvR 104), some (pvI n2), some (pvI n3)], [pvI (-2)], M)) rfl ⟨trivial, trivial⟩ ?_
          exact pw_ret hT rfl (r := some (pvI (-2))) (M' := M) ⟨rfl, rfl⟩ ⟨⟨_, rfl, (zr_wide (show (-2) ≤ Int32.toInt (-2) ∧ Int32.toInt (-2) ≤ (-2) from (by decide)) (by decide) (by decide)), (by rw [if_neg c1_, if_neg c7_, if_neg c12_, if_pos c24_]; first | done | (rw [if_pos c24_]; done))⟩, hok, pvfr_0, (zBk_n (by decide)), (by rw [if_neg c1_, if_neg c7_, if_neg c12_, if_pos c24_]; first | done | exact rfl | (rw [if_pos c24_]; done) | (rw [if_pos c24_]; exact rfl))⟩
        · refine pw_eqI (if_neg c24_) ?_
          have b27_ : 0 ≤ Int32.toInt n3 ∧ Int32.toInt n3 ≤ 2147483647 := zr_nlt_l 0 c24_ (zbnd n3) (show 0 ≤ Int32.toInt 0 ∧ Int32.toInt 0 ≤ 0 from (by decide)) (by decide)
          by_cases c28_ : 9999 < n3
          · refine pw_eqI (if_pos c28_) ?_
            have b29_ : 10000 ≤ Int32.toInt n3 ∧ Int32.toInt n3 ≤ 2147483647 := zr_lt_r 10000 c28_ b27_ (show 9999 ≤ Int32.toInt 9999 ∧ Int32.toInt 9999 ≤ 9999 from (by decide)) (by decide)
            show PW 168 d (31, [some (pvR 0), some (pvR 104), some (pvI n2), some (pvI n3)], [pvI 0], M) _
            refine pw_ifn hT (c := 0 = 0) rfl rfl (fun c30_ => absurd (by decide) c30_) (fun c30_ => ?_)
            refine pw_blk hT 1 (S' := (36, [some (pvR 0), some (pvR 104), some (pvI n2), some (pvI n3)], [pvI (-2)], M)) rfl ⟨trivial, trivial⟩ ?_
            exact pw_ret hT rfl (r := some (pvI (-2))) (M' := M) ⟨rfl, rfl⟩ ⟨⟨_, rfl, (zr_wide (show (-2) ≤ Int32.toInt (-2) ∧ Int32.toInt (-2) ≤ (-2) from (by decide)) (by decide) (by decide)), (by rw [if_neg c1_, if_neg c7_, if_neg c12_, if_neg c24_, if_pos c28_]; first | done | (rw [if_pos c28_]; done))⟩, hok, pvfr_0, (zBk_n (by decide)), (by rw [if_neg c1_, if_neg c7_, if_neg c12_, if_neg c24_, if_pos c28_]; first | done | exact rfl | (rw [if_pos c28_]; done) | (rw [if_pos c28_]; exact rfl))⟩
          · refine pw_eqI (if_neg c28_) ?_
            have b31_ : 0 ≤ Int32.toInt n3 ∧ Int32.toInt n3 ≤ 9999 := zr_nlt_r 9999 c28_ b27_ (show 9999 ≤ Int32.toInt 9999 ∧ Int32.toInt 9999 ≤ 9999 from (by decide)) (by decide)
            show PW 168 d (31, [some (pvR 0), some (pvR 104), some (pvI n2), some (pvI n3)], [pvI 1], M) _
            refine pw_ifn hT (c := 1 = 0) rfl rfl (fun c32_ => ?_) (fun c32_ => absurd c32_ (by decide))
            refine pw_blk hT 1 (S' := (38, [some (pvR 0), some (pvR 104), some (pvI n2), some (pvI n3)], [pvR 104], M)) rfl ⟨trivial, trivial⟩ ?_
            refine pw_callT hT (as := [pvR 104]) (lo1 := [some (pvR 104)]) (d1 := d) (rest := []) rfl rfl rfl rfl rfl (fun _ => rfl) (Nat.zero_le _) rfl rfl rfl (sf_X6_isFull_104 M hok d) ?_
            have b38_ : 0 ≤ Int32.toInt (M.1 104 0) ∧ Int32.toInt (M.1 104 0) ≤ 8 := pvok_r hok 104 0 rfl
            by_cases c39_ : (M.1 104 0) < (Int32.ofNat 8)
            · refine pw_eqI (if_pos c39_) ?_
              have b40_ : 0 ≤ Int32.toInt (M.1 104 0) ∧ Int32.toInt (M.1 104 0) ≤ 7 := zr_lt_l 7 c39_ b38_ (show 8 ≤ Int32.toInt (Int32.ofNat 8) ∧ Int32.toInt (Int32.ofNat 8) ≤ 8 from (by decide)) (by decide)
              show PW 168 d (41, [some (pvR 0), some (pvR 104), some (pvI n2), some (pvI n3)], [pvI 0], M) _
              refine pw_if hT (c := 0 = 0) rfl rfl (fun c41_ => ?_) (fun c41_ => absurd (by decide) c41_)
              refine pw_blk hT 3 (S' := (50, [some (pvR 0), some (pvR 104), some (pvI n2), some (pvI n3)], [pvI n3, pvI n2, pvR 104], M)) rfl ⟨trivial, trivial, trivial, trivial⟩ ?_
              refine pw_callGd hT (as := [pvR 104, pvI n2, pvI n3]) (lo1 := [some (pvR 104), some (pvI n2), some (pvI n3)]) (d1 := d) (rest := []) rfl rfl rfl rfl rfl (fun _ => rfl) (Nat.zero_le _) rfl rfl rfl (se_X6_append_104_x_x M hok n2 n3 b16_ b31_ d) (fun x43_ M44_ b45_ o46_ g47_ d42_ => ?_)
              have f48_ : pvFr fp_eX9_appendTold_0_104_x_x M M44_ := pvfr_t g47_ pvfr_0 fp_eX9_appendTold_0_104_x_x_fp_eX6_append_104_x_x
              obtain ⟨b49_, d50_⟩ := b45_
              subst d50_
              exact pw_ret hT rfl (r := some (pvI (if (M.1 104 0) < (Int32.ofNat 8) then ((M.1 104 0) + 1) else (M.1 104 0)))) (M' := M44_) ⟨rfl, rfl⟩ ⟨⟨_, rfl, (zr_wide b49_ (by decide) (by decide)), (by rw [if_neg c1_, if_neg c7_, if_neg c12_, if_neg c24_, if_neg c28_, if_pos c39_]; first | done | (rw [if_pos c39_]; done))⟩, o46_, f48_, (zBk_9 (c := Int32.ofNat 8) (by decide) (by decide) c39_ (pvok_r hok 104 0 (lo := 0) (hi := 8) rfl).1 (zvl_y c7_ c12_) d42_.1 (d42_.2.trans (if_pos c39_)) (if_pos c39_)), (by rw [if_neg c1_, if_neg c7_, if_neg c12_, if_neg c24_, if_neg c28_, if_pos c39_]; first | done | exact d42_.2 | (rw [if_pos c39_]; done) | (rw [if_pos c39_]; exact d42_.2))⟩
            · refine pw_eqI (if_neg c39_) ?_
              have b51_ : 8 ≤ Int32.toInt (M.1 104 0) ∧ Int32.toInt (M.1 104 0) ≤ 8 := zr_nlt_l 8 c39_ b38_ (show 8 ≤ Int32.toInt (Int32.ofNat 8) ∧ Int32.toInt (Int32.ofNat 8) ≤ 8 from (by decide)) (by decide)
              show PW 168 d (41, [some (pvR 0), some (pvR 104), some (pvI n2), some (pvI n3)], [pvI 1], M) _
              refine pw_if hT (c := 1 = 0) rfl rfl (fun c52_ => absurd c52_ (by decide)) (fun c52_ => ?_)
              refine pw_blk hT 1 (S' := (46, [some (pvR 0), some (pvR 104), some (pvI n2), some (pvI n3)], [pvI (-4)], M)) rfl ⟨trivial, trivial⟩ ?_
              exact pw_ret hT rfl (r := some (pvI (-4))) (M' := M) ⟨rfl, rfl⟩ ⟨⟨_, rfl, (zr_wide (show (-4) ≤ Int32.toInt (-4) ∧ Int32.toInt (-4) ≤ (-4) from (by decide)) (by decide) (by decide)), (by rw [if_neg c1_, if_neg c7_, if_neg c12_, if_neg c24_, if_neg c28_, if_neg c39_]; first | done | (rw [if_neg c39_]; done))⟩, hok, pvfr_0, (zBk_n (by decide)), (by rw [if_neg c1_, if_neg c7_, if_neg c12_, if_neg c24_, if_neg c28_, if_neg c39_]; first | done | exact rfl | (rw [if_neg c39_]; done) | (rw [if_neg c39_]; exact rfl))⟩
  · have b53_ : (-1) ≤ Int32.toInt n2 ∧ Int32.toInt n2 ≤ (-1) := (by have u0 := (zbnd n2); have u1 := (zi_eq _ _).mp c1_; have u2 := (show (-1) ≤ Int32.toInt (-1) ∧ Int32.toInt (-1) ≤ (-1) from (by decide)); omega)
    refine pw_blk hT 1 (S' := (6, [some (pvR 0), some (pvR 104), some (pvI n2), some (pvI n3)], [pvR 104], M)) rfl ⟨trivial, trivial⟩ ?_
    refine pw_callGd hT (as := [pvR 104]) (lo1 := [some (pvR 104)]) (d1 := d) (rest := []) rfl rfl rfl rfl rfl (fun _ => rfl) (Nat.zero_le _) rfl rfl rfl (se_X6_clear_104 M hok d) (fun x55_ M56_ b57_ o58_ g59_ d54_ => ?_)
    have f60_ : pvFr fp_eX9_appendTold_0_104_x_x M M56_ := pvfr_t g59_ pvfr_0 fp_eX9_appendTold_0_104_x_x_fp_eX6_clear_104
    obtain ⟨b61_, d62_⟩ := b57_
    subst d62_
    exact pw_ret hT rfl (r := some (pvI 0)) (M' := M56_) ⟨rfl, rfl⟩ ⟨⟨_, rfl, (zr_wide b61_ (by decide) (by decide)), (by rw [if_pos c1_]; first | done | (rw [if_pos c1_]; done))⟩, o58_, f60_, (zBk_c rfl d54_), (by rw [if_pos c1_]; first | done | exact d54_ | (rw [if_pos c1_]; done) | (rw [if_pos c1_]; exact d54_))⟩
def fpL_eX9_book_0_x_x : List (Nat × Nat × Nat) := [(0, 104, 1), (0, 112, 0), (0, 120, 0)]
def fp_eX9_book_0_x_x (q k : Nat) : Bool := pvfp fpL_eX9_book_0_x_x q k
theorem fp_eX9_book_0_x_x_fp_eX9_appendTold_0_104_x_x (a b : Nat) (h : fp_eX9_appendTold_0_104_x_x a b = true) : fp_eX9_book_0_x_x a b = true := pvfp_sub (l1 := fpL_eX9_appendTold_0_104_x_x) (l2 := fpL_eX9_book_0_x_x) (by decide) a b h
set_option maxHeartbeats 4000000 in
set_option maxRecDepth 10000 in
theorem se_X9_book_0_x_x (M : pvM) (hok : pvOk M) (n1 : Int32) (n2 : Int32) (d : Nat) : PW 171 d (0, [some (pvR 0), some (pvI n1), some (pvI n2)], [], M) (fun r X => (∃ x : Int32, r = some (pvI x) ∧ ((-4) ≤ Int32.toInt x ∧ Int32.toInt x ≤ 8) ∧ x = (if n1 = (-1) then 0 else (if n1 < 0 then (-1) else (if (M.1 8 1) ≤ n1 then (-1) else (if n2 < 0 then (-2) else (if 9999 < n2 then (-2) else (if (M.1 104 0) < (Int32.ofNat 8) then (if (M.1 104 0) < (Int32.ofNat 8) then ((M.1 104 0) + 1) else (M.1 104 0)) else (-4)))))))) ∧ pvOk X ∧ pvFr fp_eX9_book_0_x_x M X ∧ zBk 104 0 112 120 8 1 8 n1 n2 r M X ∧ X.1 104 0 = (if n1 = (-1) then 0 else (if n1 < 0 then (M.1 104 0) else (if (M.1 8 1) ≤ n1 then (M.1 104 0) else (if n2 < 0 then (M.1 104 0) else (if 9999 < n2 then (M.1 104 0) else (if (M.1 104 0) < (Int32.ofNat 8) then (if (M.1 104 0) < (Int32.ofNat 8) then ((M.1 104 0) + 1) else (M.1 104 0)) else (M.1 104 0)))))))) := by
  have hT : pvdom 171 = pvD_171 := rfl
  refine pw_blk hT 6 (S' := (10, [some (pvR 0), some (pvI n1), some (pvI n2)], [pvI n2, pvI n1, pvR 104, pvR 0], M)) rfl ⟨trivial, trivial, rfl, rfl, trivial, trivial, trivial⟩ ?_
  refine pw_callGd hT (as := [pvR 0, pvR 104, pvI n1, pvI n2]) (lo1 := [some (pvR 0), some (pvR 104), some (pvI n1), some (pvI n2)]) (d1 := d) (rest := []) rfl rfl rfl rfl rfl (fun _ => rfl) (Nat.zero_le _) rfl rfl rfl (se_X9_appendTold_0_104_x_x M hok n1 n2 d) (fun x2_ M3_ b4_ o5_ g6_ d1_ => ?_)
  have f7_ : pvFr fp_eX9_book_0_x_x M M3_ := pvfr_t g6_ pvfr_0 fp_eX9_book_0_x_x_fp_eX9_appendTold_0_104_x_x
  obtain ⟨b8_, d9_⟩ := b4_
  subst d9_
  exact pw_ret hT rfl (r := some (pvI (if n1 = (-1) then 0 else (if n1 < 0 then (-1) else (if (M.1 8 1) ≤ n1 then (-1) else (if n2 < 0 then (-2) else (if 9999 < n2 then (-2) else (if (M.1 104 0) < (Int32.ofNat 8) then (if (M.1 104 0) < (Int32.ofNat 8) then ((M.1 104 0) + 1) else (M.1 104 0)) else (-4))))))))) (M' := M3_) ⟨rfl, rfl⟩ ⟨⟨_, rfl, b8_, rfl⟩, o5_, f7_, d1_.1, d1_.2⟩
set_option maxHeartbeats 4000000 in
set_option maxRecDepth 10000 in
theorem se_X9_count_0_x (M : pvM) (hok : pvOk M) (n1 : Int32) (d : Nat) : PW 172 d (0, [some (pvR 0), some (pvI n1)], [], M) (fun r X => r = some (pvI ((if n1 = 0 then (M.1 8 1) else (if n1 = 1 then (M.1 0 1) else (if n1 = 2 then (M.1 100 0) else (if n1 = 3 then (M.1 102 0) else (if n1 = 4 then (M.1 104 0) else (if n1 = 5 then (M.1 6 1) else (if n1 = 6 then (M.1 3 1) else (-2)))))))))) ∧ X = M) := by
  have hT : pvdom 172 = pvD_172 := rfl
  refine pw_blk hT 1 (S' := (1, [some (pvR 0), some (pvI n1)], [pvI n1], M)) rfl ⟨trivial, trivial⟩ ?_
  refine pw_sw hT rfl rfl ?_
  refine And.intro (fun c1_ => ?_) (fun c1_ => ?_)
  · show PW 172 d (44, [some (pvR 0), some (pvI n1)], [], M) _
    have b2_ : 0 ≤ Int32.toInt n1 ∧ Int32.toInt n1 ≤ 0 := (by have u0 := (zbnd n1); have u1 := (zi_eq _ _).mp c1_; have u2 := (show 0 ≤ Int32.toInt 0 ∧ Int32.toInt 0 ≤ 0 from (by decide)); omega)
    have b3_ : 0 ≤ Int32.toInt (M.1 8 1) ∧ Int32.toInt (M.1 8 1) ≤ 7 := pvok_r hok 8 1 rfl
    refine pw_blk hT 3 (S' := (51, [some (pvR 0), some (pvI n1)], [pvI (M.1 8 1)], M)) rfl ⟨trivial, rfl, rfl, trivial⟩ ?_
    exact pw_ret hT rfl (r := some (pvI (M.1 8 1))) (M' := M) ⟨rfl, rfl⟩ ⟨(by rw [if_pos c1_]; first | done | (rw [if_pos c1_]; done)), rfl⟩
  · refine And.intro (fun c4_ => ?_) (fun c4_ => ?_)
    · show PW 172 d (52, [some (pvR 0), some (pvI n1)], [], M) _
      have b5_ : 1 ≤ Int32.toInt n1 ∧ Int32.toInt n1 ≤ 1 := (by have u0 := (zbnd n1); have u1 := (zi_eq _ _).mp c4_; have u2 := (show 1 ≤ Int32.toInt 1 ∧ Int32.toInt 1 ≤ 1 from (by decide)); omega)
      have b6_ : 0 ≤ Int32.toInt (M.1 0 1) ∧ Int32.toInt (M.1 0 1) ≤ 6 := pvok_r hok 0 1 rfl
      refine pw_blk hT 2 (S' := (56, [some (pvR 0), some (pvI n1)], [pvI (M.1 0 1)], M)) rfl ⟨trivial, rfl, trivial⟩ ?_
      exact pw_ret hT rfl (r := some (pvI (M.1 0 1))) (M' := M) ⟨rfl, rfl⟩ ⟨(by rw [if_neg c1_, if_pos c4_]; first | done | (rw [if_pos c4_]; done)), rfl⟩
    · refine And.intro (fun c7_ => ?_) (fun c7_ => ?_)
      · show PW 172 d (57, [some (pvR 0), some (pvI n1)], [], M) _
        have b8_ : 2 ≤ Int32.toInt n1 ∧ Int32.toInt n1 ≤ 2 := (by have u0 := (zbnd n1); have u1 := (zi_eq _ _).mp c7_; have u2 := (show 2 ≤ Int32.toInt 2 ∧ Int32.toInt 2 ≤ 2 from (by decide)); omega)
        have b9_ : 0 ≤ Int32.toInt (M.1 100 0) ∧ Int32.toInt (M.1 100 0) ≤ 7 := pvok_r hok 100 0 rfl
        refine pw_blk hT 4 (S' := (67, [some (pvR 0), some (pvI n1)], [pvI (M.1 100 0)], M)) rfl ⟨trivial, rfl, rfl, rfl, trivial⟩ ?_
        exact pw_ret hT rfl (r := some (pvI (M.1 100 0))) (M' := M) ⟨rfl, rfl⟩ ⟨(by rw [if_neg c1_, if_neg c4_, if_pos c7_]; first | done | (rw [if_pos c7_]; done)), rfl⟩
      · refine And.intro (fun c10_ => ?_) (fun c10_ => ?_)
        · show PW 172 d (68, [some (pvR 0), some (pvI n1)], [], M) _
          have b11_ : 3 ≤ Int32.toInt n1 ∧ Int32.toInt n1 ≤ 3 := (by have u0 := (zbnd n1); have u1 := (zi_eq _ _).mp c10_; have u2 := (show 3 ≤ Int32.toInt 3 ∧ Int32.toInt 3 ≤ 3 from (by decide)); omega)
          have b12_ : 0 ≤ Int32.toInt (M.1 102 0) ∧ Int32.toInt (M.1 102 0) ≤ 6 := pvok_r hok 102 0 rfl
          refine pw_blk hT 4 (S' := (78, [some (pvR 0), some (pvI n1)], [pvI (M.1 102 0)], M)) rfl ⟨trivial, rfl, rfl, rfl, trivial⟩ ?_
          exact pw_ret hT rfl (r := some (pvI (M.1 102 0))) (M' := M) ⟨rfl, rfl⟩ ⟨(by rw [if_neg c1_, if_neg c4_, if_neg c7_, if_pos c10_]; first | done | (rw [if_pos c10_]; done)), rfl⟩
        · refine And.intro (fun c13_ => ?_) (fun c13_ => ?_)
          · show PW 172 d (79, [some (pvR 0), some (pvI n1)], [], M) _
            have b14_ : 4 ≤ Int32.toInt n1 ∧ Int32.toInt n1 ≤ 4 := (by have u0 := (zbnd n1); have u1 := (zi_eq _ _).mp c13_; have u2 := (show 4 ≤ Int32.toInt 4 ∧ Int32.toInt 4 ≤ 4 from (by decide)); omega)
            have b15_ : 0 ≤ Int32.toInt (M.1 104 0) ∧ Int32.toInt (M.1 104 0) ≤ 8 := pvok_r hok 104 0 rfl
            refine pw_blk hT 4 (S' := (89, [some (pvR 0), some (pvI n1)], [pvI (M.1 104 0)], M)) rfl ⟨trivial, rfl, rfl, rfl, trivial⟩ ?_
            exact pw_ret hT rfl (r := some (pvI (M.1 104 0))) (M' := M) ⟨rfl, rfl⟩ ⟨(by rw [if_neg c1_, if_neg c4_, if_neg c7_, if_neg c10_, if_pos c13_]; first | done | (rw [if_pos c13_]; done)), rfl⟩
          · refine And.intro (fun c16_ => ?_) (fun c16_ => ?_)
            · show PW 172 d (90, [some (pvR 0), some (pvI n1)], [], M) _
              have b17_ : 5 ≤ Int32.toInt n1 ∧ Int32.toInt n1 ≤ 5 := (by have u0 := (zbnd n1); have u1 := (zi_eq _ _).mp c16_; have u2 := (show 5 ≤ Int32.toInt 5 ∧ Int32.toInt 5 ≤ 5 from (by decide)); omega)
              have b18_ : 0 ≤ Int32.toInt (M.1 6 1) ∧ Int32.toInt (M.1 6 1) ≤ 100 := pvok_r hok 6 1 rfl
              refine pw_blk hT 3 (S' := (97, [some (pvR 0), some (pvI n1)], [pvI (M.1 6 1)], M)) rfl ⟨trivial, rfl, rfl, trivial⟩ ?_
              exact pw_ret hT rfl (r := some (pvI (M.1 6 1))) (M' := M) ⟨rfl, rfl⟩ ⟨(by rw [if_neg c1_, if_neg c4_, if_neg c7_, if_neg c10_, if_neg c13_, if_pos c16_]; first | done | (rw [if_pos c16_]; done)), rfl⟩
            · refine And.intro (fun c19_ => ?_) (fun c19_ => ?_)
              · show PW 172 d (98, [some (pvR 0), some (pvI n1)], [], M) _
                have b20_ : 6 ≤ Int32.toInt n1 ∧ Int32.toInt n1 ≤ 6 := (by have u0 := (zbnd n1); have u1 := (zi_eq _ _).mp c19_; have u2 := (show 6 ≤ Int32.toInt 6 ∧ Int32.toInt 6 ≤ 6 from (by decide)); omega)
                have b21_ : 0 ≤ Int32.toInt (M.1 3 1) ∧ Int32.toInt (M.1 3 1) ≤ 1000000 := pvok_r hok 3 1 rfl
                refine pw_blk hT 3 (S' := (105, [some (pvR 0), some (pvI n1)], [pvI (M.1 3 1)], M)) rfl ⟨trivial, rfl, rfl, trivial⟩ ?_
                exact pw_ret hT rfl (r := some (pvI (M.1 3 1))) (M' := M) ⟨rfl, rfl⟩ ⟨(by rw [if_neg c1_, if_neg c4_, if_neg c7_, if_neg c10_, if_neg c13_, if_neg c16_, if_pos c19_]; first | done | (rw [if_pos c19_]; done)), rfl⟩
              · show PW 172 d (106, [some (pvR 0), some (pvI n1)], [], M) _
                refine pw_blk hT 1 (S' := (108, [some (pvR 0), some (pvI n1)], [pvI (-2)], M)) rfl ⟨trivial, trivial⟩ ?_
                exact pw_ret hT rfl (r := some (pvI (-2))) (M' := M) ⟨rfl, rfl⟩ ⟨(by rw [if_neg c1_, if_neg c4_, if_neg c7_, if_neg c10_, if_neg c13_, if_neg c16_, if_neg c19_]; first | done | (rw [if_neg c19_]; done)), rfl⟩
def fpL_eX9_feed_0_x : List (Nat × Nat × Nat) := [(0, 6, 2), (0, 7, 0)]
def fp_eX9_feed_0_x (q k : Nat) : Bool := pvfp fpL_eX9_feed_0_x q k
set_option maxHeartbeats 4000000 in
set_option maxRecDepth 10000 in
theorem se_X9_feed_0_x (M : pvM) (hok : pvOk M) (n1 : Int32) (d : Nat) : PW 173 d (0, [some (pvR 0), some (pvI n1)], [], M) (fun r X => (∃ x : Int32, r = some (pvI x) ∧ (-4) ≤ Int32.toInt x ∧ Int32.toInt x ≤ 100) ∧ pvOk X ∧ pvFr fp_eX9_feed_0_x M X ∧ zFd 0 1 6 1 7 n1 r M X) := by
  have hT : pvdom 173 = pvD_173 := rfl
  refine pw_blk hT 3 (S' := (4, [some (pvR 0), some (pvI n1)], [pvI 127, pvI 0, pvI n1], M)) rfl ⟨trivial, trivial, trivial, trivial⟩ ?_
  refine pw_callT hT (as := [pvI n1, pvI 0, pvI 127]) (lo1 := [some (pvI n1), some (pvI 0), some (pvI 127)]) (d1 := d) (rest := []) rfl rfl rfl rfl rfl (fun h => absurd h (by decide)) (Nat.zero_le _) rfl rfl rfl (sf_X9_within_x_x_x M hok n1 0 127 d) ?_
  by_cases c6_ : n1 < 0
  · refine pw_eqI (if_pos c6_) ?_
    have b7_ : (-2147483648) ≤ Int32.toInt n1 ∧ Int32.toInt n1 ≤ (-1) := zr_lt_l (-1) c6_ (zbnd n1) (show 0 ≤ Int32.toInt 0 ∧ Int32.toInt 0 ≤ 0 from (by decide)) (by decide)
    show PW 173 d (7, [some (pvR 0), some (pvI n1)], [pvI 0], M) _
    refine pw_ifn hT (c := 0 = 0) rfl rfl (fun c8_ => absurd (by decide) c8_) (fun c8_ => ?_)
    refine pw_blk hT 1 (S' := (12, [some (pvR 0), some (pvI n1)], [pvI (-2)], M)) rfl ⟨trivial, trivial⟩ ?_
    exact pw_ret hT rfl (r := some (pvI (-2))) (M' := M) ⟨rfl, rfl⟩ ⟨⟨_, rfl, (zr_wide (show (-2) ≤ Int32.toInt (-2) ∧ Int32.toInt (-2) ≤ (-2) from (by decide)) (by decide) (by decide))⟩, hok, pvfr_0, (Or.inl ⟨Or.inl c6_, rfl, zKx_r 0 1 6 1 7 M⟩)⟩
  · refine pw_eqI (if_neg c6_) ?_
    have b9_ : 0 ≤ Int32.toInt n1 ∧ Int32.toInt n1 ≤ 2147483647 := zr_nlt_l 0 c6_ (zbnd n1) (show 0 ≤ Int32.toInt 0 ∧ Int32.toInt 0 ≤ 0 from (by decide)) (by decide)
    by_cases c10_ : 127 < n1
    · refine pw_eqI (if_pos c10_) ?_
      have b11_ : 128 ≤ Int32.toInt n1 ∧ Int32.toInt n1 ≤ 2147483647 := zr_lt_r 128 c10_ b9_ (show 127 ≤ Int32.toInt 127 ∧ Int32.toInt 127 ≤ 127 from (by decide)) (by decide)
      show PW 173 d (7, [some (pvR 0), some (pvI n1)], [pvI 0], M) _
      refine pw_ifn hT (c := 0 = 0) rfl rfl (fun c12_ => absurd (by decide) c12_) (fun c12_ => ?_)
      refine pw_blk hT 1 (S' := (12, [some (pvR 0), some (pvI n1)], [pvI (-2)], M)) rfl ⟨trivial, trivial⟩ ?_
      exact pw_ret hT rfl (r := some (pvI (-2))) (M' := M) ⟨rfl, rfl⟩ ⟨⟨_, rfl, (zr_wide (show (-2) ≤ Int32.toInt (-2) ∧ Int32.toInt (-2) ≤ (-2) from (by decide)) (by decide) (by decide))⟩, hok, pvfr_0, (Or.inl ⟨Or.inr c10_, rfl, zKx_r 0 1 6 1 7 M⟩)⟩
    · refine pw_eqI (if_neg c10_) ?_
      have b13_ : 0 ≤ Int32.toInt n1 ∧ Int32.toInt n1 ≤ 127 := zr_nlt_r 127 c10_ b9_ (show 127 ≤ Int32.toInt 127 ∧ Int32.toInt 127 ≤ 127 from (by decide)) (by decide)
      show PW 173 d (7, [some (pvR 0), some (pvI n1)], [pvI 1], M) _
      refine pw_ifn hT (c := 1 = 0) rfl rfl (fun c14_ => ?_) (fun c14_ => absurd c14_ (by decide))
      have b15_ : 0 ≤ Int32.toInt (M.1 6 1) ∧ Int32.toInt (M.1 6 1) ≤ 100 := pvok_r hok 6 1 rfl
      refine pw_blk hT 4 (S' := (22, [some (pvR 0), some (pvI n1)], [pvI 100, pvI (M.1 6 1)], M)) rfl ⟨trivial, rfl, rfl, trivial, trivial⟩ ?_
      refine pw_ic hT (c := (M.1 6 1) < 100) rfl rfl (fun c16_ => ?_) (fun c16_ => ?_)
      · have b17_ : 0 ≤ Int32.toInt (M.1 6 1) ∧ Int32.toInt (M.1 6 1) ≤ 99 := zr_lt_l 99 c16_ b15_ (show 100 ≤ Int32.toInt 100 ∧ Int32.toInt 100 ≤ 100 from (by decide)) (by decide)
        refine pw_blkw hT 8 (pc := 44) (lo := [some (pvR 0), some (pvI n1)]) (st := []) (M := pvu M 7 (Int32.toNatClampNeg (M.1 6 1)) n1) rfl ⟨trivial, rfl, rfl, trivial, rfl, rfl, trivial, ⟨rfl, (zr_in (n := 100) b17_ (by decide) (by decide))⟩, trivial⟩ (fun M18_ e19_ => ?_)
        have o20_ : pvOk M18_ := pvok_u2 e19_ hok rfl b13_
        have f21_ : pvFr fp_eX9_feed_0_x M M18_ := pvfr_u e19_ pvfr_0 rfl
        have e22_ : (M18_.1 6 1) = (M.1 6 1) := (pvu_n e19_ 6 1 (Or.inl (by decide)))
        have b23_ : 0 ≤ Int32.toInt (M18_.1 6 1) ∧ Int32.toInt (M18_.1 6 1) ≤ 99 := (by rw [e22_]; exact b17_)
        obtain ⟨q25_, b24_⟩ : (Int32.toInt ((M18_.1 6 1) + 1) = Int32.toInt (M18_.1 6 1) + 1) ∧ (1 ≤ Int32.toInt ((M18_.1 6 1) + 1) ∧ Int32.toInt ((M18_.1 6 1) + 1) ≤ 100) := zadd_k (M18_.1 6 1) 1 1 1 100 b23_ (by decide) (by decide) (by decide) (by decide) (by decide)
        refine pw_blkw hT 7 (pc := 57) (lo := [some (pvR 0), some (pvI n1)]) (st := []) (M := pvu M18_ 6 1 ((M18_.1 6 1) + 1)) rfl ⟨trivial, rfl, trivial, rfl, trivial, trivial, rfl, trivial⟩ (fun M26_ e27_ => ?_)
        have o28_ : pvOk M26_ := pvok_u2 e27_ o20_ rfl (zr_wide b24_ (by decide) (by decide))
        have f29_ : pvFr fp_eX9_feed_0_x M M26_ := pvfr_u e27_ f21_ rfl
        have e30_ : (M26_.1 6 1) = ((M18_.1 6 1) + 1) := (pvu_s e27_)
        have b31_ : 1 ≤ Int32.toInt (M26_.1 6 1) ∧ Int32.toInt (M26_.1 6 1) ≤ 100 := (by rw [e30_]; exact b24_)
        refine pw_blk hT 3 (S' := (64, [some (pvR 0), some (pvI n1)], [pvI (M26_.1 6 1)], M26_)) rfl ⟨trivial, rfl, rfl, trivial⟩ ?_
        exact pw_ret hT rfl (r := some (pvI (M26_.1 6 1))) (M' := M26_) ⟨rfl, rfl⟩ ⟨⟨_, rfl, (zr_wide b31_ (by decide) (by decide))⟩, o28_, f29_, (zFd_u (fun z => z.elim c6_ c10_) (by have u := b17_; omega) (by decide) (by decide) (Or.inl (by decide)) e19_ e27_)⟩
      · have b32_ : 100 ≤ Int32.toInt (M.1 6 1) ∧ Int32.toInt (M.1 6 1) ≤ 100 := zr_nlt_l 100 c16_ b15_ (show 100 ≤ Int32.toInt 100 ∧ Int32.toInt 100 ≤ 100 from (by decide)) (by decide)
        refine pw_blk hT 1 (S' := (27, [some (pvR 0), some (pvI n1)], [pvI (-4)], M)) rfl ⟨trivial, trivial⟩ ?_
        exact pw_ret hT rfl (r := some (pvI (-4))) (M' := M) ⟨rfl, rfl⟩ ⟨⟨_, rfl, (zr_wide (show (-4) ≤ Int32.toInt (-4) ∧ Int32.toInt (-4) ≤ (-4) from (by decide)) (by decide) (by decide))⟩, hok, pvfr_0, (Or.inr (Or.inl ⟨(fun z => z.elim c6_ c10_), (by have u := b32_; omega), rfl, zKx_r 0 1 6 1 7 M⟩))⟩
set_option maxHeartbeats 4000000 in
set_option maxRecDepth 10000 in
theorem se_X1_isAsSeen_5 (M : pvM) (hok : pvOk M) (d : Nat) : PW 114 d (0, [some (pvR 5), none, none], [], M) (fun r X => (∃ x : Int32, r = some (pvI x) ∧ (0 ≤ Int32.toInt x ∧ Int32.toInt x ≤ 1) ∧ ySn M x) ∧ X = M) := by
  have hT : pvdom 114 = pvD_114 := rfl
  refine pw_blk hT 2 (S' := (2, [some (pvR 5), some (pvI 0), none], [], M)) rfl ⟨trivial, trivial, trivial⟩ ?_
  have hlz88_ : ∀ (nz88_ : Nat) (i1z88_ : Int32) (v2z88_ : Option pvV), (0 ≤ Int32.toInt i1z88_ ∧ Int32.toInt i1z88_ ≤ 6) → (ySnI M i1z88_) → (zhide ((7 - Int32.toInt i1z88_).toNat < nz88_)) → PW 114 d (2, [some (pvR 5), some (pvI i1z88_), v2z88_], [], M) (fun r X => (∃ x : Int32, r = some (pvI x) ∧ (0 ≤ Int32.toInt x ∧ Int32.toInt x ≤ 1) ∧ ySn M x) ∧ X = M) := by
    intro nz88_
    induction nz88_ with
    | zero => intro i1z88_ v2z88_ h1z88_ j0z88_ hmz88_; exact absurd (zshow hmz88_) (Nat.not_lt_zero _)
    | succ nz88_ ihz88_ =>
      intro i1z88_ v2z88_ h1z88_ j0z88_ hmz88_
      have b89_ : 0 ≤ Int32.toInt (M.1 102 0) ∧ Int32.toInt (M.1 102 0) ≤ 6 := pvok_r hok 102 0 rfl
      refine pw_blk hT 5 (S' := (13, [some (pvR 5), some (pvI i1z88_), v2z88_], [pvI (M.1 102 0), pvI i1z88_], M)) rfl ⟨trivial, trivial, rfl, rfl, rfl, trivial⟩ ?_
      refine pw_ic hT (c := (M.1 102 0) ≤ i1z88_) rfl rfl (fun c90_ => ?_) (fun c90_ => ?_)
      · have d91_ : Int32.toInt (M.1 102 0) ≤ Int32.toInt i1z88_ := (zi_le _ _).mp c90_
        refine pw_blk hT 1 (S' := (69, [some (pvR 5), some (pvI i1z88_), v2z88_], [pvI 1], M)) rfl ⟨trivial, trivial⟩ ?_
        exact pw_ret hT rfl (r := some (pvI 1)) (M' := M) ⟨Or.inr rfl, rfl, rfl⟩ ⟨⟨_, rfl, (zr_wide (show 1 ≤ Int32.toInt 1 ∧ Int32.toInt 1 ≤ 1 from (by decide)) (by decide) (by decide)), (ySn_y j0z88_ (by omega))⟩, rfl⟩
      · have b92_ : 1 ≤ Int32.toInt (M.1 102 0) ∧ Int32.toInt (M.1 102 0) ≤ 6 := zr_nle_l 1 c90_ b89_ h1z88_ (by decide)
        have b93_ : 0 ≤ Int32.toInt i1z88_ ∧ Int32.toInt i1z88_ ≤ 5 := zr_nle_r 5 c90_ h1z88_ b92_ (by decide)
        have d94_ : Int32.toInt (M.1 102 0) > Int32.toInt i1z88_ := Int.not_le.mp ((not_congr (zi_le _ _)).mp c90_)
        have b95_ : 0 ≤ Int32.toInt (M.1 110 (Int32.toNatClampNeg i1z88_)) ∧ Int32.toInt (M.1 110 (Int32.toNatClampNeg i1z88_)) ≤ 6 := pvok_r hok 110 (Int32.toNatClampNeg i1z88_) rfl
        have b96_ : 0 ≤ Int32.toInt (M.1 8 4) ∧ Int32.toInt (M.1 8 4) ≤ 9999 := pvok_r hok 8 4 rfl
        refine pw_blk hT 11 (S' := (37, [some (pvR 5), some (pvI i1z88_), v2z88_], [pvR 5, pvI (M.1 8 4), pvI (M.1 110 (Int32.toNatClampNeg i1z88_)), pvR 5], M)) rfl ⟨trivial, trivial, rfl, rfl, rfl, trivial, ⟨rfl, (zr_in (n := 6) b93_ (by decide) (by decide))⟩, trivial, rfl, rfl, trivial, trivial⟩ ?_
        refine pw_callGp hT (as := [pvR 5]) (lo1 := [some (pvR 5)]) (d1 := d) (rest := [pvI (M.1 8 4), pvI (M.1 110 (Int32.toNatClampNeg i1z88_)), pvR 5]) rfl rfl rfl rfl rfl (fun _ => rfl) (Nat.zero_le _) rfl rfl rfl (se_X1_stormEnd_5 M hok d) (fun x97_ b99_ => ?_)
        obtain ⟨b102_, d103_⟩ := b99_
        refine pw_callGp hT (as := [pvR 5, pvI (M.1 110 (Int32.toNatClampNeg i1z88_)), pvI (M.1 8 4), pvI x97_]) (lo1 := [some (pvR 5), some (pvI (M.1 110 (Int32.toNatClampNeg i1z88_))), some (pvI (M.1 8 4)), some (pvI x97_), none, none, none, none]) (d1 := d) (rest := []) rfl rfl rfl rfl rfl (fun _ => rfl) (Nat.zero_le _) rfl rfl rfl (se_X1_harmOf_5_x_x_x M hok (M.1 110 (Int32.toNatClampNeg i1z88_)) (M.1 8 4) x97_ b95_ (zr_wide b96_ (by decide) (by decide)) (zr_wide b102_ (by decide) (by decide)) d) (fun x104_ b106_ => ?_)
        obtain ⟨b109_, d110_⟩ := b106_
        have b111_ : 0 ≤ Int32.toInt (M.1 118 (Int32.toNatClampNeg i1z88_)) ∧ Int32.toInt (M.1 118 (Int32.toNatClampNeg i1z88_)) ≤ 9999 := pvok_r hok 118 (Int32.toNatClampNeg i1z88_) rfl
        refine pw_blk hT 8 (S' := (57, [some (pvR 5), some (pvI i1z88_), some (pvI x104_)], [pvI (M.1 118 (Int32.toNatClampNeg i1z88_)), pvI x104_], M)) rfl ⟨trivial, trivial, trivial, rfl, rfl, rfl, trivial, ⟨rfl, (zr_in (n := 6) b93_ (by decide) (by decide))⟩, trivial⟩ ?_
        refine pw_ic hT (c := x104_ = (M.1 118 (Int32.toNatClampNeg i1z88_))) rfl rfl (fun c112_ => ?_) (fun c112_ => ?_)
        · have b113_ : 0 ≤ Int32.toInt x104_ ∧ Int32.toInt x104_ ≤ 9999 := (by have u0 := (zbnd x104_); have u1 := (zi_eq _ _).mp c112_; have u2 := b111_; omega)
          have d114_ : Int32.toInt x104_ = Int32.toInt (M.1 118 (Int32.toNatClampNeg i1z88_)) := (zi_eq _ _).mp c112_
          obtain ⟨q116_, b115_⟩ : (Int32.toInt (i1z88_ + 1) = Int32.toInt i1z88_ + 1) ∧ (1 ≤ Int32.toInt (i1z88_ + 1) ∧ Int32.toInt (i1z88_ + 1) ≤ 6) := zadd_k i1z88_ 1 1 1 6 b93_ (by decide) (by decide) (by decide) (by decide) (by decide)
          refine pw_blk hT 2 (S' := (2, [some (pvR 5), some (pvI (i1z88_ + 1)), some (pvI x104_)], [], M)) rfl ⟨trivial, trivial, trivial⟩ ?_
          have j117_ : ySnI M (i1z88_ + 1) := (ySnI_s hok j0z88_ (by have u := b93_; omega) (by omega) (by omega) d103_ d110_ c112_)
          exact ihz88_ (i1z88_ + 1) (some (pvI x104_)) (zr_wide b115_ (by decide) (by decide)) j117_ (zhid (pvms_up (zshow hmz88_) h1z88_ q116_ (by decide) (by decide)))
        · refine pw_blk hT 1 (S' := (61, [some (pvR 5), some (pvI i1z88_), some (pvI x104_)], [pvI 0], M)) rfl ⟨trivial, trivial⟩ ?_
          exact pw_ret hT rfl (r := some (pvI 0)) (M' := M) ⟨Or.inl rfl, rfl, rfl⟩ ⟨⟨_, rfl, (zr_wide (show 0 ≤ Int32.toInt 0 ∧ Int32.toInt 0 ≤ 0 from (by decide)) (by decide) (by decide)), (ySn_n hok (by have u := b93_; omega) (by omega) d103_ d110_ c112_)⟩, rfl⟩
  have u118_ : Int32.toInt 0 = 0 := by decide
  have j119_ : ySnI M 0 := (ySnI_0 hok)
  exact hlz88_ _ 0 none (zr_wide (show 0 ≤ Int32.toInt 0 ∧ Int32.toInt 0 ≤ 0 from (by decide)) (by decide) (by decide)) j119_ (zhid (Nat.lt_succ_self _))
def fpL_eX9_from_0 : List (Nat × Nat × Nat) := [(0, 12, 0), (0, 13, 0), (0, 14, 0), (0, 5, 2), (0, 5, 3), (1, 112, 0)]
def fp_eX9_from_0 (q k : Nat) : Bool := pvfp fpL_eX9_from_0 q k
theorem fp_eX9_from_0_fp_eX1_beginFromNow_5 (a b : Nat) (h : fp_eX1_beginFromNow_5 a b = true) : fp_eX9_from_0 a b = true := pvfp_sub (l1 := fpL_eX1_beginFromNow_5) (l2 := fpL_eX9_from_0) (by decide) a b h
theorem fp_eX9_from_0_fp_eX1_turnTo_5_x (a b : Nat) (h : fp_eX1_turnTo_5_x a b = true) : fp_eX9_from_0 a b = true := pvfp_sub (l1 := fpL_eX1_turnTo_5_x) (l2 := fpL_eX9_from_0) (by decide) a b h
set_option maxHeartbeats 4000000 in
set_option maxRecDepth 10000 in
theorem se_X9_from_0 (M : pvM) (hok : pvOk M) (d : Nat) : PW 174 d (0, [some (pvR 0), none, none], [], M) (fun r X => (∃ x : Int32, r = some (pvI x) ∧ True) ∧ pvOk X ∧ pvFr fp_eX9_from_0 M X ∧ yAn yGfr r M X) := by
  have hT : pvdom 174 = pvD_174 := rfl
  refine pw_blk hT 2 (S' := (4, [some (pvR 0), none, none], [pvR 5], M)) rfl ⟨trivial, rfl, trivial⟩ ?_
  refine pw_callVd hT (as := [pvR 5]) (lo1 := [some (pvR 5)]) (d1 := d) (rest := []) rfl rfl rfl rfl rfl (fun _ => rfl) (Nat.zero_le _) rfl rfl rfl (se_X1_beginFromNow_5 M hok d) (fun M3_ o5_ g6_ d1_ => ?_)
  have f7_ : pvFr fp_eX9_from_0 M M3_ := pvfr_t g6_ pvfr_0 fp_eX9_from_0_fp_eX1_beginFromNow_5
  refine pw_blk hT 4 (S' := (11, [some (pvR 0), some (pvI 0), some (pvI 0)], [], M3_)) rfl ⟨trivial, trivial, trivial, trivial, trivial⟩ ?_
  have hlz106_ : ∀ (nz106_ : Nat) (i1z106_ : Int32) (i2z106_ : Int32) (Mz106_ : pvM), (pvOk Mz106_) → (pvFr fp_eX9_from_0 M Mz106_) → (0 ≤ Int32.toInt i2z106_ ∧ Int32.toInt i2z106_ ≤ 4) → (yFrI M Mz106_ i1z106_ i2z106_) → (zhide ((5 - Int32.toInt i2z106_).toNat < nz106_)) → PW 174 d (11, [some (pvR 0), some (pvI i1z106_), some (pvI i2z106_)], [], Mz106_) (fun r X => (∃ x : Int32, r = some (pvI x) ∧ True) ∧ pvOk X ∧ pvFr fp_eX9_from_0 M X ∧ yAn yGfr r M X) := by
    intro nz106_
    induction nz106_ with
    | zero => intro i1z106_ i2z106_ Mz106_ oz106_ fz106_ h2z106_ j0z106_ hmz106_; exact absurd (zshow hmz106_) (Nat.not_lt_zero _)
    | succ nz106_ ihz106_ =>
      intro i1z106_ i2z106_ Mz106_ oz106_ fz106_ h2z106_ j0z106_ hmz106_
      refine pw_blk hT 2 (S' := (13, [some (pvR 0), some (pvI i1z106_), some (pvI i2z106_)], [pvI 4, pvI i2z106_], Mz106_)) rfl ⟨trivial, trivial, trivial⟩ ?_
      refine pw_ic hT (c := 4 ≤ i2z106_) rfl rfl (fun c107_ => ?_) (fun c107_ => ?_)
      · have b108_ : 4 ≤ Int32.toInt i2z106_ ∧ Int32.toInt i2z106_ ≤ 4 := zr_le_r 4 c107_ h2z106_ (show 4 ≤ Int32.toInt 4 ∧ Int32.toInt 4 ≤ 4 from (by decide)) (by decide)
        refine pw_blk hT 1 (S' := (47, [some (pvR 0), some (pvI i1z106_), some (pvI i2z106_)], [pvI i1z106_], Mz106_)) rfl ⟨trivial, trivial⟩ ?_
        exact pw_ret hT rfl (r := some (pvI i1z106_)) (M' := Mz106_) ⟨rfl, rfl⟩ ⟨⟨_, rfl, trivial⟩, oz106_, fz106_, (yGfr_e j0z106_ (by have u := b108_; omega))⟩
      · have b109_ : 0 ≤ Int32.toInt i2z106_ ∧ Int32.toInt i2z106_ ≤ 3 := zr_nle_r 3 c107_ h2z106_ (show 4 ≤ Int32.toInt 4 ∧ Int32.toInt 4 ≤ 4 from (by decide)) (by decide)
        refine pw_blk hT 3 (S' := (21, [some (pvR 0), some (pvI i1z106_), some (pvI i2z106_)], [pvI i2z106_, pvR 5], Mz106_)) rfl ⟨trivial, rfl, trivial, trivial⟩ ?_
        refine pw_callVd hT (as := [pvR 5, pvI i2z106_]) (lo1 := [some (pvR 5), some (pvI i2z106_), none]) (d1 := d) (rest := []) rfl rfl rfl rfl rfl (fun _ => rfl) (Nat.zero_le _) rfl rfl rfl (se_X1_turnTo_5_x Mz106_ oz106_ i2z106_ d) (fun M112_ o114_ g115_ d110_ => ?_)
        have f116_ : pvFr fp_eX9_from_0 M M112_ := pvfr_t g115_ fz106_ fp_eX9_from_0_fp_eX1_turnTo_5_x
        refine pw_blk hT 2 (S' := (28, [some (pvR 0), some (pvI i1z106_), some (pvI i2z106_)], [pvR 5], M112_)) rfl ⟨trivial, rfl, trivial⟩ ?_
        refine pw_callGp hT (as := [pvR 5]) (lo1 := [some (pvR 5), none, none]) (d1 := d) (rest := []) rfl rfl rfl rfl rfl (fun _ => rfl) (Nat.zero_le _) rfl rfl rfl (se_X1_isAsSeen_5 M112_ o114_ d) (fun x117_ b119_ => ?_)
        obtain ⟨b122_, d123_⟩ := b119_
        refine pw_if hT (c := x117_ = 0) rfl rfl (fun c124_ => ?_) (fun c124_ => ?_)
        · have b125_ : 0 ≤ Int32.toInt x117_ ∧ Int32.toInt x117_ ≤ 0 := (by have u0 := b122_; have u1 := (zi_eq _ _).mp c124_; have u2 := (show 0 ≤ Int32.toInt 0 ∧ Int32.toInt 0 ≤ 0 from (by decide)); omega)
          obtain ⟨q127_, b126_⟩ : (Int32.toInt (i2z106_ + 1) = Int32.toInt i2z106_ + 1) ∧ (1 ≤ Int32.toInt (i2z106_ + 1) ∧ Int32.toInt (i2z106_ + 1) ≤ 4) := zadd_k i2z106_ 1 1 1 4 b109_ (by decide) (by decide) (by decide) (by decide) (by decide)
          refine pw_blk hT 2 (S' := (11, [some (pvR 0), some (pvI i1z106_), some (pvI (i2z106_ + 1))], [], M112_)) rfl ⟨trivial, trivial, trivial⟩ ?_
          have j128_ : yFrI M M112_ i1z106_ (i2z106_ + 1) := (yFrI_s hok j0z106_ d110_ (by have u := b109_; omega) d123_ (by omega) (Or.inl ⟨c124_, rfl⟩))
          exact ihz106_ i1z106_ (i2z106_ + 1) M112_ o114_ f116_ (zr_wide b126_ (by decide) (by decide)) j128_ (zhid (pvms_up (zshow hmz106_) h2z106_ q127_ (by decide) (by decide)))
        · have b129_ : 1 ≤ Int32.toInt x117_ ∧ Int32.toInt x117_ ≤ 1 := (by have u0 := b122_; have u1 := (not_congr (zi_eq _ _)).mp c124_; have u2 := (show 0 ≤ Int32.toInt 0 ∧ Int32.toInt 0 ≤ 0 from (by decide)); omega)
          obtain ⟨q131_, b130_⟩ : (Int32.toInt (i2z106_ + 1) = Int32.toInt i2z106_ + 1) ∧ (1 ≤ Int32.toInt (i2z106_ + 1) ∧ Int32.toInt (i2z106_ + 1) ≤ 4) := zadd_k i2z106_ 1 1 1 4 b109_ (by decide) (by decide) (by decide) (by decide) (by decide)
          refine pw_blk hT 8 (S' := (11, [some (pvR 0), some (pvI (i1z106_ ||| (1 <<< (i2z106_ &&& 31)))), some (pvI (i2z106_ + 1))], [], M112_)) rfl ⟨trivial, trivial, trivial, trivial, trivial, trivial, trivial, trivial, trivial⟩ ?_
          have j132_ : yFrI M M112_ (i1z106_ ||| (1 <<< (i2z106_ &&& 31))) (i2z106_ + 1) := (yFrI_s hok j0z106_ d110_ (by have u := b109_; omega) d123_ (by omega) (Or.inr ⟨c124_, rfl⟩))
          exact ihz106_ (i1z106_ ||| (1 <<< (i2z106_ &&& 31))) (i2z106_ + 1) M112_ o114_ f116_ (zr_wide b130_ (by decide) (by decide)) j132_ (zhid (pvms_up (zshow hmz106_) h2z106_ q131_ (by decide) (by decide)))
  have u133_ : Int32.toInt 0 = 0 := by decide
  have j134_ : yFrI M M3_ 0 0 := (yFrI_0 hok d1_)
  exact hlz106_ _ 0 0 M3_ o5_ f7_ (zr_wide (show 0 ≤ Int32.toInt 0 ∧ Int32.toInt 0 ≤ 0 from (by decide)) (by decide) (by decide)) j134_ (zhid (Nat.lt_succ_self _))
def fpL_eX2_becomeBare_x : List (Nat × Nat × Nat) := [(1, 2, 1), (1, 2, 2), (1, 2, 3), (1, 2, 6)]
def fp_eX2_becomeBare_x (q k : Nat) : Bool := pvfp fpL_eX2_becomeBare_x q k
set_option maxHeartbeats 4000000 in
set_option maxRecDepth 10000 in
theorem se_X2_becomeBare_x (M : pvM) (hok : pvOk M) (q0 : Nat) (hq0 : pvkl q0 = 2) (d : Nat) : PW 125 d (0, [some (pvR q0)], [], M) (fun r X => r = none ∧ pvOk X ∧ pvFr fp_eX2_becomeBare_x M X ∧ X = zpB M q0) := by
  have hT : pvdom 125 = pvD_125 := rfl
  refine pw_blkw hT 3 (pc := 5) (lo := [some (pvR q0)]) (st := []) (M := pvu M q0 0 2) rfl ⟨trivial, trivial, hq0, trivial⟩ (fun M1_ e2_ => ?_)
  have o3_ : pvOk M1_ := pvok_u2 e2_ hok ((pvrg_o 0 hq0 (by decide) (by decide)).trans rfl) (zr_wide (show 2 ≤ Int32.toInt 2 ∧ Int32.toInt 2 ≤ 2 from (by decide)) (by decide) (by decide))
  have f4_ : pvFr fp_eX2_becomeBare_x M M1_ := pvfr_u e2_ pvfr_0 (pvfp_r (l := fpL_eX2_becomeBare_x) (pvowr_2 hq0) (kk := 1) (by decide) (Or.inr rfl))
  refine pw_blkw hT 3 (pc := 11) (lo := [some (pvR q0)]) (st := []) (M := pvu M1_ q0 1 15) rfl ⟨trivial, trivial, hq0, trivial⟩ (fun M5_ e6_ => ?_)
  have o7_ : pvOk M5_ := pvok_u2 e6_ o3_ ((pvrg_o 1 hq0 (by decide) (by decide)).trans rfl) (zr_wide (show 15 ≤ Int32.toInt 15 ∧ Int32.toInt 15 ≤ 15 from (by decide)) (by decide) (by decide))
  have f8_ : pvFr fp_eX2_becomeBare_x M M5_ := pvfr_u e6_ f4_ (pvfp_r (l := fpL_eX2_becomeBare_x) (pvowr_2 hq0) (kk := 2) (by decide) (Or.inr rfl))
  refine pw_blkw hT 3 (pc := 16) (lo := [some (pvR q0)]) (st := []) (M := pvu M5_ q0 2 0) rfl ⟨trivial, trivial, hq0, trivial⟩ (fun M9_ e10_ => ?_)
  have o11_ : pvOk M9_ := pvok_u2 e10_ o7_ ((pvrg_o 2 hq0 (by decide) (by decide)).trans rfl) (zr_wide (show 0 ≤ Int32.toInt 0 ∧ Int32.toInt 0 ≤ 0 from (by decide)) (by decide) (by decide))
  have f12_ : pvFr fp_eX2_becomeBare_x M M9_ := pvfr_u e10_ f8_ (pvfp_r (l := fpL_eX2_becomeBare_x) (pvowr_2 hq0) (kk := 3) (by decide) (Or.inr rfl))
  refine pw_blkw hT 3 (pc := 21) (lo := [some (pvR q0)]) (st := []) (M := pvu M9_ q0 5 0) rfl ⟨trivial, trivial, hq0, trivial⟩ (fun M13_ e14_ => ?_)
  have o15_ : pvOk M13_ := pvok_u2 e14_ o11_ ((pvrg_o 5 hq0 (by decide) (by decide)).trans rfl) (zr_wide (show 0 ≤ Int32.toInt 0 ∧ Int32.toInt 0 ≤ 0 from (by decide)) (by decide) (by decide))
  have f16_ : pvFr fp_eX2_becomeBare_x M M13_ := pvfr_u e14_ f12_ (pvfp_r (l := fpL_eX2_becomeBare_x) (pvowr_2 hq0) (kk := 6) (by decide) (Or.inr rfl))
  exact pw_ret hT rfl (r := none) (M' := M13_) ⟨rfl, rfl⟩ ⟨rfl, o15_, f16_, (by rw [e14_, e10_, e6_, e2_]; rfl)⟩
def fpL_eX5_goOn_6 : List (Nat × Nat × Nat) := [(0, 6, 3), (0, 6, 4)]
def fp_eX5_goOn_6 (q k : Nat) : Bool := pvfp fpL_eX5_goOn_6 q k
set_option maxHeartbeats 4000000 in
set_option maxRecDepth 10000 in
theorem se_X5_goOn_6 (M : pvM) (hok : pvOk M) (hc6_2 : (-1) ≤ Int32.toInt (M.1 6 2) ∧ Int32.toInt (M.1 6 2) ≤ 99) (d : Nat) : PW 139 d (0, [some (pvR 6)], [], M) (fun r X => r = none ∧ pvOk X ∧ pvFr fp_eX5_goOn_6 M X ∧ ((Int32.toInt (X.1 6 3) ≤ -1 ∨ Int32.toInt (X.1 6 2) ≤ 99)) ∧ zGo M X) := by
  have hT : pvdom 139 = pvD_139 := rfl
  have b1_ : (-1) ≤ Int32.toInt (M.1 6 3) ∧ Int32.toInt (M.1 6 3) ≤ 127 := pvok_r hok 6 3 rfl
  obtain ⟨q3_, b2_⟩ : (Int32.toInt ((M.1 6 2) + 1) = Int32.toInt (M.1 6 2) + 1) ∧ (0 ≤ Int32.toInt ((M.1 6 2) + 1) ∧ Int32.toInt ((M.1 6 2) + 1) ≤ 100) := zadd_k (M.1 6 2) 1 1 0 100 hc6_2 (by decide) (by decide) (by decide) (by decide) (by decide)
  refine pw_blkw hT 6 (pc := 10) (lo := [some (pvR 6)]) (st := []) (M := pvu M 6 2 ((M.1 6 2) + 1)) rfl ⟨trivial, trivial, rfl, trivial, trivial, rfl, trivial⟩ (fun M4_ e5_ => ?_)
  have o6_ : pvOk M4_ := pvok_u2 e5_ hok rfl (zr_wide b2_ (by decide) (by decide))
  have f7_ : pvFr fp_eX5_goOn_6 M M4_ := pvfr_u e5_ pvfr_0 rfl
  have e8_ : (M4_.1 6 2) = ((M.1 6 2) + 1) := (pvu_s e5_)
  have b9_ : 0 ≤ Int32.toInt (M4_.1 6 2) ∧ Int32.toInt (M4_.1 6 2) ≤ 100 := (by rw [e8_]; exact b2_)
  have d10_ : Int32.toInt (M4_.1 6 2) = Int32.toInt ((M.1 6 2) + 1) := congrArg Int32.toInt e8_
  refine pw_blk hT 3 (S' := (15, [some (pvR 6)], [pvI (M4_.1 6 2), pvR 6], M4_)) rfl ⟨trivial, trivial, rfl, trivial⟩ ?_
  refine pw_if hT (c := (M4_.1 6 2) < 0) rfl rfl (fun c11_ => absurd c11_ (by have z0 := b9_; have z1 := (show 0 ≤ Int32.toInt 0 ∧ Int32.toInt 0 ≤ 0 from (by decide)); rw [zi_lt]; omega)) (fun c11_ => ?_)
  have b12_ : 0 ≤ Int32.toInt (M4_.1 6 1) ∧ Int32.toInt (M4_.1 6 1) ≤ 100 := pvok_r o6_ 6 1 rfl
  refine pw_blk hT 4 (S' := (26, [some (pvR 6)], [pvI (M4_.1 6 1), pvI (M4_.1 6 2), pvR 6], M4_)) rfl ⟨trivial, rfl, trivial, rfl, trivial⟩ ?_
  refine pw_ic hT (c := (M4_.1 6 1) ≤ (M4_.1 6 2)) rfl rfl (fun c13_ => ?_) (fun c13_ => ?_)
  · have d14_ : Int32.toInt (M4_.1 6 1) ≤ Int32.toInt (M4_.1 6 2) := (zi_le _ _).mp c13_
    refine pw_blkw hT 2 (pc := 54) (lo := [some (pvR 6)]) (st := []) (M := pvu M4_ 6 3 (-1)) rfl ⟨trivial, rfl, trivial⟩ (fun M15_ e16_ => ?_)
    have o17_ : pvOk M15_ := pvok_u2 e16_ o6_ rfl (zr_wide (show (-1) ≤ Int32.toInt (-1) ∧ Int32.toInt (-1) ≤ (-1) from (by decide)) (by decide) (by decide))
    have f18_ : pvFr fp_eX5_goOn_6 M M15_ := pvfr_u e16_ f7_ rfl
    have e19_ : (M15_.1 6 2) = (M4_.1 6 2) := (pvu_n e16_ 6 2 (Or.inr (by decide)))
    have b20_ : 0 ≤ Int32.toInt (M15_.1 6 2) ∧ Int32.toInt (M15_.1 6 2) ≤ 100 := (by rw [e19_]; exact b9_)
    have d21_ : Int32.toInt (M15_.1 6 2) = Int32.toInt (M4_.1 6 2) := congrArg Int32.toInt e19_
    have e22_ : (M15_.1 6 3) = (-1) := (pvu_s e16_)
    have b23_ : (-1) ≤ Int32.toInt (M15_.1 6 3) ∧ Int32.toInt (M15_.1 6 3) ≤ (-1) := (by rw [e22_]; exact (show (-1) ≤ Int32.toInt (-1) ∧ Int32.toInt (-1) ≤ (-1) from (by decide)))
    have u24_ : Int32.toInt (-1) = (-1) := by decide
    have d25_ : Int32.toInt (M15_.1 6 3) = Int32.toInt (-1) := congrArg Int32.toInt e22_
    exact pw_ret hT rfl (r := none) (M' := M15_) ⟨rfl, rfl⟩ ⟨rfl, o17_, f18_, (by omega), (zGo_e hc6_2 e5_ c13_ e16_)⟩
  · have b26_ : 1 ≤ Int32.toInt (M4_.1 6 1) ∧ Int32.toInt (M4_.1 6 1) ≤ 100 := zr_nle_l 1 c13_ b12_ b9_ (by decide)
    have b27_ : 0 ≤ Int32.toInt (M4_.1 6 2) ∧ Int32.toInt (M4_.1 6 2) ≤ 99 := zr_nle_r 99 c13_ b9_ b26_ (by decide)
    have d28_ : Int32.toInt (M4_.1 6 1) > Int32.toInt (M4_.1 6 2) := Int.not_le.mp ((not_congr (zi_le _ _)).mp c13_)
    refine pw_blk hT 3 (S' := (35, [some (pvR 6)], [pvI 100, pvI (M4_.1 6 2), pvR 6], M4_)) rfl ⟨trivial, rfl, trivial, trivial⟩ ?_
    refine pw_ic hT (c := 100 ≤ (M4_.1 6 2)) rfl rfl (fun c29_ => absurd c29_ (by have z0 := (show 100 ≤ Int32.toInt 100 ∧ Int32.toInt 100 ≤ 100 from (by decide)); have z1 := b27_; rw [zi_le]; omega)) (fun c29_ => ?_)
    have b30_ : 0 ≤ Int32.toInt (M4_.1 7 (Int32.toNatClampNeg (M4_.1 6 2))) ∧ Int32.toInt (M4_.1 7 (Int32.toNatClampNeg (M4_.1 6 2))) ≤ 127 := pvok_r o6_ 7 (Int32.toNatClampNeg (M4_.1 6 2)) rfl
    refine pw_blkw hT 7 (pc := 54) (lo := [some (pvR 6)]) (st := []) (M := pvu M4_ 6 3 (M4_.1 7 (Int32.toNatClampNeg (M4_.1 6 2)))) rfl ⟨trivial, rfl, trivial, rfl, ⟨rfl, (zr_in (n := 100) b27_ (by decide) (by decide))⟩, trivial, rfl, trivial⟩ (fun M31_ e32_ => ?_)
    have o33_ : pvOk M31_ := pvok_u2 e32_ o6_ rfl (zr_wide b30_ (by decide) (by decide))
    have f34_ : pvFr fp_eX5_goOn_6 M M31_ := pvfr_u e32_ f7_ rfl
    have e35_ : (M31_.1 6 2) = (M4_.1 6 2) := (pvu_n e32_ 6 2 (Or.inr (by decide)))
    have b36_ : 0 ≤ Int32.toInt (M31_.1 6 2) ∧ Int32.toInt (M31_.1 6 2) ≤ 99 := (by rw [e35_]; exact b27_)
    have d37_ : Int32.toInt (M31_.1 6 2) = Int32.toInt (M4_.1 6 2) := congrArg Int32.toInt e35_
    have e38_ : (M31_.1 6 3) = (M4_.1 7 (Int32.toNatClampNeg (M4_.1 6 2))) := (pvu_s e32_)
    have b39_ : 0 ≤ Int32.toInt (M31_.1 6 3) ∧ Int32.toInt (M31_.1 6 3) ≤ 127 := (by rw [e38_]; exact b30_)
    have d40_ : Int32.toInt (M31_.1 6 3) = Int32.toInt (M4_.1 7 (Int32.toNatClampNeg (M4_.1 6 2))) := congrArg Int32.toInt e38_
    exact pw_ret hT rfl (r := none) (M' := M31_) ⟨rfl, rfl⟩ ⟨rfl, o33_, f34_, (by omega), (zGo_t hc6_2 e5_ c13_ e32_)⟩
set_option maxHeartbeats 4000000 in
set_option maxRecDepth 10000 in
theorem se_X5_wordFrom_x (M : pvM) (hok : pvOk M) (n0 : Int32) (d : Nat) : PW 150 d (0, [some (pvI n0)], [], M) (fun r X => (∃ q : Nat, r = some (pvR q) ∧ q = (zwf n0)) ∧ X = M) := by
  have hT : pvdom 150 = pvD_150 := rfl
  refine pw_blk hT 1 (S' := (1, [some (pvI n0)], [pvI n0], M)) rfl ⟨trivial, trivial⟩ ?_
  refine pw_sw hT rfl rfl ?_
  refine And.intro (fun c1_ => ?_) (fun c1_ => ?_)
  · show PW 150 d (47, [some (pvI n0)], [], M) _
    have b2_ : 100 ≤ Int32.toInt n0 ∧ Int32.toInt n0 ≤ 100 := (by have u0 := (zbnd n0); have u1 := (zi_eq _ _).mp c1_; have u2 := (show 100 ≤ Int32.toInt 100 ∧ Int32.toInt 100 ≤ 100 from (by decide)); omega)
    refine pw_blk hT 1 (S' := (49, [some (pvI n0)], [pvR 1011], M)) rfl ⟨(by decide), trivial⟩ ?_
    exact pw_ret hT rfl (r := some (pvR 1011)) (M' := M) ⟨rfl, rfl⟩ ⟨⟨_, rfl, (by unfold zwf; rw [if_pos c1_])⟩, rfl⟩
  · refine And.intro (fun c3_ => ?_) (fun c3_ => ?_)
    · show PW 150 d (53, [some (pvI n0)], [], M) _
      have b4_ : 108 ≤ Int32.toInt n0 ∧ Int32.toInt n0 ≤ 108 := (by have u0 := (zbnd n0); have u1 := (zi_eq _ _).mp c3_; have u2 := (show 108 ≤ Int32.toInt 108 ∧ Int32.toInt 108 ≤ 108 from (by decide)); omega)
      refine pw_blk hT 1 (S' := (55, [some (pvI n0)], [pvR 1013], M)) rfl ⟨(by decide), trivial⟩ ?_
      exact pw_ret hT rfl (r := some (pvR 1013)) (M' := M) ⟨rfl, rfl⟩ ⟨⟨_, rfl, (by unfold zwf; rw [if_neg c1_, if_pos c3_])⟩, rfl⟩
    · refine And.intro (fun c5_ => ?_) (fun c5_ => ?_)
      · show PW 150 d (50, [some (pvI n0)], [], M) _
        have b6_ : 115 ≤ Int32.toInt n0 ∧ Int32.toInt n0 ≤ 115 := (by have u0 := (zbnd n0); have u1 := (zi_eq _ _).mp c5_; have u2 := (show 115 ≤ Int32.toInt 115 ∧ Int32.toInt 115 ≤ 115 from (by decide)); omega)
        refine pw_blk hT 1 (S' := (52, [some (pvI n0)], [pvR 1012], M)) rfl ⟨(by decide), trivial⟩ ?_
        exact pw_ret hT rfl (r := some (pvR 1012)) (M' := M) ⟨rfl, rfl⟩ ⟨⟨_, rfl, (by unfold zwf; rw [if_neg c1_, if_neg c3_, if_pos c5_])⟩, rfl⟩
      · refine And.intro (fun c7_ => ?_) (fun c7_ => ?_)
        · show PW 150 d (44, [some (pvI n0)], [], M) _
          have b8_ : 119 ≤ Int32.toInt n0 ∧ Int32.toInt n0 ≤ 119 := (by have u0 := (zbnd n0); have u1 := (zi_eq _ _).mp c7_; have u2 := (show 119 ≤ Int32.toInt 119 ∧ Int32.toInt 119 ≤ 119 from (by decide)); omega)
          refine pw_blk hT 1 (S' := (46, [some (pvI n0)], [pvR 1010], M)) rfl ⟨(by decide), trivial⟩ ?_
          exact pw_ret hT rfl (r := some (pvR 1010)) (M' := M) ⟨rfl, rfl⟩ ⟨⟨_, rfl, (by unfold zwf; rw [if_neg c1_, if_neg c3_, if_neg c5_, if_pos c7_])⟩, rfl⟩
        · show PW 150 d (56, [some (pvI n0)], [], M) _
          refine pw_blk hT 1 (S' := (58, [some (pvI n0)], [pvR 1014], M)) rfl ⟨(by decide), trivial⟩ ?_
          exact pw_ret hT rfl (r := some (pvR 1014)) (M' := M) ⟨rfl, rfl⟩ ⟨⟨_, rfl, (by unfold zwf; rw [if_neg c1_, if_neg c3_, if_neg c5_, if_neg c7_])⟩, rfl⟩
def fpL_eX5_readSign_6_x : List (Nat × Nat × Nat) := [(0, 6, 3), (0, 6, 4)]
def fp_eX5_readSign_6_x (q k : Nat) : Bool := pvfp fpL_eX5_readSign_6_x q k
theorem fp_eX5_readSign_6_x_fp_eX5_goOn_6 (a b : Nat) (h : fp_eX5_goOn_6 a b = true) : fp_eX5_readSign_6_x a b = true := pvfp_sub (l1 := fpL_eX5_goOn_6) (l2 := fpL_eX5_readSign_6_x) (by decide) a b h
set_option maxHeartbeats 4000000 in
set_option maxRecDepth 10000 in
theorem se_X5_readSign_6_x (M : pvM) (hok : pvOk M) (n1 : Int32) (hn1 : 0 ≤ Int32.toInt n1 ∧ Int32.toInt n1 ≤ 127) (hx0 : (Int32.toInt (M.1 6 3) ≤ -1 ∨ Int32.toInt (M.1 6 2) ≤ 99)) (hz : zRq M) (d : Nat) : PW 147 d (0, [some (pvR 6), some (pvI n1)], [], M) (fun r X => (∃ x : Int32, r = some (pvI x) ∧ 0 ≤ Int32.toInt x ∧ Int32.toInt x ≤ 1) ∧ pvOk X ∧ pvFr fp_eX5_readSign_6_x M X ∧ ((Int32.toInt (X.1 6 3) ≤ -1 ∨ Int32.toInt (X.1 6 2) ≤ 99)) ∧ zRb (zTsg n1) r M X) := by
  have hT : pvdom 147 = pvD_147 := rfl
  have b1_ : (-1) ≤ Int32.toInt (M.1 6 2) ∧ Int32.toInt (M.1 6 2) ≤ 100 := pvok_r hok 6 2 rfl
  have b2_ : (-1) ≤ Int32.toInt (M.1 6 3) ∧ Int32.toInt (M.1 6 3) ≤ 127 := pvok_r hok 6 3 rfl
  refine pw_blk hT 3 (S' := (5, [some (pvR 6), some (pvI n1)], [pvI n1, pvI (M.1 6 3)], M)) rfl ⟨trivial, rfl, trivial, trivial⟩ ?_
  refine pw_ic hT (c := (M.1 6 3) = n1) rfl rfl (fun c3_ => ?_) (fun c3_ => ?_)
  · have b4_ : 0 ≤ Int32.toInt (M.1 6 3) ∧ Int32.toInt (M.1 6 3) ≤ 127 := (by have u0 := b2_; have u1 := (zi_eq _ _).mp c3_; have u2 := hn1; omega)
    have d5_ : Int32.toInt (M.1 6 3) = Int32.toInt n1 := (zi_eq _ _).mp c3_
    refine pw_blk hT 1 (S' := (11, [some (pvR 6), some (pvI n1)], [pvR 6], M)) rfl ⟨trivial, trivial⟩ ?_
    refine pw_callVd hT (as := [pvR 6]) (lo1 := [some (pvR 6)]) (d1 := d) (rest := []) rfl rfl rfl rfl rfl (fun _ => rfl) (Nat.zero_le _) rfl rfl rfl (se_X5_goOn_6 M hok (by have u0 := b1_; omega) d) (fun M8_ o10_ g11_ d6_ => ?_)
    have f12_ : pvFr fp_eX5_readSign_6_x M M8_ := pvfr_t g11_ pvfr_0 fp_eX5_readSign_6_x_fp_eX5_goOn_6
    refine pw_blk hT 1 (S' := (15, [some (pvR 6), some (pvI n1)], [pvI 1], M8_)) rfl ⟨trivial, trivial⟩ ?_
    have b13_ : (-1) ≤ Int32.toInt (M8_.1 6 2) ∧ Int32.toInt (M8_.1 6 2) ≤ 100 := pvok_r o10_ 6 2 rfl
    have b14_ : (-1) ≤ Int32.toInt (M8_.1 6 3) ∧ Int32.toInt (M8_.1 6 3) ≤ 127 := pvok_r o10_ 6 3 rfl
    exact pw_ret hT rfl (r := some (pvI 1)) (M' := M8_) ⟨Or.inr rfl, rfl, rfl⟩ ⟨⟨_, rfl, (zr_wide (show 1 ≤ Int32.toInt 1 ∧ Int32.toInt 1 ≤ 1 from (by decide)) (by decide) (by decide))⟩, o10_, f12_, (by omega), (zRs_y hz c3_ d6_.2)⟩
  · refine pw_blk hT 1 (S' := (9, [some (pvR 6), some (pvI n1)], [pvI 0], M)) rfl ⟨trivial, trivial⟩ ?_
    exact pw_ret hT rfl (r := some (pvI 0)) (M' := M) ⟨Or.inl rfl, rfl, rfl⟩ ⟨⟨_, rfl, (zr_wide (show 0 ≤ Int32.toInt 0 ∧ Int32.toInt 0 ≤ 0 from (by decide)) (by decide) (by decide))⟩, hok, pvfr_0, (by omega), (zRs_n hz c3_)⟩
def fpL_eX5_readWord_6_x : List (Nat × Nat × Nat) := [(0, 6, 3), (0, 6, 4)]
def fp_eX5_readWord_6_x (q k : Nat) : Bool := pvfp fpL_eX5_readWord_6_x q k
theorem fp_eX5_readWord_6_x_fp_eX5_readSign_6_x (a b : Nat) (h : fp_eX5_readSign_6_x a b = true) : fp_eX5_readWord_6_x a b = true := pvfp_sub (l1 := fpL_eX5_readSign_6_x) (l2 := fpL_eX5_readWord_6_x) (by decide) a b h
set_option maxHeartbeats 4000000 in
set_option maxRecDepth 10000 in
theorem se_X5_readWord_6_x (M : pvM) (hok : pvOk M) (q1 : Nat) (hq1 : 1010 ≤ q1 ∧ q1 < 1017) (hx0 : (Int32.toInt (M.1 6 3) ≤ -1 ∨ Int32.toInt (M.1 6 2) ≤ 99)) (hz : zRq M) (d : Nat) : PW 149 d (0, [some (pvR 6), some (pvR q1), none], [], M) (fun r X => (∃ x : Int32, r = some (pvI x) ∧ 0 ≤ Int32.toInt x ∧ Int32.toInt x ≤ 1) ∧ pvOk X ∧ pvFr fp_eX5_readWord_6_x M X ∧ ((Int32.toInt (X.1 6 3) ≤ -1 ∨ Int32.toInt (X.1 6 2) ≤ 99)) ∧ zRb (zTw (zsb.getD (q1 - 1010) [])) r M X) := by
  have hT : pvdom 149 = pvD_149 := rfl
  have b1_ : (-1) ≤ Int32.toInt (M.1 6 2) ∧ Int32.toInt (M.1 6 2) ≤ 100 := pvok_r hok 6 2 rfl
  have b2_ : (-1) ≤ Int32.toInt (M.1 6 3) ∧ Int32.toInt (M.1 6 3) ≤ 127 := pvok_r hok 6 3 rfl
  refine pw_blk hT 2 (S' := (2, [some (pvR 6), some (pvR q1), some (pvI 0)], [], M)) rfl ⟨trivial, trivial, trivial⟩ ?_
  have hlz103_ : ∀ (nz103_ : Nat) (i2z103_ : Int32) (Mz103_ : pvM), (pvOk Mz103_) → (pvFr fp_eX5_readWord_6_x M Mz103_) → (0 ≤ Int32.toInt i2z103_ ∧ Int32.toInt i2z103_ ≤ 6) → ((Int32.toInt (Mz103_.1 6 3) ≤ -1 ∨ Int32.toInt (Mz103_.1 6 2) ≤ 99)) → (zLw (zsb.getD (q1 - 1010) []) (Int32.toNatClampNeg i2z103_) M Mz103_) → (zhide ((7 - Int32.toInt i2z103_).toNat < nz103_)) → PW 149 d (2, [some (pvR 6), some (pvR q1), some (pvI i2z103_)], [], Mz103_) (fun r X => (∃ x : Int32, r = some (pvI x) ∧ 0 ≤ Int32.toInt x ∧ Int32.toInt x ≤ 1) ∧ pvOk X ∧ pvFr fp_eX5_readWord_6_x M X ∧ ((Int32.toInt (X.1 6 3) ≤ -1 ∨ Int32.toInt (X.1 6 2) ≤ 99)) ∧ zRb (zTw (zsb.getD (q1 - 1010) [])) r M X) := by
    intro nz103_
    induction nz103_ with
    | zero => intro i2z103_ Mz103_ oz103_ fz103_ h2z103_ j0z103_ j1z103_ hmz103_; exact absurd (zshow hmz103_) (Nat.not_lt_zero _)
    | succ nz103_ ihz103_ =>
      intro i2z103_ Mz103_ oz103_ fz103_ h2z103_ j0z103_ j1z103_ hmz103_
      have b104_ : (-1) ≤ Int32.toInt (Mz103_.1 6 2) ∧ Int32.toInt (Mz103_.1 6 2) ≤ 100 := pvok_r oz103_ 6 2 rfl
      have b105_ : (-1) ≤ Int32.toInt (Mz103_.1 6 3) ∧ Int32.toInt (Mz103_.1 6 3) ≤ 127 := pvok_r oz103_ 6 3 rfl
      refine pw_blk hT 2 (S' := (4, [some (pvR 6), some (pvR q1), some (pvI i2z103_)], [pvR q1, pvI i2z103_], Mz103_)) rfl ⟨trivial, trivial, trivial⟩ ?_
      refine pw_sx hT rfl (S' := (7, [some (pvR 6), some (pvR q1), some (pvI i2z103_)], [pvI (nI (zsl.getD (q1 - 1010) 0)), pvI i2z103_], Mz103_)) (fun F hF => ⟨hq1.1, hq1.2, Nat.le_of_ble_eq_true rfl, hF⟩) ?_
      have b106_ : 0 ≤ Int32.toInt (nI (zsl.getD (q1 - 1010) 0)) ∧ Int32.toInt (nI (zsl.getD (q1 - 1010) 0)) ≤ 6 := (pvsl_r _)
      refine pw_ic hT (c := (nI (zsl.getD (q1 - 1010) 0)) ≤ i2z103_) rfl rfl (fun c107_ => ?_) (fun c107_ => ?_)
      · have d108_ : Int32.toInt (nI (zsl.getD (q1 - 1010) 0)) ≤ Int32.toInt i2z103_ := (zi_le _ _).mp c107_
        refine pw_blk hT 1 (S' := (31, [some (pvR 6), some (pvR q1), some (pvI i2z103_)], [pvI 1], Mz103_)) rfl ⟨trivial, trivial⟩ ?_
        exact pw_ret hT rfl (r := some (pvI 1)) (M' := Mz103_) ⟨Or.inr rfl, rfl, rfl⟩ ⟨⟨_, rfl, (zr_wide (show 1 ≤ Int32.toInt 1 ∧ Int32.toInt 1 ≤ 1 from (by decide)) (by decide) (by decide))⟩, oz103_, fz103_, (by omega), (zLw_e j1z103_ (zLen_ge hq1 c107_))⟩
      · have b109_ : 1 ≤ Int32.toInt (nI (zsl.getD (q1 - 1010) 0)) ∧ Int32.toInt (nI (zsl.getD (q1 - 1010) 0)) ≤ 6 := zr_nle_l 1 c107_ b106_ h2z103_ (by decide)
        have b110_ : 0 ≤ Int32.toInt i2z103_ ∧ Int32.toInt i2z103_ ≤ 5 := zr_nle_r 5 c107_ h2z103_ b109_ (by decide)
        have d111_ : Int32.toInt (nI (zsl.getD (q1 - 1010) 0)) > Int32.toInt i2z103_ := Int.not_le.mp ((not_congr (zi_le _ _)).mp c107_)
        refine pw_blk hT 3 (S' := (13, [some (pvR 6), some (pvR q1), some (pvI i2z103_)], [pvI i2z103_, pvR q1, pvR 6], Mz103_)) rfl ⟨trivial, trivial, trivial, trivial⟩ ?_
        refine pw_sx hT rfl (S' := (16, [some (pvR 6), some (pvR q1), some (pvI i2z103_)], [pvI ((zsb.getD (q1 - 1010) []).getD (Int32.toNatClampNeg i2z103_) 0), pvR 6], Mz103_)) (fun F hF => ⟨hq1.1, hq1.2, Nat.le_of_ble_eq_true rfl, (pvstrin b110_ (Int32.not_le.mp c107_)), hF⟩) ?_
        have b112_ : 0 ≤ Int32.toInt ((zsb.getD (q1 - 1010) []).getD (Int32.toNatClampNeg i2z103_) 0) ∧ Int32.toInt ((zsb.getD (q1 - 1010) []).getD (Int32.toNatClampNeg i2z103_) 0) ≤ 127 := (pvsb_r _ _)
        refine pw_callGd hT (as := [pvR 6, pvI ((zsb.getD (q1 - 1010) []).getD (Int32.toNatClampNeg i2z103_) 0)]) (lo1 := [some (pvR 6), some (pvI ((zsb.getD (q1 - 1010) []).getD (Int32.toNatClampNeg i2z103_) 0))]) (d1 := d) (rest := []) rfl rfl rfl rfl rfl (fun _ => rfl) (Nat.zero_le _) rfl rfl rfl (se_X5_readSign_6_x Mz103_ oz103_ ((zsb.getD (q1 - 1010) []).getD (Int32.toNatClampNeg i2z103_) 0) b112_ (show (Int32.toInt (Mz103_.1 6 3) ≤ -1 ∨ Int32.toInt (Mz103_.1 6 2) ≤ 99) from (by omega)) j1z103_.1 d) (fun x114_ M115_ b116_ o117_ g118_ d113_ => ?_)
        have f119_ : pvFr fp_eX5_readWord_6_x M M115_ := pvfr_t g118_ fz103_ fp_eX5_readWord_6_x_fp_eX5_readSign_6_x
        refine pw_ifn hT (c := x114_ = 0) rfl rfl (fun c120_ => ?_) (fun c120_ => ?_)
        · have b121_ : 1 ≤ Int32.toInt x114_ ∧ Int32.toInt x114_ ≤ 1 := (by have u0 := b116_; have u1 := (not_congr (zi_eq _ _)).mp c120_; have u2 := (show 0 ≤ Int32.toInt 0 ∧ Int32.toInt 0 ≤ 0 from (by decide)); omega)
          obtain ⟨q123_, b122_⟩ : (Int32.toInt (i2z103_ + 1) = Int32.toInt i2z103_ + 1) ∧ (1 ≤ Int32.toInt (i2z103_ + 1) ∧ Int32.toInt (i2z103_ + 1) ≤ 6) := zadd_k i2z103_ 1 1 1 6 b110_ (by decide) (by decide) (by decide) (by decide) (by decide)
          refine pw_blk hT 2 (S' := (2, [some (pvR 6), some (pvR q1), some (pvI (i2z103_ + 1))], [], M115_)) rfl ⟨trivial, trivial, trivial⟩ ?_
          have b124_ : (-1) ≤ Int32.toInt (M115_.1 6 2) ∧ Int32.toInt (M115_.1 6 2) ≤ 100 := pvok_r o117_ 6 2 rfl
          have b125_ : (-1) ≤ Int32.toInt (M115_.1 6 3) ∧ Int32.toInt (M115_.1 6 3) ≤ 127 := pvok_r o117_ 6 3 rfl
          have j126_ : (Int32.toInt (M115_.1 6 3) ≤ -1 ∨ Int32.toInt (M115_.1 6 2) ≤ 99) := by omega
          have j127_ : zLw (zsb.getD (q1 - 1010) []) (Int32.toNatClampNeg (i2z103_ + 1)) M M115_ := (zLw_t (znp1 b110_ (by decide) (by decide)) (zLw_s j1z103_ (zLen_lt hq1 (by have u := b110_; omega) c107_) d113_.2 c120_))
          exact ihz103_ (i2z103_ + 1) M115_ o117_ f119_ (zr_wide b122_ (by decide) (by decide)) j126_ j127_ (zhid (pvms_up (zshow hmz103_) h2z103_ q123_ (by decide) (by decide)))
        · have b128_ : 0 ≤ Int32.toInt x114_ ∧ Int32.toInt x114_ ≤ 0 := (by have u0 := b116_; have u1 := (zi_eq _ _).mp c120_; have u2 := (show 0 ≤ Int32.toInt 0 ∧ Int32.toInt 0 ≤ 0 from (by decide)); omega)
          refine pw_blk hT 1 (S' := (23, [some (pvR 6), some (pvR q1), some (pvI i2z103_)], [pvI 0], M115_)) rfl ⟨trivial, trivial⟩ ?_
          have b129_ : (-1) ≤ Int32.toInt (M115_.1 6 2) ∧ Int32.toInt (M115_.1 6 2) ≤ 100 := pvok_r o117_ 6 2 rfl
          have b130_ : (-1) ≤ Int32.toInt (M115_.1 6 3) ∧ Int32.toInt (M115_.1 6 3) ≤ 127 := pvok_r o117_ 6 3 rfl
          exact pw_ret hT rfl (r := some (pvI 0)) (M' := M115_) ⟨Or.inl rfl, rfl, rfl⟩ ⟨⟨_, rfl, (zr_wide (show 0 ≤ Int32.toInt 0 ∧ Int32.toInt 0 ≤ 0 from (by decide)) (by decide) (by decide))⟩, o117_, f119_, (by omega), (zLw_n j1z103_ (zLen_lt hq1 (by have u := b110_; omega) c107_) d113_.2 c120_)⟩
  have u131_ : Int32.toInt 0 = 0 := by decide
  have j132_ : (Int32.toInt (M.1 6 3) ≤ -1 ∨ Int32.toInt (M.1 6 2) ≤ 99) := by omega
  have j133_ : zLw (zsb.getD (q1 - 1010) []) (Int32.toNatClampNeg 0) M M := (zLw_0 hz)
  exact hlz103_ _ 0 M hok pvfr_0 (zr_wide (show 0 ≤ Int32.toInt 0 ∧ Int32.toInt 0 ≤ 0 from (by decide)) (by decide) (by decide)) j132_ j133_ (zhid (Nat.lt_succ_self _))
def fpL_eX5_readNumber_6 : List (Nat × Nat × Nat) := [(0, 6, 3), (0, 6, 4)]
def fp_eX5_readNumber_6 (q k : Nat) : Bool := pvfp fpL_eX5_readNumber_6 q k
theorem fp_eX5_readNumber_6_fp_eX5_goOn_6 (a b : Nat) (h : fp_eX5_goOn_6 a b = true) : fp_eX5_readNumber_6 a b = true := pvfp_sub (l1 := fpL_eX5_goOn_6) (l2 := fpL_eX5_readNumber_6) (by decide) a b h
set_option maxHeartbeats 4000000 in
set_option maxRecDepth 10000 in
theorem se_X5_readNumber_6 (M : pvM) (hok : pvOk M) (hx0 : (Int32.toInt (M.1 6 3) ≤ -1 ∨ Int32.toInt (M.1 6 2) ≤ 99)) (hz : zRq M) (d : Nat) : PW 144 d (0, [some (pvR 6), none], [], M) (fun r X => (∃ x : Int32, r = some (pvI x) ∧ (-1) ≤ Int32.toInt x ∧ Int32.toInt x ≤ 99) ∧ pvOk X ∧ pvFr fp_eX5_readNumber_6 M X ∧ ((Int32.toInt (X.1 6 3) ≤ -1 ∨ Int32.toInt (X.1 6 2) ≤ 99)) ∧ zRn r M X) := by
  have hT : pvdom 144 = pvD_144 := rfl
  have b1_ : (-1) ≤ Int32.toInt (M.1 6 2) ∧ Int32.toInt (M.1 6 2) ≤ 100 := pvok_r hok 6 2 rfl
  have b2_ : (-1) ≤ Int32.toInt (M.1 6 3) ∧ Int32.toInt (M.1 6 3) ≤ 127 := pvok_r hok 6 3 rfl
  refine pw_blk hT 3 (S' := (6, [some (pvR 6), none], [pvI 48, pvI (M.1 6 3)], M)) rfl ⟨trivial, rfl, trivial, trivial⟩ ?_
  refine pw_ic hT (c := (M.1 6 3) < 48) rfl rfl (fun c3_ => ?_) (fun c3_ => ?_)
  · have b4_ : (-1) ≤ Int32.toInt (M.1 6 3) ∧ Int32.toInt (M.1 6 3) ≤ 47 := zr_lt_l 47 c3_ b2_ (show 48 ≤ Int32.toInt 48 ∧ Int32.toInt 48 ≤ 48 from (by decide)) (by decide)
    refine pw_blk hT 1 (S' := (19, [some (pvR 6), none], [pvI (-1)], M)) rfl ⟨trivial, trivial⟩ ?_
    exact pw_ret hT rfl (r := some (pvI (-1))) (M' := M) ⟨rfl, rfl⟩ ⟨⟨_, rfl, (zr_wide (show (-1) ≤ Int32.toInt (-1) ∧ Int32.toInt (-1) ≤ (-1) from (by decide)) (by decide) (by decide))⟩, hok, pvfr_0, (by omega), (zRn_n hz (Or.inl c3_))⟩
  · have b5_ : 48 ≤ Int32.toInt (M.1 6 3) ∧ Int32.toInt (M.1 6 3) ≤ 127 := zr_nlt_l 48 c3_ b2_ (show 48 ≤ Int32.toInt 48 ∧ Int32.toInt 48 ≤ 48 from (by decide)) (by decide)
    refine pw_blk hT 3 (S' := (15, [some (pvR 6), none], [pvI 57, pvI (M.1 6 3)], M)) rfl ⟨trivial, rfl, trivial, trivial⟩ ?_
    refine pw_ic hT (c := (M.1 6 3) ≤ 57) rfl rfl (fun c6_ => ?_) (fun c6_ => ?_)
    · have b7_ : 48 ≤ Int32.toInt (M.1 6 3) ∧ Int32.toInt (M.1 6 3) ≤ 57 := zr_le_l 57 c6_ b5_ (show 57 ≤ Int32.toInt 57 ∧ Int32.toInt 57 ≤ 57 from (by decide)) (by decide)
      obtain ⟨q9_, b8_⟩ : (Int32.toInt ((M.1 6 3) - 48) = Int32.toInt (M.1 6 3) - 48) ∧ (0 ≤ Int32.toInt ((M.1 6 3) - 48) ∧ Int32.toInt ((M.1 6 3) - 48) ≤ 9) := zsub_k (M.1 6 3) 48 48 0 9 b7_ (by decide) (by decide) (by decide) (by decide) (by decide)
      refine pw_blk hT 6 (S' := (29, [some (pvR 6), some (pvI ((M.1 6 3) - 48))], [pvR 6], M)) rfl ⟨trivial, rfl, trivial, trivial, trivial, trivial, trivial⟩ ?_
      refine pw_callVd hT (as := [pvR 6]) (lo1 := [some (pvR 6)]) (d1 := d) (rest := []) rfl rfl rfl rfl rfl (fun _ => rfl) (Nat.zero_le _) rfl rfl rfl (se_X5_goOn_6 M hok (by have u0 := b1_; omega) d) (fun M12_ o14_ g15_ d10_ => ?_)
      have f16_ : pvFr fp_eX5_readNumber_6 M M12_ := pvfr_t g15_ pvfr_0 fp_eX5_readNumber_6_fp_eX5_goOn_6
      have b17_ : (-1) ≤ Int32.toInt (M12_.1 6 3) ∧ Int32.toInt (M12_.1 6 3) ≤ 127 := pvok_r o14_ 6 3 rfl
      refine pw_blk hT 3 (S' := (38, [some (pvR 6), some (pvI ((M.1 6 3) - 48))], [pvI 48, pvI (M12_.1 6 3)], M12_)) rfl ⟨trivial, rfl, trivial, trivial⟩ ?_
      refine pw_ic hT (c := (M12_.1 6 3) < 48) rfl rfl (fun c18_ => ?_) (fun c18_ => ?_)
      · have b19_ : (-1) ≤ Int32.toInt (M12_.1 6 3) ∧ Int32.toInt (M12_.1 6 3) ≤ 47 := zr_lt_l 47 c18_ b17_ (show 48 ≤ Int32.toInt 48 ∧ Int32.toInt 48 ≤ 48 from (by decide)) (by decide)
        refine pw_blk hT 1 (S' := (51, [some (pvR 6), some (pvI ((M.1 6 3) - 48))], [pvI ((M.1 6 3) - 48)], M12_)) rfl ⟨trivial, trivial⟩ ?_
        have b20_ : (-1) ≤ Int32.toInt (M12_.1 6 2) ∧ Int32.toInt (M12_.1 6 2) ≤ 100 := pvok_r o14_ 6 2 rfl
        exact pw_ret hT rfl (r := some (pvI ((M.1 6 3) - 48))) (M' := M12_) ⟨rfl, rfl⟩ ⟨⟨_, rfl, (zr_wide b8_ (by decide) (by decide))⟩, o14_, f16_, (by omega), (zRn_1 hz c3_ (zi_nlt c6_) d10_.2 (Or.inl c18_) (by have u := b8_; omega))⟩
      · have b21_ : 48 ≤ Int32.toInt (M12_.1 6 3) ∧ Int32.toInt (M12_.1 6 3) ≤ 127 := zr_nlt_l 48 c18_ b17_ (show 48 ≤ Int32.toInt 48 ∧ Int32.toInt 48 ≤ 48 from (by decide)) (by decide)
        refine pw_blk hT 3 (S' := (47, [some (pvR 6), some (pvI ((M.1 6 3) - 48))], [pvI 57, pvI (M12_.1 6 3)], M12_)) rfl ⟨trivial, rfl, trivial, trivial⟩ ?_
        refine pw_ic hT (c := (M12_.1 6 3) ≤ 57) rfl rfl (fun c22_ => ?_) (fun c22_ => ?_)
        · have b23_ : 48 ≤ Int32.toInt (M12_.1 6 3) ∧ Int32.toInt (M12_.1 6 3) ≤ 57 := zr_le_l 57 c22_ b21_ (show 57 ≤ Int32.toInt 57 ∧ Int32.toInt 57 ≤ 57 from (by decide)) (by decide)
          have q24_ : Int32.toInt (10 * ((M.1 6 3) - 48)) = 10 * Int32.toInt ((M.1 6 3) - 48) := by have u0 : Int32.toInt 10 = 10 := (by decide); have u1 := b8_; have u2 := zmul 10 ((M.1 6 3) - 48) (by rw [u0]; omega) (by rw [u0]; omega); rw [u0] at u2; omega
          have b25_ : 0 ≤ Int32.toInt (10 * ((M.1 6 3) - 48)) ∧ Int32.toInt (10 * ((M.1 6 3) - 48)) ≤ 90 := (by have u1 := b8_; omega)
          obtain ⟨q27_, b26_⟩ : (Int32.toInt ((10 * ((M.1 6 3) - 48)) + (M12_.1 6 3)) = Int32.toInt (10 * ((M.1 6 3) - 48)) + Int32.toInt (M12_.1 6 3)) ∧ (48 ≤ Int32.toInt ((10 * ((M.1 6 3) - 48)) + (M12_.1 6 3)) ∧ Int32.toInt ((10 * ((M.1 6 3) - 48)) + (M12_.1 6 3)) ≤ 147) := zadd_r (10 * ((M.1 6 3) - 48)) (M12_.1 6 3) 48 147 b25_ b23_ (by decide) (by decide) (by decide) (by decide)
          obtain ⟨q29_, b28_⟩ : (Int32.toInt (((10 * ((M.1 6 3) - 48)) + (M12_.1 6 3)) - 48) = Int32.toInt ((10 * ((M.1 6 3) - 48)) + (M12_.1 6 3)) - 48) ∧ (0 ≤ Int32.toInt (((10 * ((M.1 6 3) - 48)) + (M12_.1 6 3)) - 48) ∧ Int32.toInt (((10 * ((M.1 6 3) - 48)) + (M12_.1 6 3)) - 48) ≤ 99) := zsub_k ((10 * ((M.1 6 3) - 48)) + (M12_.1 6 3)) 48 48 0 99 b26_ (by decide) (by decide) (by decide) (by decide) (by decide)
          refine pw_blk hT 10 (S' := (66, [some (pvR 6), some (pvI (((10 * ((M.1 6 3) - 48)) + (M12_.1 6 3)) - 48))], [pvR 6], M12_)) rfl ⟨trivial, trivial, trivial, trivial, rfl, trivial, trivial, trivial, trivial, trivial, trivial⟩ ?_
          have b30_ : (-1) ≤ Int32.toInt (M12_.1 6 2) ∧ Int32.toInt (M12_.1 6 2) ≤ 100 := pvok_r o14_ 6 2 rfl
          refine pw_callVd hT (as := [pvR 6]) (lo1 := [some (pvR 6)]) (d1 := d) (rest := []) rfl rfl rfl rfl rfl (fun _ => rfl) (Nat.zero_le _) rfl rfl rfl (se_X5_goOn_6 M12_ o14_ (by have u0 := b30_; omega) d) (fun M33_ o35_ g36_ d31_ => ?_)
          have f37_ : pvFr fp_eX5_readNumber_6 M M33_ := pvfr_t g36_ f16_ fp_eX5_readNumber_6_fp_eX5_goOn_6
          refine pw_blk hT 1 (S' := (70, [some (pvR 6), some (pvI (((10 * ((M.1 6 3) - 48)) + (M12_.1 6 3)) - 48))], [pvI (((10 * ((M.1 6 3) - 48)) + (M12_.1 6 3)) - 48)], M33_)) rfl ⟨trivial, trivial⟩ ?_
          have b38_ : (-1) ≤ Int32.toInt (M33_.1 6 2) ∧ Int32.toInt (M33_.1 6 2) ≤ 100 := pvok_r o35_ 6 2 rfl
          have b39_ : (-1) ≤ Int32.toInt (M33_.1 6 3) ∧ Int32.toInt (M33_.1 6 3) ≤ 127 := pvok_r o35_ 6 3 rfl
          exact pw_ret hT rfl (r := some (pvI (((10 * ((M.1 6 3) - 48)) + (M12_.1 6 3)) - 48))) (M' := M33_) ⟨rfl, rfl⟩ ⟨⟨_, rfl, (zr_wide b28_ (by decide) (by decide))⟩, o35_, f37_, (by omega), (zRn_2 hz c3_ (zi_nlt c6_) d10_.2 c18_ (zi_nlt c22_) d31_.2 (by have u := b28_; omega))⟩
        · have b40_ : 58 ≤ Int32.toInt (M12_.1 6 3) ∧ Int32.toInt (M12_.1 6 3) ≤ 127 := zr_nle_l 58 c22_ b21_ (show 57 ≤ Int32.toInt 57 ∧ Int32.toInt 57 ≤ 57 from (by decide)) (by decide)
          refine pw_blk hT 1 (S' := (51, [some (pvR 6), some (pvI ((M.1 6 3) - 48))], [pvI ((M.1 6 3) - 48)], M12_)) rfl ⟨trivial, trivial⟩ ?_
          have b41_ : (-1) ≤ Int32.toInt (M12_.1 6 2) ∧ Int32.toInt (M12_.1 6 2) ≤ 100 := pvok_r o14_ 6 2 rfl
          exact pw_ret hT rfl (r := some (pvI ((M.1 6 3) - 48))) (M' := M12_) ⟨rfl, rfl⟩ ⟨⟨_, rfl, (zr_wide b8_ (by decide) (by decide))⟩, o14_, f16_, (by omega), (zRn_1 hz c3_ (zi_nlt c6_) d10_.2 (Or.inr (zi_nle c22_)) (by have u := b8_; omega))⟩
    · have b42_ : 58 ≤ Int32.toInt (M.1 6 3) ∧ Int32.toInt (M.1 6 3) ≤ 127 := zr_nle_l 58 c6_ b5_ (show 57 ≤ Int32.toInt 57 ∧ Int32.toInt 57 ≤ 57 from (by decide)) (by decide)
      refine pw_blk hT 1 (S' := (19, [some (pvR 6), none], [pvI (-1)], M)) rfl ⟨trivial, trivial⟩ ?_
      exact pw_ret hT rfl (r := some (pvI (-1))) (M' := M) ⟨rfl, rfl⟩ ⟨⟨_, rfl, (zr_wide (show (-1) ≤ Int32.toInt (-1) ∧ Int32.toInt (-1) ≤ (-1) from (by decide)) (by decide) (by decide))⟩, hok, pvfr_0, (by omega), (zRn_n hz (Or.inr (zi_nle c6_)))⟩
def fpL_eX5_readOneOf_6_x : List (Nat × Nat × Nat) := [(0, 6, 3), (0, 6, 4)]
def fp_eX5_readOneOf_6_x (q k : Nat) : Bool := pvfp fpL_eX5_readOneOf_6_x q k
theorem fp_eX5_readOneOf_6_x_fp_eX5_goOn_6 (a b : Nat) (h : fp_eX5_goOn_6 a b = true) : fp_eX5_readOneOf_6_x a b = true := pvfp_sub (l1 := fpL_eX5_goOn_6) (l2 := fpL_eX5_readOneOf_6_x) (by decide) a b h
set_option maxHeartbeats 4000000 in
set_option maxRecDepth 10000 in
theorem se_X5_readOneOf_6_x (M : pvM) (hok : pvOk M) (q1 : Nat) (hq1 : 1010 ≤ q1 ∧ q1 < 1017) (hx0 : (Int32.toInt (M.1 6 3) ≤ -1 ∨ Int32.toInt (M.1 6 2) ≤ 99)) (hz : zRq M) (d : Nat) : PW 146 d (0, [some (pvR 6), some (pvR q1), none], [], M) (fun r X => (∃ x : Int32, r = some (pvI x) ∧ (-1) ≤ Int32.toInt x ∧ Int32.toInt x ≤ 5) ∧ pvOk X ∧ pvFr fp_eX5_readOneOf_6_x M X ∧ ((Int32.toInt (X.1 6 3) ≤ -1 ∨ Int32.toInt (X.1 6 2) ≤ 99)) ∧ zRo (zsb.getD (q1 - 1010) []) r M X) := by
  have hT : pvdom 146 = pvD_146 := rfl
  have b1_ : (-1) ≤ Int32.toInt (M.1 6 2) ∧ Int32.toInt (M.1 6 2) ≤ 100 := pvok_r hok 6 2 rfl
  have b2_ : (-1) ≤ Int32.toInt (M.1 6 3) ∧ Int32.toInt (M.1 6 3) ≤ 127 := pvok_r hok 6 3 rfl
  refine pw_blk hT 3 (S' := (5, [some (pvR 6), some (pvR q1), none], [pvI (-1), pvI (M.1 6 3)], M)) rfl ⟨trivial, rfl, trivial, trivial⟩ ?_
  refine pw_icn hT (c := (M.1 6 3) = (-1)) rfl rfl (fun c3_ => ?_) (fun c3_ => ?_)
  · have b4_ : 0 ≤ Int32.toInt (M.1 6 3) ∧ Int32.toInt (M.1 6 3) ≤ 127 := (by have u0 := b2_; have u1 := (not_congr (zi_eq _ _)).mp c3_; have u2 := (show (-1) ≤ Int32.toInt (-1) ∧ Int32.toInt (-1) ≤ (-1) from (by decide)); omega)
    have b5_ : 0 ≤ Int32.toInt (UInt32.toInt32 (Int32.toUInt32 (M.1 6 3) % 65536)) ∧ Int32.toInt (UInt32.toInt32 (Int32.toUInt32 (M.1 6 3) % 65536)) ≤ 127 := (by rw [pvi2c (zr_wide b4_ (by decide) (by decide))]; exact b4_)
    refine pw_blk hT 4 (S' := (18, [some (pvR 6), some (pvR q1), none], [pvI (UInt32.toInt32 (Int32.toUInt32 (M.1 6 3) % 65536)), pvR q1], M)) rfl ⟨trivial, trivial, rfl, trivial, trivial⟩ ?_
    refine pw_sx hT rfl (S' := (21, [some (pvR 6), some (pvR q1), none], [pvI (pvixF (UInt32.toInt32 (Int32.toUInt32 (M.1 6 3) % 65536)) (zsb.getD (q1 - 1010) []) 0)], M)) (fun F hF => ⟨hq1.1, hq1.2, Nat.le_of_ble_eq_true rfl, (by have u0 := b5_; rw [zi_le]; have u2 : (0 : Int32).toInt = 0 := (by decide); omega), (by have u0 := b5_; rw [zi_lt]; have u2 : (128 : Int32).toInt = 128 := (by decide); omega), hF⟩) ?_
    have b6_ : (-1) ≤ Int32.toInt (pvixF (UInt32.toInt32 (Int32.toUInt32 (M.1 6 3) % 65536)) (zsb.getD (q1 - 1010) []) 0) ∧ Int32.toInt (pvixF (UInt32.toInt32 (Int32.toUInt32 (M.1 6 3) % 65536)) (zsb.getD (q1 - 1010) []) 0) ≤ 5 := (pvix_r _ _)
    refine pw_blk hT 2 (S' := (23, [some (pvR 6), some (pvR q1), some (pvI (pvixF (UInt32.toInt32 (Int32.toUInt32 (M.1 6 3) % 65536)) (zsb.getD (q1 - 1010) []) 0))], [pvI (pvixF (UInt32.toInt32 (Int32.toUInt32 (M.1 6 3) % 65536)) (zsb.getD (q1 - 1010) []) 0)], M)) rfl ⟨trivial, trivial, trivial⟩ ?_
    refine pw_if hT (c := (pvixF (UInt32.toInt32 (Int32.toUInt32 (M.1 6 3) % 65536)) (zsb.getD (q1 - 1010) []) 0) < 0) rfl rfl (fun c7_ => ?_) (fun c7_ => ?_)
    · have b8_ : (-1) ≤ Int32.toInt (pvixF (UInt32.toInt32 (Int32.toUInt32 (M.1 6 3) % 65536)) (zsb.getD (q1 - 1010) []) 0) ∧ Int32.toInt (pvixF (UInt32.toInt32 (Int32.toUInt32 (M.1 6 3) % 65536)) (zsb.getD (q1 - 1010) []) 0) ≤ (-1) := zr_lt_l (-1) c7_ b6_ (show 0 ≤ Int32.toInt 0 ∧ Int32.toInt 0 ≤ 0 from (by decide)) (by decide)
      refine pw_blk hT 1 (S' := (31, [some (pvR 6), some (pvR q1), some (pvI (pvixF (UInt32.toInt32 (Int32.toUInt32 (M.1 6 3) % 65536)) (zsb.getD (q1 - 1010) []) 0))], [pvI (pvixF (UInt32.toInt32 (Int32.toUInt32 (M.1 6 3) % 65536)) (zsb.getD (q1 - 1010) []) 0)], M)) rfl ⟨trivial, trivial⟩ ?_
      exact pw_ret hT rfl (r := some (pvI (pvixF (UInt32.toInt32 (Int32.toUInt32 (M.1 6 3) % 65536)) (zsb.getD (q1 - 1010) []) 0))) (M' := M) ⟨rfl, rfl⟩ ⟨⟨_, rfl, (zr_wide b8_ (by decide) (by decide))⟩, hok, pvfr_0, (by omega), (zRo_n hz c3_ (pvi2c (zr_wide b4_ (by decide) (by decide))) (by have u := b8_; omega))⟩
    · have b9_ : 0 ≤ Int32.toInt (pvixF (UInt32.toInt32 (Int32.toUInt32 (M.1 6 3) % 65536)) (zsb.getD (q1 - 1010) []) 0) ∧ Int32.toInt (pvixF (UInt32.toInt32 (Int32.toUInt32 (M.1 6 3) % 65536)) (zsb.getD (q1 - 1010) []) 0) ≤ 5 := zr_nlt_l 0 c7_ b6_ (show 0 ≤ Int32.toInt 0 ∧ Int32.toInt 0 ≤ 0 from (by decide)) (by decide)
      refine pw_blk hT 1 (S' := (27, [some (pvR 6), some (pvR q1), some (pvI (pvixF (UInt32.toInt32 (Int32.toUInt32 (M.1 6 3) % 65536)) (zsb.getD (q1 - 1010) []) 0))], [pvR 6], M)) rfl ⟨trivial, trivial⟩ ?_
      refine pw_callVd hT (as := [pvR 6]) (lo1 := [some (pvR 6)]) (d1 := d) (rest := []) rfl rfl rfl rfl rfl (fun _ => rfl) (Nat.zero_le _) rfl rfl rfl (se_X5_goOn_6 M hok (by have u0 := b1_; omega) d) (fun M12_ o14_ g15_ d10_ => ?_)
      have f16_ : pvFr fp_eX5_readOneOf_6_x M M12_ := pvfr_t g15_ pvfr_0 fp_eX5_readOneOf_6_x_fp_eX5_goOn_6
      refine pw_blk hT 1 (S' := (31, [some (pvR 6), some (pvR q1), some (pvI (pvixF (UInt32.toInt32 (Int32.toUInt32 (M.1 6 3) % 65536)) (zsb.getD (q1 - 1010) []) 0))], [pvI (pvixF (UInt32.toInt32 (Int32.toUInt32 (M.1 6 3) % 65536)) (zsb.getD (q1 - 1010) []) 0)], M12_)) rfl ⟨trivial, trivial⟩ ?_
      have b17_ : (-1) ≤ Int32.toInt (M12_.1 6 2) ∧ Int32.toInt (M12_.1 6 2) ≤ 100 := pvok_r o14_ 6 2 rfl
      have b18_ : (-1) ≤ Int32.toInt (M12_.1 6 3) ∧ Int32.toInt (M12_.1 6 3) ≤ 127 := pvok_r o14_ 6 3 rfl
      exact pw_ret hT rfl (r := some (pvI (pvixF (UInt32.toInt32 (Int32.toUInt32 (M.1 6 3) % 65536)) (zsb.getD (q1 - 1010) []) 0))) (M' := M12_) ⟨rfl, rfl⟩ ⟨⟨_, rfl, (zr_wide b9_ (by decide) (by decide))⟩, o14_, f16_, (by omega), (zRo_y hz c3_ (pvi2c (zr_wide b4_ (by decide) (by decide))) (by have u := b9_; omega) d10_.2)⟩
  · have b19_ : (-1) ≤ Int32.toInt (M.1 6 3) ∧ Int32.toInt (M.1 6 3) ≤ (-1) := (by have u0 := b2_; have u1 := (zi_eq _ _).mp c3_; have u2 := (show (-1) ≤ Int32.toInt (-1) ∧ Int32.toInt (-1) ≤ (-1) from (by decide)); omega)
    refine pw_blk hT 4 (S' := (23, [some (pvR 6), some (pvR q1), some (pvI (-1))], [pvI (-1)], M)) rfl ⟨trivial, trivial, trivial, trivial, trivial⟩ ?_
    refine pw_if hT (c := (-1) < 0) rfl rfl (fun c20_ => ?_) (fun c20_ => absurd (by decide) c20_)
    refine pw_blk hT 1 (S' := (31, [some (pvR 6), some (pvR q1), some (pvI (-1))], [pvI (-1)], M)) rfl ⟨trivial, trivial⟩ ?_
    exact pw_ret hT rfl (r := some (pvI (-1))) (M' := M) ⟨rfl, rfl⟩ ⟨⟨_, rfl, (zr_wide (show (-1) ≤ Int32.toInt (-1) ∧ Int32.toInt (-1) ≤ (-1) from (by decide)) (by decide) (by decide))⟩, hok, pvfr_0, (by omega), (zRo_e hz c3_)⟩
def fpL_eX2_addStep_x_x : List (Nat × Nat × Nat) := [(1, 111, 0), (1, 2, 6)]
def fp_eX2_addStep_x_x (q k : Nat) : Bool := pvfp fpL_eX2_addStep_x_x q k
set_option maxHeartbeats 4000000 in
set_option maxRecDepth 10000 in
theorem se_X2_addStep_x_x (M : pvM) (hok : pvOk M) (q0 : Nat) (n1 : Int32) (hq0 : pvkl q0 = 2) (hn1 : (-3) ≤ Int32.toInt n1 ∧ Int32.toInt n1 ≤ 2099) (d : Nat) : PW 123 d (0, [some (pvR q0), some (pvI n1)], [], M) (fun r X => r = none ∧ pvOk X ∧ pvFr fp_eX2_addStep_x_x M X ∧ zSs q0 n1 M X) := by
  have hT : pvdom 123 = pvD_123 := rfl
  have b1_ : 0 ≤ Int32.toInt (M.1 q0 5) ∧ Int32.toInt (M.1 q0 5) ≤ 100 := pvok_r hok q0 5 ((pvrg_o 5 hq0 (by decide) (by decide)).trans rfl)
  have b2_ : 100 ≤ Int32.toInt (Int32.ofNat (pvln (q0 + 27))) ∧ Int32.toInt (Int32.ofNat (pvln (q0 + 27))) ≤ 100 := (by rw [(pvow_2_27 hq0).2.1]; decide)
  refine pw_blk hT 5 (S' := (9, [some (pvR q0), some (pvI n1)], [pvI (Int32.ofNat (pvln (q0 + 27))), pvI (M.1 q0 5)], M)) rfl ⟨trivial, hq0, trivial, hq0, (pvow_2_27 hq0).1, trivial⟩ ?_
  refine pw_ic hT (c := (M.1 q0 5) < (Int32.ofNat (pvln (q0 + 27)))) rfl rfl (fun c3_ => ?_) (fun c3_ => ?_)
  · have b4_ : 0 ≤ Int32.toInt (M.1 q0 5) ∧ Int32.toInt (M.1 q0 5) ≤ 99 := zr_lt_l 99 c3_ b1_ b2_ (by decide)
    have d5_ : Int32.toInt (M.1 q0 5) < Int32.toInt (Int32.ofNat (pvln (q0 + 27))) := (zi_lt _ _).mp c3_
    refine pw_blkw hT 6 (pc := 23) (lo := [some (pvR q0), some (pvI n1)]) (st := []) (M := pvu M (q0 + 27) (Int32.toNatClampNeg (M.1 q0 5)) n1) rfl ⟨trivial, hq0, trivial, hq0, trivial, ⟨(pvow_2_27 hq0).1, (by rw [(pvow_2_27 hq0).2.1]; exact (zr_in (n := 100) b4_ (by decide) (by decide)))⟩, trivial⟩ (fun M6_ e7_ => ?_)
    have o8_ : pvOk M6_ := pvok_u2 e7_ hok ((pvrg_a _ (by rw [(pvow_2_27 hq0).1]; decide)).trans (pvow_2_27 hq0).2.2.2) hn1
    have f9_ : pvFr fp_eX2_addStep_x_x M M6_ := pvfr_u e7_ pvfr_0 (pvfp_r (l := fpL_eX2_addStep_x_x) (pvow_2_27 hq0).2.2.1 (kk := 0) (by decide) (Or.inl rfl))
    have e10_ : (M6_.1 q0 5) = (M.1 q0 5) := (pvu_n e7_ q0 5 (Or.inl (by omega)))
    have b11_ : 0 ≤ Int32.toInt (M6_.1 q0 5) ∧ Int32.toInt (M6_.1 q0 5) ≤ 99 := (by rw [e10_]; exact b4_)
    obtain ⟨q13_, b12_⟩ : (Int32.toInt ((M6_.1 q0 5) + 1) = Int32.toInt (M6_.1 q0 5) + 1) ∧ (1 ≤ Int32.toInt ((M6_.1 q0 5) + 1) ∧ Int32.toInt ((M6_.1 q0 5) + 1) ≤ 100) := zadd_k (M6_.1 q0 5) 1 1 1 100 b11_ (by decide) (by decide) (by decide) (by decide) (by decide)
    refine pw_blkw hT 6 (pc := 33) (lo := [some (pvR q0), some (pvI n1)]) (st := []) (M := pvu M6_ q0 5 ((M6_.1 q0 5) + 1)) rfl ⟨trivial, trivial, hq0, trivial, trivial, hq0, trivial⟩ (fun M14_ e15_ => ?_)
    have o16_ : pvOk M14_ := pvok_u2 e15_ o8_ ((pvrg_o 5 hq0 (by decide) (by decide)).trans rfl) (zr_wide b12_ (by decide) (by decide))
    have f17_ : pvFr fp_eX2_addStep_x_x M M14_ := pvfr_u e15_ f9_ (pvfp_r (l := fpL_eX2_addStep_x_x) (pvowr_2 hq0) (kk := 6) (by decide) (Or.inr rfl))
    exact pw_ret hT rfl (r := none) (M' := M14_) ⟨rfl, rfl⟩ ⟨rfl, o16_, f17_, (Or.inl ⟨by have u := b4_; omega, by have z : M6_.1 q0 5 = M.1 q0 5 := pvu_n e7_ q0 5 (Or.inl (by omega)); rw [e15_, z, e7_, zpS]⟩)⟩
  · have b18_ : 100 ≤ Int32.toInt (M.1 q0 5) ∧ Int32.toInt (M.1 q0 5) ≤ 100 := zr_nlt_l 100 c3_ b1_ b2_ (by decide)
    have d19_ : Int32.toInt (M.1 q0 5) ≥ Int32.toInt (Int32.ofNat (pvln (q0 + 27))) := Int.not_lt.mp ((not_congr (zi_lt _ _)).mp c3_)
    exact pw_ret hT rfl (r := none) (M' := M) ⟨rfl, rfl⟩ ⟨rfl, hok, pvfr_0, (Or.inr ⟨by have u := b18_; omega, rfl⟩)⟩
def fpL_eX2_addTest_x_x_x_x : List (Nat × Nat × Nat) := [(1, 111, 0), (1, 2, 6)]
def fp_eX2_addTest_x_x_x_x (q k : Nat) : Bool := pvfp fpL_eX2_addTest_x_x_x_x q k
theorem fp_eX2_addTest_x_x_x_x_fp_eX2_addStep_x_x (a b : Nat) (h : fp_eX2_addStep_x_x a b = true) : fp_eX2_addTest_x_x_x_x a b = true := pvfp_sub (l1 := fpL_eX2_addStep_x_x) (l2 := fpL_eX2_addTest_x_x_x_x) (by decide) a b h
set_option maxHeartbeats 4000000 in
set_option maxRecDepth 10000 in
theorem se_X2_addTest_x_x_x_x (M : pvM) (hok : pvOk M) (q0 : Nat) (n1 : Int32) (n2 : Int32) (n3 : Int32) (hq0 : pvkl q0 = 2) (hn1 : 0 ≤ Int32.toInt n1 ∧ Int32.toInt n1 ≤ 5) (hn2 : 0 ≤ Int32.toInt n2 ∧ Int32.toInt n2 ≤ 5) (hn3 : 0 ≤ Int32.toInt n3 ∧ Int32.toInt n3 ≤ 99) (d : Nat) : PW 124 d (0, [some (pvR q0), some (pvI n1), some (pvI n2), some (pvI n3)], [], M) (fun r X => r = none ∧ pvOk X ∧ pvFr fp_eX2_addTest_x_x_x_x M X ∧ zSs q0 ((((n1 * 3) + n2) * 100) + n3) M X) := by
  have hT : pvdom 124 = pvD_124 := rfl
  have q1_ : Int32.toInt (n1 * 3) = 3 * Int32.toInt n1 := by have u0 : Int32.toInt 3 = 3 := (by decide); have u1 := hn1; have u2 := zmul n1 3 (by rw [u0]; omega) (by rw [u0]; omega); rw [u0] at u2; omega
  have b2_ : 0 ≤ Int32.toInt (n1 * 3) ∧ Int32.toInt (n1 * 3) ≤ 15 := (by have u1 := hn1; omega)
  obtain ⟨q4_, b3_⟩ : (Int32.toInt ((n1 * 3) + n2) = Int32.toInt (n1 * 3) + Int32.toInt n2) ∧ (0 ≤ Int32.toInt ((n1 * 3) + n2) ∧ Int32.toInt ((n1 * 3) + n2) ≤ 20) := zadd_r (n1 * 3) n2 0 20 b2_ hn2 (by decide) (by decide) (by decide) (by decide)
  have q5_ : Int32.toInt (((n1 * 3) + n2) * 100) = 100 * Int32.toInt ((n1 * 3) + n2) := by have u0 : Int32.toInt 100 = 100 := (by decide); have u1 := b3_; have u2 := zmul ((n1 * 3) + n2) 100 (by rw [u0]; omega) (by rw [u0]; omega); rw [u0] at u2; omega
  have b6_ : 0 ≤ Int32.toInt (((n1 * 3) + n2) * 100) ∧ Int32.toInt (((n1 * 3) + n2) * 100) ≤ 2000 := (by have u1 := b3_; omega)
  obtain ⟨q8_, b7_⟩ : (Int32.toInt ((((n1 * 3) + n2) * 100) + n3) = Int32.toInt (((n1 * 3) + n2) * 100) + Int32.toInt n3) ∧ (0 ≤ Int32.toInt ((((n1 * 3) + n2) * 100) + n3) ∧ Int32.toInt ((((n1 * 3) + n2) * 100) + n3) ≤ 2099) := zadd_r (((n1 * 3) + n2) * 100) n3 0 2099 b6_ hn3 (by decide) (by decide) (by decide) (by decide)
  refine pw_blk hT 10 (S' := (11, [some (pvR q0), some (pvI n1), some (pvI n2), some (pvI n3)], [pvI ((((n1 * 3) + n2) * 100) + n3), pvR q0], M)) rfl ⟨trivial, trivial, trivial, trivial, trivial, trivial, trivial, trivial, trivial, trivial, trivial⟩ ?_
  refine pw_callVd hT (as := [pvR q0, pvI ((((n1 * 3) + n2) * 100) + n3)]) (lo1 := [some (pvR q0), some (pvI ((((n1 * 3) + n2) * 100) + n3))]) (d1 := d) (rest := []) rfl rfl rfl rfl rfl (fun _ => hq0) (Nat.zero_le _) rfl rfl rfl (se_X2_addStep_x_x M hok q0 ((((n1 * 3) + n2) * 100) + n3) hq0 (zr_wide b7_ (by decide) (by decide)) d) (fun M11_ o13_ g14_ d9_ => ?_)
  have f15_ : pvFr fp_eX2_addTest_x_x_x_x M M11_ := pvfr_t g14_ pvfr_0 fp_eX2_addTest_x_x_x_x_fp_eX2_addStep_x_x
  exact pw_ret hT rfl (r := none) (M' := M11_) ⟨rfl, rfl⟩ ⟨rfl, o13_, f15_, d9_⟩
