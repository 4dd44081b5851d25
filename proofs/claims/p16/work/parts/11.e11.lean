def fpL_eX10_pass_124_x : List (Nat × Nat × Nat) := [(0, 124, 2), (0, 124, 3), (0, 124, 33), (0, 141, 0), (0, 142, 0), (0, 143, 0)]
def fp_eX10_pass_124_x (q k : Nat) : Bool := pvfp fpL_eX10_pass_124_x q k
theorem fp_eX10_pass_124_x_fp_eX10_goMinutes_124_x (a b : Nat) (h : fp_eX10_goMinutes_124_x a b = true) : fp_eX10_pass_124_x a b = true := pvfp_sub (l1 := fpL_eX10_goMinutes_124_x) (l2 := fpL_eX10_pass_124_x) (by decide) a b h
set_option maxHeartbeats 4000000 in
set_option maxRecDepth 10000 in
theorem se_X10_pass_124_x (M : pvM) (hok : pvOk M) (n1 : Int32) (hz : pvWF M) (d : Nat) : PW 63 d (0, [some (pvR 124), some (pvI n1)], [], M) (fun r X => (∃ x : Int32, r = some (pvI x) ∧ (-3) ≤ Int32.toInt x ∧ Int32.toInt x ≤ 9000000) ∧ pvOk X ∧ pvFr fp_eX10_pass_124_x M X ∧ zwG n1 (zw0 1 5 6 131 M) (zw0 1 5 6 131 X) ∧ yPw0 n1 M X) := by
  have hT : pvdom 63 = pvD_63 := rfl
  refine pw_blk hT 4 (S' := (5, [some (pvR 124), some (pvI n1)], [pvI 99, pvI 0, pvI n1, pvR 124], M)) rfl ⟨trivial, trivial, trivial, trivial, trivial⟩ ?_
  refine pw_callT hT (as := [pvR 124, pvI n1, pvI 0, pvI 99]) (lo1 := [some (pvR 124), some (pvI n1), some (pvI 0), some (pvI 99)]) (d1 := d) (rest := []) rfl rfl rfl rfl rfl (fun _ => rfl) (Nat.zero_le _) rfl rfl rfl (sf_X10_in_124_x_x_x M hok n1 0 99 d) ?_
  by_cases c6_ : n1 < 0
  · refine pw_eqI (if_pos c6_) ?_
    have b7_ : (-2147483648) ≤ Int32.toInt n1 ∧ Int32.toInt n1 ≤ (-1) := zr_lt_l (-1) c6_ (zbnd n1) (show 0 ≤ Int32.toInt 0 ∧ Int32.toInt 0 ≤ 0 from (by decide)) (by decide)
    show PW 63 d (8, [some (pvR 124), some (pvI n1)], [pvI 0], M) _
    refine pw_ifn hT (c := 0 = 0) rfl rfl (fun c8_ => absurd (by decide) c8_) (fun c8_ => ?_)
    refine pw_blk hT 1 (S' := (13, [some (pvR 124), some (pvI n1)], [pvI (-2)], M)) rfl ⟨trivial, trivial⟩ ?_
    exact pw_ret hT rfl (r := some (pvI (-2))) (M' := M) ⟨rfl, rfl⟩ ⟨⟨_, rfl, (zr_wide (show (-2) ≤ Int32.toInt (-2) ∧ Int32.toInt (-2) ≤ (-2) from (by decide)) (by decide) (by decide))⟩, hok, pvfr_0, (zwG_n (fun z => by have v := (zi_lt _ _).mp c6_; have w := z.1; have u0 : (0 : Int32).toInt = 0 := (by decide); have u99 : (99 : Int32).toInt = 99 := (by decide); have u9 : (9999 : Int32).toInt = 9999 := (by decide); omega)), ⟨rfl, Or.inl ⟨(fun z => by have v := (zi_lt _ _).mp c6_; have w := z.1; have u0 : (0 : Int32).toInt = 0 := (by decide); have u99 : (99 : Int32).toInt = 99 := (by decide); have u9 : (9999 : Int32).toInt = 9999 := (by decide); omega), rfl⟩⟩⟩
  · refine pw_eqI (if_neg c6_) ?_
    have b9_ : 0 ≤ Int32.toInt n1 ∧ Int32.toInt n1 ≤ 2147483647 := zr_nlt_l 0 c6_ (zbnd n1) (show 0 ≤ Int32.toInt 0 ∧ Int32.toInt 0 ≤ 0 from (by decide)) (by decide)
    by_cases c10_ : 99 < n1
    · refine pw_eqI (if_pos c10_) ?_
      have b11_ : 100 ≤ Int32.toInt n1 ∧ Int32.toInt n1 ≤ 2147483647 := zr_lt_r 100 c10_ b9_ (show 99 ≤ Int32.toInt 99 ∧ Int32.toInt 99 ≤ 99 from (by decide)) (by decide)
      show PW 63 d (8, [some (pvR 124), some (pvI n1)], [pvI 0], M) _
      refine pw_ifn hT (c := 0 = 0) rfl rfl (fun c12_ => absurd (by decide) c12_) (fun c12_ => ?_)
      refine pw_blk hT 1 (S' := (13, [some (pvR 124), some (pvI n1)], [pvI (-2)], M)) rfl ⟨trivial, trivial⟩ ?_
      exact pw_ret hT rfl (r := some (pvI (-2))) (M' := M) ⟨rfl, rfl⟩ ⟨⟨_, rfl, (zr_wide (show (-2) ≤ Int32.toInt (-2) ∧ Int32.toInt (-2) ≤ (-2) from (by decide)) (by decide) (by decide))⟩, hok, pvfr_0, (zwG_n (fun z => by have v := (zi_lt _ _).mp c10_; have w := z.1; have u0 : (0 : Int32).toInt = 0 := (by decide); have u99 : (99 : Int32).toInt = 99 := (by decide); have u9 : (9999 : Int32).toInt = 9999 := (by decide); omega)), ⟨rfl, Or.inl ⟨(fun z => by have v := (zi_lt _ _).mp c10_; have w := z.1; have u0 : (0 : Int32).toInt = 0 := (by decide); have u99 : (99 : Int32).toInt = 99 := (by decide); have u9 : (9999 : Int32).toInt = 9999 := (by decide); omega), rfl⟩⟩⟩
    · refine pw_eqI (if_neg c10_) ?_
      have b13_ : 0 ≤ Int32.toInt n1 ∧ Int32.toInt n1 ≤ 99 := zr_nlt_r 99 c10_ b9_ (show 99 ≤ Int32.toInt 99 ∧ Int32.toInt 99 ≤ 99 from (by decide)) (by decide)
      show PW 63 d (8, [some (pvR 124), some (pvI n1)], [pvI 1], M) _
      refine pw_ifn hT (c := 1 = 0) rfl rfl (fun c14_ => ?_) (fun c14_ => absurd c14_ (by decide))
      have b15_ : 0 ≤ Int32.toInt (M.1 124 1) ∧ Int32.toInt (M.1 124 1) ≤ 9999 := pvok_r hok 124 1 rfl
      obtain ⟨q17_, b16_⟩ : (Int32.toInt ((M.1 124 1) + n1) = Int32.toInt (M.1 124 1) + Int32.toInt n1) ∧ (0 ≤ Int32.toInt ((M.1 124 1) + n1) ∧ Int32.toInt ((M.1 124 1) + n1) ≤ 10098) := zadd_r (M.1 124 1) n1 0 10098 b15_ b13_ (by decide) (by decide) (by decide) (by decide)
      refine pw_blk hT 5 (S' := (23, [some (pvR 124), some (pvI n1)], [pvI 9999, pvI ((M.1 124 1) + n1)], M)) rfl ⟨trivial, rfl, trivial, trivial, trivial, trivial⟩ ?_
      refine pw_ic hT (c := ((M.1 124 1) + n1) ≤ 9999) rfl rfl (fun c18_ => ?_) (fun c18_ => ?_)
      · have b19_ : 0 ≤ Int32.toInt ((M.1 124 1) + n1) ∧ Int32.toInt ((M.1 124 1) + n1) ≤ 9999 := zr_le_l 9999 c18_ b16_ (show 9999 ≤ Int32.toInt 9999 ∧ Int32.toInt 9999 ≤ 9999 from (by decide)) (by decide)
        refine pw_blk hT 2 (S' := (33, [some (pvR 124), some (pvI n1)], [pvI n1, pvR 124], M)) rfl ⟨trivial, trivial, trivial⟩ ?_
        refine pw_callGd hT (as := [pvR 124, pvI n1]) (lo1 := [some (pvR 124), some (pvI n1), none]) (d1 := d) (rest := []) rfl rfl rfl rfl rfl (fun _ => rfl) (Nat.zero_le _) rfl rfl rfl (se_X10_goMinutes_124_x M hok n1 (zr_wide b13_ (by decide) (by decide)) hz (show Int32.toInt (M.1 124 1) + Int32.toInt n1 ≤ 9999 from (by omega)) d) (fun x21_ M22_ b23_ o24_ g25_ d20_ => ?_)
        have f26_ : pvFr fp_eX10_pass_124_x M M22_ := pvfr_t g25_ pvfr_0 fp_eX10_pass_124_x_fp_eX10_goMinutes_124_x
        exact pw_ret hT rfl (r := some (pvI x21_)) (M' := M22_) ⟨rfl, rfl⟩ ⟨⟨_, rfl, (zr_wide b23_ (by decide) (by decide))⟩, o24_, f26_, (zwG_i ⟨b13_, (show Int32.toInt (M.1 124 1) + Int32.toInt n1 ≤ 9999 from by have b := b19_; omega)⟩ (d20_.2) (g25_ 124 5 rfl) (g25_ 124 6 rfl) (fun i _ => congrFun (pvfr_row (L := fpL_eX10_goMinutes_124_x) g25_ rfl) i)), ⟨(g25_ 124 50 rfl), Or.inr ⟨⟨b13_, (show Int32.toInt (M.1 124 1) + Int32.toInt n1 ≤ 9999 from by have b := b19_; omega)⟩, d20_.1⟩⟩⟩
      · have b27_ : 10000 ≤ Int32.toInt ((M.1 124 1) + n1) ∧ Int32.toInt ((M.1 124 1) + n1) ≤ 10098 := zr_nle_l 10000 c18_ b16_ (show 9999 ≤ Int32.toInt 9999 ∧ Int32.toInt 9999 ≤ 9999 from (by decide)) (by decide)
        refine pw_blk hT 2 (S' := (36, [some (pvR 124), some (pvI n1)], [pvI (-3)], M)) rfl ⟨trivial, trivial, trivial⟩ ?_
        exact pw_ret hT rfl (r := some (pvI (-3))) (M' := M) ⟨rfl, rfl⟩ ⟨⟨_, rfl, (zr_wide (show (-3) ≤ Int32.toInt (-3) ∧ Int32.toInt (-3) ≤ (-3) from (by decide)) (by decide) (by decide))⟩, hok, pvfr_0, (zwG_n (fun z => by have w : Int32.toInt (M.1 124 1) + Int32.toInt n1 ≤ 9999 := z.2; have b := b27_; omega)), ⟨rfl, Or.inl ⟨(fun z => by have w : Int32.toInt (M.1 124 1) + Int32.toInt n1 ≤ 9999 := z.2; have b := b27_; omega), rfl⟩⟩⟩
def fpL_eX10_put_124_x_x : List (Nat × Nat × Nat) := [(0, 131, 0)]
def fp_eX10_put_124_x_x (q k : Nat) : Bool := pvfp fpL_eX10_put_124_x_x q k
set_option maxHeartbeats 4000000 in
set_option maxRecDepth 10000 in
theorem se_X10_put_124_x_x (M : pvM) (hok : pvOk M) (n1 : Int32) (n2 : Int32) (hn2 : 0 ≤ Int32.toInt n2 ∧ Int32.toInt n2 ≤ 1) (d : Nat) : PW 66 d (0, [some (pvR 124), some (pvI n1), some (pvI n2), none], [], M) (fun r X => (∃ x : Int32, r = some (pvI x) ∧ (-1) ≤ Int32.toInt x ∧ Int32.toInt x ≤ 1) ∧ pvOk X ∧ pvFr fp_eX10_put_124_x_x M X ∧ zPT0 n1 n2 r M X) := by
  have hT : pvdom 66 = pvD_66 := rfl
  refine pw_blk hT 2 (S' := (2, [some (pvR 124), some (pvI n1), some (pvI n2), none], [pvI n1, pvR 124], M)) rfl ⟨trivial, trivial, trivial⟩ ?_
  refine pw_callT hT (as := [pvR 124, pvI n1]) (lo1 := [some (pvR 124), some (pvI n1)]) (d1 := d) (rest := []) rfl rfl rfl rfl rfl (fun _ => rfl) (Nat.zero_le _) rfl rfl rfl (sf_X10_isWindow_124_x M hok n1 d) ?_
  by_cases c6_ : n1 < 0
  · refine pw_eqI (if_pos c6_) ?_
    have b7_ : (-2147483648) ≤ Int32.toInt n1 ∧ Int32.toInt n1 ≤ (-1) := zr_lt_l (-1) c6_ (zbnd n1) (show 0 ≤ Int32.toInt 0 ∧ Int32.toInt 0 ≤ 0 from (by decide)) (by decide)
    show PW 66 d (5, [some (pvR 124), some (pvI n1), some (pvI n2), none], [pvI 0], M) _
    refine pw_ifn hT (c := 0 = 0) rfl rfl (fun c8_ => absurd (by decide) c8_) (fun c8_ => ?_)
    refine pw_blk hT 1 (S' := (9, [some (pvR 124), some (pvI n1), some (pvI n2), none], [pvI (-1)], M)) rfl ⟨trivial, trivial⟩ ?_
    exact pw_ret hT rfl (r := some (pvI (-1))) (M' := M) ⟨rfl, rfl⟩ ⟨⟨_, rfl, (zr_wide (show (-1) ≤ Int32.toInt (-1) ∧ Int32.toInt (-1) ≤ (-1) from (by decide)) (by decide) (by decide))⟩, hok, pvfr_0, ⟨zwP_n (zvl_l c6_), zpA_0 (zvl_l c6_)⟩⟩
  · refine pw_eqI (if_neg c6_) ?_
    have b9_ : 0 ≤ Int32.toInt n1 ∧ Int32.toInt n1 ≤ 2147483647 := zr_nlt_l 0 c6_ (zbnd n1) (show 0 ≤ Int32.toInt 0 ∧ Int32.toInt 0 ≤ 0 from (by decide)) (by decide)
    have b10_ : 0 ≤ Int32.toInt (M.1 124 0) ∧ Int32.toInt (M.1 124 0) ≤ 7 := pvok_r hok 124 0 rfl
    obtain ⟨q12_, b11_⟩ : (Int32.toInt ((M.1 124 0) - 1) = Int32.toInt (M.1 124 0) - 1) ∧ ((-1) ≤ Int32.toInt ((M.1 124 0) - 1) ∧ Int32.toInt ((M.1 124 0) - 1) ≤ 6) := zsub_k (M.1 124 0) 1 1 (-1) 6 b10_ (by decide) (by decide) (by decide) (by decide) (by decide)
    by_cases c13_ : ((M.1 124 0) - 1) < n1
    · refine pw_eqI (if_pos c13_) ?_
      have d14_ : Int32.toInt ((M.1 124 0) - 1) < Int32.toInt n1 := (zi_lt _ _).mp c13_
      show PW 66 d (5, [some (pvR 124), some (pvI n1), some (pvI n2), none], [pvI 0], M) _
      refine pw_ifn hT (c := 0 = 0) rfl rfl (fun c15_ => absurd (by decide) c15_) (fun c15_ => ?_)
      refine pw_blk hT 1 (S' := (9, [some (pvR 124), some (pvI n1), some (pvI n2), none], [pvI (-1)], M)) rfl ⟨trivial, trivial⟩ ?_
      exact pw_ret hT rfl (r := some (pvI (-1))) (M' := M) ⟨rfl, rfl⟩ ⟨⟨_, rfl, (zr_wide (show (-1) ≤ Int32.toInt (-1) ∧ Int32.toInt (-1) ≤ (-1) from (by decide)) (by decide) (by decide))⟩, hok, pvfr_0, ⟨zwP_n (zvl_u0 (pvok_r hok 124 0 (lo := 0) (hi := 7) rfl).1 c13_), zpA_0 (zvl_u0 (pvok_r hok 124 0 (lo := 0) (hi := 7) rfl).1 c13_)⟩⟩
    · refine pw_eqI (if_neg c13_) ?_
      have b16_ : 0 ≤ Int32.toInt ((M.1 124 0) - 1) ∧ Int32.toInt ((M.1 124 0) - 1) ≤ 6 := zr_nlt_l 0 c13_ b11_ b9_ (by decide)
      have b17_ : 0 ≤ Int32.toInt n1 ∧ Int32.toInt n1 ≤ 6 := zr_nlt_r 6 c13_ b9_ b16_ (by decide)
      have d18_ : Int32.toInt ((M.1 124 0) - 1) ≥ Int32.toInt n1 := Int.not_lt.mp ((not_congr (zi_lt _ _)).mp c13_)
      show PW 66 d (5, [some (pvR 124), some (pvI n1), some (pvI n2), none], [pvI 1], M) _
      refine pw_ifn hT (c := 1 = 0) rfl rfl (fun c19_ => ?_) (fun c19_ => absurd c19_ (by decide))
      have b20_ : 0 ≤ Int32.toInt (M.1 131 (Int32.toNatClampNeg n1)) ∧ Int32.toInt (M.1 131 (Int32.toNatClampNeg n1)) ≤ 1 := pvok_r hok 131 (Int32.toNatClampNeg n1) rfl
      refine pw_blk hT 4 (S' := (16, [some (pvR 124), some (pvI n1), some (pvI n2), none], [pvI (M.1 131 (Int32.toNatClampNeg n1))], M)) rfl ⟨trivial, rfl, trivial, ⟨rfl, (zr_in (n := 7) b17_ (by decide) (by decide))⟩, trivial⟩ ?_
      refine pw_if hT (c := (M.1 131 (Int32.toNatClampNeg n1)) = 0) rfl rfl (fun c21_ => ?_) (fun c21_ => ?_)
      · have b22_ : 0 ≤ Int32.toInt (M.1 131 (Int32.toNatClampNeg n1)) ∧ Int32.toInt (M.1 131 (Int32.toNatClampNeg n1)) ≤ 0 := (by have u0 := b20_; have u1 := (zi_eq _ _).mp c21_; have u2 := (show 0 ≤ Int32.toInt 0 ∧ Int32.toInt 0 ≤ 0 from (by decide)); omega)
        refine pw_blkw hT 7 (pc := 32) (lo := [some (pvR 124), some (pvI n1), some (pvI n2), some (pvI 0)]) (st := []) (M := pvu M 131 (Int32.toNatClampNeg n1) (vp_nar .boolean n2)) rfl ⟨trivial, trivial, trivial, rfl, trivial, trivial, ⟨rfl, (zr_in (n := 7) b17_ (by decide) (by decide))⟩, trivial⟩ (fun M23_ e24_ => ?_)
        have o25_ : pvOk M23_ := pvok_u2 e24_ hok rfl (zboolr n2)
        have f26_ : pvFr fp_eX10_put_124_x_x M M23_ := pvfr_u e24_ pvfr_0 rfl
        refine pw_blk hT 1 (S' := (33, [some (pvR 124), some (pvI n1), some (pvI n2), some (pvI 0)], [pvI 0], M23_)) rfl ⟨trivial, trivial⟩ ?_
        exact pw_ret hT rfl (r := some (pvI 0)) (M' := M23_) ⟨rfl, rfl⟩ ⟨⟨_, rfl, (zr_wide (show 0 ≤ Int32.toInt 0 ∧ Int32.toInt 0 ≤ 0 from (by decide)) (by decide) (by decide))⟩, o25_, f26_, ⟨zwP_i (zvl_y0 (pvok_r hok 124 0 (lo := 0) (hi := 7) rfl).1 c6_ c13_) (pvu_n e24_ 124 1 (Or.inl (by decide))) (pvu_n e24_ 124 5 (Or.inl (by decide))) (pvu_n e24_ 124 6 (Or.inl (by decide))) (zVu1 e24_ (zvnar hn2) (fun _ => rfl) (fun _ => rfl)), (zpA_1 (zvl_y0 (pvok_r hok 124 0 (lo := 0) (hi := 7) rfl).1 c6_ c13_) c21_.symm)⟩⟩
      · have b27_ : 1 ≤ Int32.toInt (M.1 131 (Int32.toNatClampNeg n1)) ∧ Int32.toInt (M.1 131 (Int32.toNatClampNeg n1)) ≤ 1 := (by have u0 := b20_; have u1 := (not_congr (zi_eq _ _)).mp c21_; have u2 := (show 0 ≤ Int32.toInt 0 ∧ Int32.toInt 0 ≤ 0 from (by decide)); omega)
        refine pw_blkw hT 8 (pc := 32) (lo := [some (pvR 124), some (pvI n1), some (pvI n2), some (pvI 1)]) (st := []) (M := pvu M 131 (Int32.toNatClampNeg n1) (vp_nar .boolean n2)) rfl ⟨trivial, trivial, trivial, trivial, rfl, trivial, trivial, ⟨rfl, (zr_in (n := 7) b17_ (by decide) (by decide))⟩, trivial⟩ (fun M28_ e29_ => ?_)
        have o30_ : pvOk M28_ := pvok_u2 e29_ hok rfl (zboolr n2)
        have f31_ : pvFr fp_eX10_put_124_x_x M M28_ := pvfr_u e29_ pvfr_0 rfl
        refine pw_blk hT 1 (S' := (33, [some (pvR 124), some (pvI n1), some (pvI n2), some (pvI 1)], [pvI 1], M28_)) rfl ⟨trivial, trivial⟩ ?_
        exact pw_ret hT rfl (r := some (pvI 1)) (M' := M28_) ⟨rfl, rfl⟩ ⟨⟨_, rfl, (zr_wide (show 1 ≤ Int32.toInt 1 ∧ Int32.toInt 1 ≤ 1 from (by decide)) (by decide) (by decide))⟩, o30_, f31_, ⟨zwP_i (zvl_y0 (pvok_r hok 124 0 (lo := 0) (hi := 7) rfl).1 c6_ c13_) (pvu_n e29_ 124 1 (Or.inl (by decide))) (pvu_n e29_ 124 5 (Or.inl (by decide))) (pvu_n e29_ 124 6 (Or.inl (by decide))) (zVu1 e29_ (zvnar hn2) (fun _ => rfl) (fun _ => rfl)), (zpA_1 (zvl_y0 (pvok_r hok 124 0 (lo := 0) (hi := 7) rfl).1 c6_ c13_) (zone1 b27_))⟩⟩
def fpL_eX10_round_124_x : List (Nat × Nat × Nat) := [(0, 124, 33), (0, 124, 36), (0, 141, 0), (0, 142, 0), (0, 143, 0), (0, 144, 0)]
def fp_eX10_round_124_x (q k : Nat) : Bool := pvfp fpL_eX10_round_124_x q k
theorem fp_eX10_round_124_x_fp_eX10_costOfRound_124_x (a b : Nat) (h : fp_eX10_costOfRound_124_x a b = true) : fp_eX10_round_124_x a b = true := pvfp_sub (l1 := fpL_eX10_costOfRound_124_x) (l2 := fpL_eX10_round_124_x) (by decide) a b h
theorem fp_eX10_round_124_x_fp_eX10_goes_124_x_x_x (a b : Nat) (h : fp_eX10_goes_124_x_x_x a b = true) : fp_eX10_round_124_x a b = true := pvfp_sub (l1 := fpL_eX10_goes_124_x_x_x) (l2 := fpL_eX10_round_124_x) (by decide) a b h
theorem fp_eX10_round_124_x_fp_eX10_layOpen_124 (a b : Nat) (h : fp_eX10_layOpen_124 a b = true) : fp_eX10_round_124_x a b = true := pvfp_sub (l1 := fpL_eX10_layOpen_124) (l2 := fpL_eX10_round_124_x) (by decide) a b h
theorem fp_eX10_round_124_x_fp_eX10_layRound_124 (a b : Nat) (h : fp_eX10_layRound_124 a b = true) : fp_eX10_round_124_x a b = true := pvfp_sub (l1 := fpL_eX10_layRound_124) (l2 := fpL_eX10_round_124_x) (by decide) a b h
set_option maxHeartbeats 4000000 in
set_option maxRecDepth 10000 in
theorem se_X10_round_124_x (M : pvM) (hok : pvOk M) (n1 : Int32) (hz : pvWF M) (d : Nat) : PW 69 d (0, [some (pvR 124), some (pvI n1), none, none, none], [], M) (fun r X => (∃ x : Int32, r = some (pvI x) ∧ True) ∧ pvOk X ∧ pvFr fp_eX10_round_124_x M X ∧ yA0 (yGrd n1) r M) := by
  have hT : pvdom 69 = pvD_69 := rfl
  refine pw_blk hT 4 (S' := (4, [some (pvR 124), some (pvI n1), none, none, none], [pvI 2, pvI 0, pvI n1, pvR 124], M)) rfl ⟨trivial, trivial, trivial, trivial, trivial⟩ ?_
  refine pw_callT hT (as := [pvR 124, pvI n1, pvI 0, pvI 2]) (lo1 := [some (pvR 124), some (pvI n1), some (pvI 0), some (pvI 2)]) (d1 := d) (rest := []) rfl rfl rfl rfl rfl (fun _ => rfl) (Nat.zero_le _) rfl rfl rfl (sf_X10_in_124_x_x_x M hok n1 0 2 d) ?_
  by_cases c6_ : n1 < 0
  · refine pw_eqI (if_pos c6_) ?_
    have b7_ : (-2147483648) ≤ Int32.toInt n1 ∧ Int32.toInt n1 ≤ (-1) := zr_lt_l (-1) c6_ (zbnd n1) (show 0 ≤ Int32.toInt 0 ∧ Int32.toInt 0 ≤ 0 from (by decide)) (by decide)
    show PW 69 d (7, [some (pvR 124), some (pvI n1), none, none, none], [pvI 0], M) _
    refine pw_ifn hT (c := 0 = 0) rfl rfl (fun c8_ => absurd (by decide) c8_) (fun c8_ => ?_)
    refine pw_blk hT 1 (S' := (11, [some (pvR 124), some (pvI n1), none, none, none], [pvI (-1)], M)) rfl ⟨trivial, trivial⟩ ?_
    exact pw_ret hT rfl (r := some (pvI (-1))) (M' := M) ⟨rfl, rfl⟩ ⟨⟨_, rfl, trivial⟩, hok, pvfr_0, (yGrd0_n (by have u := b7_; omega) (by decide))⟩
  · refine pw_eqI (if_neg c6_) ?_
    have b9_ : 0 ≤ Int32.toInt n1 ∧ Int32.toInt n1 ≤ 2147483647 := zr_nlt_l 0 c6_ (zbnd n1) (show 0 ≤ Int32.toInt 0 ∧ Int32.toInt 0 ≤ 0 from (by decide)) (by decide)
    by_cases c10_ : 2 < n1
    · refine pw_eqI (if_pos c10_) ?_
      have b11_ : 3 ≤ Int32.toInt n1 ∧ Int32.toInt n1 ≤ 2147483647 := zr_lt_r 3 c10_ b9_ (show 2 ≤ Int32.toInt 2 ∧ Int32.toInt 2 ≤ 2 from (by decide)) (by decide)
      show PW 69 d (7, [some (pvR 124), some (pvI n1), none, none, none], [pvI 0], M) _
      refine pw_ifn hT (c := 0 = 0) rfl rfl (fun c12_ => absurd (by decide) c12_) (fun c12_ => ?_)
      refine pw_blk hT 1 (S' := (11, [some (pvR 124), some (pvI n1), none, none, none], [pvI (-1)], M)) rfl ⟨trivial, trivial⟩ ?_
      exact pw_ret hT rfl (r := some (pvI (-1))) (M' := M) ⟨rfl, rfl⟩ ⟨⟨_, rfl, trivial⟩, hok, pvfr_0, (yGrd0_n (by have u := b11_; omega) (by decide))⟩
    · refine pw_eqI (if_neg c10_) ?_
      have b13_ : 0 ≤ Int32.toInt n1 ∧ Int32.toInt n1 ≤ 2 := zr_nlt_r 2 c10_ b9_ (show 2 ≤ Int32.toInt 2 ∧ Int32.toInt 2 ≤ 2 from (by decide)) (by decide)
      show PW 69 d (7, [some (pvR 124), some (pvI n1), none, none, none], [pvI 1], M) _
      refine pw_ifn hT (c := 1 = 0) rfl rfl (fun c14_ => ?_) (fun c14_ => absurd c14_ (by decide))
      refine pw_blk hT 1 (S' := (13, [some (pvR 124), some (pvI n1), none, none, none], [pvI n1], M)) rfl ⟨trivial, trivial⟩ ?_
      refine pw_ifn hT (c := n1 = 0) rfl rfl (fun c15_ => ?_) (fun c15_ => ?_)
      · have b16_ : 1 ≤ Int32.toInt n1 ∧ Int32.toInt n1 ≤ 2 := (by have u0 := b13_; have u1 := (not_congr (zi_eq _ _)).mp c15_; have u2 := (show 0 ≤ Int32.toInt 0 ∧ Int32.toInt 0 ≤ 0 from (by decide)); omega)
        refine pw_blk hT 1 (S' := (23, [some (pvR 124), some (pvI n1), none, none, none], [pvR 124], M)) rfl ⟨trivial, trivial⟩ ?_
        refine pw_callVd hT (as := [pvR 124]) (lo1 := [some (pvR 124), none]) (d1 := d) (rest := []) rfl rfl rfl rfl rfl (fun _ => rfl) (Nat.zero_le _) rfl rfl rfl (se_X10_layRound_124 M hok d) (fun M19_ o21_ g22_ d17_ => ?_)
        have f23_ : pvFr fp_eX10_round_124_x M M19_ := pvfr_t g22_ pvfr_0 fp_eX10_round_124_x_fp_eX10_layRound_124
        refine pw_blk hT 1 (S' := (27, [some (pvR 124), some (pvI n1), none, none, none], [pvR 124], M19_)) rfl ⟨trivial, trivial⟩ ?_
        refine pw_callVd hT (as := [pvR 124]) (lo1 := [some (pvR 124), none]) (d1 := d) (rest := []) rfl rfl rfl rfl rfl (fun _ => rfl) (Nat.zero_le _) rfl rfl rfl (se_X10_layOpen_124 M19_ o21_ d) (fun M26_ o28_ g29_ d24_ => ?_)
        have f30_ : pvFr fp_eX10_round_124_x M M26_ := pvfr_t g29_ f23_ fp_eX10_round_124_x_fp_eX10_layOpen_124
        have b31_ : 0 ≤ Int32.toInt (M26_.1 124 35) ∧ Int32.toInt (M26_.1 124 35) ≤ 7 := pvok_r o28_ 124 35 rfl
        have b32_ : 0 ≤ Int32.toInt (M26_.1 124 1) ∧ Int32.toInt (M26_.1 124 1) ≤ 9999 := pvok_r o28_ 124 1 rfl
        refine pw_blk hT 6 (S' := (40, [some (pvR 124), some (pvI n1), none, none, none], [pvI (M26_.1 124 1), pvI (M26_.1 124 35), pvI 0, pvR 124], M26_)) rfl ⟨trivial, trivial, trivial, rfl, trivial, rfl, trivial⟩ ?_
        refine pw_callGd hT (as := [pvR 124, pvI 0, pvI (M26_.1 124 35), pvI (M26_.1 124 1)]) (lo1 := [some (pvR 124), some (pvI 0), some (pvI (M26_.1 124 35)), some (pvI (M26_.1 124 1)), none, none, none, none, none]) (d1 := d) (rest := []) rfl rfl rfl rfl rfl (fun _ => rfl) (Nat.zero_le _) rfl rfl rfl (se_X10_goes_124_x_x_x M26_ o28_ 0 (M26_.1 124 35) (M26_.1 124 1) (zr_wide (show 0 ≤ Int32.toInt 0 ∧ Int32.toInt 0 ≤ 0 from (by decide)) (by decide) (by decide)) b31_ (zr_wide b32_ (by decide) (by decide)) d) (fun x34_ M35_ b36_ o37_ g38_ d33_ => ?_)
        have f39_ : pvFr fp_eX10_round_124_x M M35_ := pvfr_t g38_ f30_ fp_eX10_round_124_x_fp_eX10_goes_124_x_x_x
        refine pw_blk hT 3 (S' := (46, [some (pvR 124), some (pvI n1), some (pvI x34_), none, none], [pvI 1, pvI n1], M35_)) rfl ⟨trivial, trivial, trivial, trivial⟩ ?_
        refine pw_icn hT (c := n1 = 1) rfl rfl (fun c40_ => ?_) (fun c40_ => ?_)
        · have b41_ : 2 ≤ Int32.toInt n1 ∧ Int32.toInt n1 ≤ 2 := (by have u0 := b16_; have u1 := (not_congr (zi_eq _ _)).mp c40_; have u2 := (show 1 ≤ Int32.toInt 1 ∧ Int32.toInt 1 ≤ 1 from (by decide)); omega)
          refine pw_blk hT 4 (S' := (56, [some (pvR 124), some (pvI n1), some (pvI x34_), some (pvI 0), some (pvI 0)], [], M35_)) rfl ⟨trivial, trivial, trivial, trivial, trivial⟩ ?_
          have hlz107_ : ∀ (nz107_ : Nat) (i3z107_ : Int32) (i4z107_ : Int32), (0 ≤ Int32.toInt i4z107_ ∧ Int32.toInt i4z107_ ≤ 7) → (yS0 M M35_ i3z107_ i4z107_) → (zhide ((8 - Int32.toInt i4z107_).toNat < nz107_)) → PW 69 d (56, [some (pvR 124), some (pvI n1), some (pvI x34_), some (pvI i3z107_), some (pvI i4z107_)], [], M35_) (fun r X => (∃ x : Int32, r = some (pvI x) ∧ True) ∧ pvOk X ∧ pvFr fp_eX10_round_124_x M X ∧ yA0 (yGrd n1) r M) := by
            intro nz107_
            induction nz107_ with
            | zero => intro i3z107_ i4z107_ h4z107_ j0z107_ hmz107_; exact absurd (zshow hmz107_) (Nat.not_lt_zero _)
            | succ nz107_ ihz107_ =>
              intro i3z107_ i4z107_ h4z107_ j0z107_ hmz107_
              have b108_ : 0 ≤ Int32.toInt (M35_.1 124 37) ∧ Int32.toInt (M35_.1 124 37) ≤ 7 := pvok_r o37_ 124 37 rfl
              refine pw_blk hT 3 (S' := (62, [some (pvR 124), some (pvI n1), some (pvI x34_), some (pvI i3z107_), some (pvI i4z107_)], [pvI (M35_.1 124 37), pvI i4z107_], M35_)) rfl ⟨trivial, trivial, rfl, trivial⟩ ?_
              refine pw_ic hT (c := (M35_.1 124 37) ≤ i4z107_) rfl rfl (fun c109_ => ?_) (fun c109_ => ?_)
              · have d110_ : Int32.toInt (M35_.1 124 37) ≤ Int32.toInt i4z107_ := (zi_le _ _).mp c109_
                refine pw_blk hT 1 (S' := (99, [some (pvR 124), some (pvI n1), some (pvI x34_), some (pvI i3z107_), some (pvI i4z107_)], [pvI i3z107_], M35_)) rfl ⟨trivial, trivial⟩ ?_
                exact pw_ret hT rfl (r := some (pvI i3z107_)) (M' := M35_) ⟨rfl, rfl⟩ ⟨⟨_, rfl, trivial⟩, o37_, f39_, (yGrd0_2 j0z107_ (by have u := h4z107_; omega) c109_ (by have u := b41_; omega) (by have u := b41_; omega) (by have u := b41_; omega))⟩
              · have b111_ : 1 ≤ Int32.toInt (M35_.1 124 37) ∧ Int32.toInt (M35_.1 124 37) ≤ 7 := zr_nle_l 1 c109_ b108_ h4z107_ (by decide)
                have b112_ : 0 ≤ Int32.toInt i4z107_ ∧ Int32.toInt i4z107_ ≤ 6 := zr_nle_r 6 c109_ h4z107_ b111_ (by decide)
                have d113_ : Int32.toInt (M35_.1 124 37) > Int32.toInt i4z107_ := Int.not_le.mp ((not_congr (zi_le _ _)).mp c109_)
                have b114_ : 0 ≤ Int32.toInt (M35_.1 145 (Int32.toNatClampNeg i4z107_)) ∧ Int32.toInt (M35_.1 145 (Int32.toNatClampNeg i4z107_)) ≤ 6 := pvok_r o37_ 145 (Int32.toNatClampNeg i4z107_) rfl
                have b115_ : (-1) ≤ Int32.toInt (M35_.1 143 (Int32.toNatClampNeg (M35_.1 145 (Int32.toNatClampNeg i4z107_)))) ∧ Int32.toInt (M35_.1 143 (Int32.toNatClampNeg (M35_.1 145 (Int32.toNatClampNeg i4z107_)))) ≤ 99999 := pvok_r o37_ 143 (Int32.toNatClampNeg (M35_.1 145 (Int32.toNatClampNeg i4z107_))) rfl
                have b116_ : 0 ≤ Int32.toInt (M35_.1 124 3) ∧ Int32.toInt (M35_.1 124 3) ≤ 108 := pvok_r o37_ 124 3 rfl
                refine pw_blk hT 10 (S' := (82, [some (pvR 124), some (pvI n1), some (pvI x34_), some (pvI i3z107_), some (pvI i4z107_)], [pvI (M35_.1 124 3), pvI (M35_.1 143 (Int32.toNatClampNeg (M35_.1 145 (Int32.toNatClampNeg i4z107_)))), pvI i3z107_], M35_)) rfl ⟨trivial, trivial, rfl, trivial, rfl, trivial, ⟨rfl, (zr_in (n := 7) b112_ (by decide) (by decide))⟩, ⟨rfl, (zr_in (n := 7) b114_ (by decide) (by decide))⟩, trivial, rfl, trivial⟩ ?_
                refine pw_ic hT (c := (M35_.1 124 3) < (M35_.1 143 (Int32.toNatClampNeg (M35_.1 145 (Int32.toNatClampNeg i4z107_))))) rfl rfl (fun c117_ => ?_) (fun c117_ => ?_)
                · have b118_ : 1 ≤ Int32.toInt (M35_.1 143 (Int32.toNatClampNeg (M35_.1 145 (Int32.toNatClampNeg i4z107_)))) ∧ Int32.toInt (M35_.1 143 (Int32.toNatClampNeg (M35_.1 145 (Int32.toNatClampNeg i4z107_)))) ≤ 99999 := zr_lt_r 1 c117_ b115_ b116_ (by decide)
                  have d119_ : Int32.toInt (M35_.1 124 3) < Int32.toInt (M35_.1 143 (Int32.toNatClampNeg (M35_.1 145 (Int32.toNatClampNeg i4z107_)))) := (zi_lt _ _).mp c117_
                  obtain ⟨q121_, b120_⟩ : (Int32.toInt (i3z107_ + 0) = Int32.toInt i3z107_ + 0) ∧ ((-2147483648) ≤ Int32.toInt (i3z107_ + 0) ∧ Int32.toInt (i3z107_ + 0) ≤ 2147483647) := zadd_k i3z107_ 0 0 (-2147483648) 2147483647 (zbnd i3z107_) (by decide) (by decide) (by decide) (by decide) (by decide)
                  obtain ⟨q123_, b122_⟩ : (Int32.toInt (i4z107_ + 1) = Int32.toInt i4z107_ + 1) ∧ (1 ≤ Int32.toInt (i4z107_ + 1) ∧ Int32.toInt (i4z107_ + 1) ≤ 7) := zadd_k i4z107_ 1 1 1 7 b112_ (by decide) (by decide) (by decide) (by decide) (by decide)
                  refine pw_blk hT 5 (S' := (56, [some (pvR 124), some (pvI n1), some (pvI x34_), some (pvI (i3z107_ + 0)), some (pvI (i4z107_ + 1))], [], M35_)) rfl ⟨trivial, trivial, trivial, trivial, trivial, trivial⟩ ?_
                  have j124_ : yS0 M M35_ (i3z107_ + 0) (i4z107_ + 1) := (yS0_s hok j0z107_ (by have u := b112_; omega) c109_ (by omega) (Or.inr ⟨(Int32.not_le.mpr c117_), by decide⟩) rfl)
                  exact ihz107_ (i3z107_ + 0) (i4z107_ + 1) (zr_wide b122_ (by decide) (by decide)) j124_ (zhid (pvms_up (zshow hmz107_) h4z107_ q123_ (by decide) (by decide)))
                · have b125_ : (-1) ≤ Int32.toInt (M35_.1 143 (Int32.toNatClampNeg (M35_.1 145 (Int32.toNatClampNeg i4z107_)))) ∧ Int32.toInt (M35_.1 143 (Int32.toNatClampNeg (M35_.1 145 (Int32.toNatClampNeg i4z107_)))) ≤ 108 := zr_nlt_r 108 c117_ b115_ b116_ (by decide)
                  have d126_ : Int32.toInt (M35_.1 124 3) ≥ Int32.toInt (M35_.1 143 (Int32.toNatClampNeg (M35_.1 145 (Int32.toNatClampNeg i4z107_)))) := Int.not_lt.mp ((not_congr (zi_lt _ _)).mp c117_)
                  obtain ⟨q128_, b127_⟩ : (Int32.toInt (i4z107_ + 1) = Int32.toInt i4z107_ + 1) ∧ (1 ≤ Int32.toInt (i4z107_ + 1) ∧ Int32.toInt (i4z107_ + 1) ≤ 7) := zadd_k i4z107_ 1 1 1 7 b112_ (by decide) (by decide) (by decide) (by decide) (by decide)
                  refine pw_blk hT 6 (S' := (56, [some (pvR 124), some (pvI n1), some (pvI x34_), some (pvI (i3z107_ + 1)), some (pvI (i4z107_ + 1))], [], M35_)) rfl ⟨trivial, trivial, trivial, trivial, trivial, trivial, trivial⟩ ?_
                  have j129_ : yS0 M M35_ (i3z107_ + 1) (i4z107_ + 1) := (yS0_s hok j0z107_ (by have u := b112_; omega) c109_ (by omega) (Or.inl ⟨(Int32.not_lt.mp c117_), by decide⟩) rfl)
                  exact ihz107_ (i3z107_ + 1) (i4z107_ + 1) (zr_wide b127_ (by decide) (by decide)) j129_ (zhid (pvms_up (zshow hmz107_) h4z107_ q128_ (by decide) (by decide)))
          have u130_ : Int32.toInt 0 = 0 := by decide
          have j131_ : yS0 M M35_ 0 0 := (yS0_0 hok (yRn0_i (n1 := 0) d17_ d24_ d33_) (by decide) (by decide))
          exact hlz107_ _ 0 0 (zr_wide (show 0 ≤ Int32.toInt 0 ∧ Int32.toInt 0 ≤ 0 from (by decide)) (by decide) (by decide)) j131_ (zhid (Nat.lt_succ_self _))
        · have b132_ : 1 ≤ Int32.toInt n1 ∧ Int32.toInt n1 ≤ 1 := (by have u0 := b16_; have u1 := (zi_eq _ _).mp c40_; have u2 := (show 1 ≤ Int32.toInt 1 ∧ Int32.toInt 1 ≤ 1 from (by decide)); omega)
          refine pw_blk hT 1 (S' := (50, [some (pvR 124), some (pvI n1), some (pvI x34_), none, none], [pvI x34_], M35_)) rfl ⟨trivial, trivial⟩ ?_
          exact pw_ret hT rfl (r := some (pvI x34_)) (M' := M35_) ⟨rfl, rfl⟩ ⟨⟨_, rfl, trivial⟩, o37_, f39_, (yGrd0_1 (yRn0_i (n1 := 0) d17_ d24_ d33_) (by have u := b132_; omega) (by have u := b132_; omega))⟩
      · have b133_ : 0 ≤ Int32.toInt n1 ∧ Int32.toInt n1 ≤ 0 := (by have u0 := b13_; have u1 := (zi_eq _ _).mp c15_; have u2 := (show 0 ≤ Int32.toInt 0 ∧ Int32.toInt 0 ≤ 0 from (by decide)); omega)
        refine pw_blk hT 2 (S' := (18, [some (pvR 124), some (pvI n1), none, none, none], [pvI 0, pvR 124], M)) rfl ⟨trivial, trivial, trivial⟩ ?_
        have u134_ : Int32.toInt 0 = 0 := by decide
        refine pw_callGd hT (as := [pvR 124, pvI 0]) (lo1 := [some (pvR 124), some (pvI 0)]) (d1 := d) (rest := []) rfl rfl rfl rfl rfl (fun _ => rfl) (Nat.zero_le _) rfl rfl rfl (se_X10_costOfRound_124_x M hok 0 (zr_wide (show 0 ≤ Int32.toInt 0 ∧ Int32.toInt 0 ≤ 0 from (by decide)) (by decide) (by decide)) hz d) (fun x136_ M137_ b138_ o139_ g140_ d135_ => ?_)
        have f141_ : pvFr fp_eX10_round_124_x M M137_ := pvfr_t g140_ pvfr_0 fp_eX10_round_124_x_fp_eX10_costOfRound_124_x
        exact pw_ret hT rfl (r := some (pvI x136_)) (M' := M137_) ⟨rfl, rfl⟩ ⟨⟨_, rfl, trivial⟩, o139_, f141_, (yGrd0_0 d135_ (by decide) (by have u := b133_; omega) (by have u := b133_; omega))⟩
def fpL_eX10_row_124_x_x_x : List (Nat × Nat × Nat) := [(0, 130, 0)]
def fp_eX10_row_124_x_x_x (q k : Nat) : Bool := pvfp fpL_eX10_row_124_x_x_x q k
set_option maxHeartbeats 4000000 in
set_option maxRecDepth 10000 in
theorem se_X10_row_124_x_x_x (M : pvM) (hok : pvOk M) (n1 : Int32) (n2 : Int32) (n3 : Int32) (d : Nat) : PW 70 d (0, [some (pvR 124), some (pvI n1), some (pvI n2), some (pvI n3), none], [], M) (fun r X => (∃ x : Int32, r = some (pvI x) ∧ ((-3) ≤ Int32.toInt x ∧ Int32.toInt x ≤ 9) ∧ x = (if n1 < 0 then (-1) else (if ((M.1 124 0) - 1) < n1 then (-1) else (if n2 < 0 then (-1) else (if 3 < n2 then (-1) else (if n3 < 0 then (-2) else (if 9 < n3 then (-2) else (if (M.1 125 (Int32.toNatClampNeg n1)) = 6 then (M.1 130 (Int32.toNatClampNeg ((4 * n1) + n2))) else (-3))))))))) ∧ pvOk X ∧ pvFr fp_eX10_row_124_x_x_x M X ∧ zV10 n1 n2 n3 r M X) := by
  have hT : pvdom 70 = pvD_70 := rfl
  refine pw_blk hT 2 (S' := (2, [some (pvR 124), some (pvI n1), some (pvI n2), some (pvI n3), none], [pvI n1, pvR 124], M)) rfl ⟨trivial, trivial, trivial⟩ ?_
  refine pw_callT hT (as := [pvR 124, pvI n1]) (lo1 := [some (pvR 124), some (pvI n1)]) (d1 := d) (rest := []) rfl rfl rfl rfl rfl (fun _ => rfl) (Nat.zero_le _) rfl rfl rfl (sf_X10_isWindow_124_x M hok n1 d) ?_
  by_cases c6_ : n1 < 0
  · refine pw_eqI (if_pos c6_) ?_
    have b7_ : (-2147483648) ≤ Int32.toInt n1 ∧ Int32.toInt n1 ≤ (-1) := zr_lt_l (-1) c6_ (zbnd n1) (show 0 ≤ Int32.toInt 0 ∧ Int32.toInt 0 ≤ 0 from (by decide)) (by decide)
    show PW 70 d (5, [some (pvR 124), some (pvI n1), some (pvI n2), some (pvI n3), none], [pvI 0], M) _
    refine pw_if hT (c := 0 = 0) rfl rfl (fun c8_ => ?_) (fun c8_ => absurd (by decide) c8_)
    refine pw_blk hT 1 (S' := (19, [some (pvR 124), some (pvI n1), some (pvI n2), some (pvI n3), none], [pvI (-1)], M)) rfl ⟨trivial, trivial⟩ ?_
    exact pw_ret hT rfl (r := some (pvI (-1))) (M' := M) ⟨rfl, rfl⟩ ⟨⟨_, rfl, (zr_wide (show (-1) ≤ Int32.toInt (-1) ∧ Int32.toInt (-1) ≤ (-1) from (by decide)) (by decide) (by decide)), (by rw [if_pos c6_]; first | done | (rw [if_pos c6_]; done))⟩, hok, pvfr_0, ⟨_, rfl, Or.inl ⟨by decide, zKm_r 125 130 M⟩⟩⟩
  · refine pw_eqI (if_neg c6_) ?_
    have b9_ : 0 ≤ Int32.toInt n1 ∧ Int32.toInt n1 ≤ 2147483647 := zr_nlt_l 0 c6_ (zbnd n1) (show 0 ≤ Int32.toInt 0 ∧ Int32.toInt 0 ≤ 0 from (by decide)) (by decide)
    have b10_ : 0 ≤ Int32.toInt (M.1 124 0) ∧ Int32.toInt (M.1 124 0) ≤ 7 := pvok_r hok 124 0 rfl
    obtain ⟨q12_, b11_⟩ : (Int32.toInt ((M.1 124 0) - 1) = Int32.toInt (M.1 124 0) - 1) ∧ ((-1) ≤ Int32.toInt ((M.1 124 0) - 1) ∧ Int32.toInt ((M.1 124 0) - 1) ≤ 6) := zsub_k (M.1 124 0) 1 1 (-1) 6 b10_ (by decide) (by decide) (by decide) (by decide) (by decide)
    by_cases c13_ : ((M.1 124 0) - 1) < n1
    · refine pw_eqI (if_pos c13_) ?_
      have d14_ : Int32.toInt ((M.1 124 0) - 1) < Int32.toInt n1 := (zi_lt _ _).mp c13_
      show PW 70 d (5, [some (pvR 124), some (pvI n1), some (pvI n2), some (pvI n3), none], [pvI 0], M) _
      refine pw_if hT (c := 0 = 0) rfl rfl (fun c15_ => ?_) (fun c15_ => absurd (by decide) c15_)
      refine pw_blk hT 1 (S' := (19, [some (pvR 124), some (pvI n1), some (pvI n2), some (pvI n3), none], [pvI (-1)], M)) rfl ⟨trivial, trivial⟩ ?_
      exact pw_ret hT rfl (r := some (pvI (-1))) (M' := M) ⟨rfl, rfl⟩ ⟨⟨_, rfl, (zr_wide (show (-1) ≤ Int32.toInt (-1) ∧ Int32.toInt (-1) ≤ (-1) from (by decide)) (by decide) (by decide)), (by rw [if_neg c6_, if_pos c13_]; first | done | (rw [if_pos c13_]; done))⟩, hok, pvfr_0, ⟨_, rfl, Or.inl ⟨by decide, zKm_r 125 130 M⟩⟩⟩
    · refine pw_eqI (if_neg c13_) ?_
      have b16_ : 0 ≤ Int32.toInt ((M.1 124 0) - 1) ∧ Int32.toInt ((M.1 124 0) - 1) ≤ 6 := zr_nlt_l 0 c13_ b11_ b9_ (by decide)
      have b17_ : 0 ≤ Int32.toInt n1 ∧ Int32.toInt n1 ≤ 6 := zr_nlt_r 6 c13_ b9_ b16_ (by decide)
      have d18_ : Int32.toInt ((M.1 124 0) - 1) ≥ Int32.toInt n1 := Int.not_lt.mp ((not_congr (zi_lt _ _)).mp c13_)
      show PW 70 d (5, [some (pvR 124), some (pvI n1), some (pvI n2), some (pvI n3), none], [pvI 1], M) _
      refine pw_if hT (c := 1 = 0) rfl rfl (fun c19_ => absurd c19_ (by decide)) (fun c19_ => ?_)
      refine pw_blk hT 4 (S' := (12, [some (pvR 124), some (pvI n1), some (pvI n2), some (pvI n3), none], [pvI 3, pvI 0, pvI n2, pvR 124], M)) rfl ⟨trivial, trivial, trivial, trivial, trivial⟩ ?_
      refine pw_callT hT (as := [pvR 124, pvI n2, pvI 0, pvI 3]) (lo1 := [some (pvR 124), some (pvI n2), some (pvI 0), some (pvI 3)]) (d1 := d) (rest := []) rfl rfl rfl rfl rfl (fun _ => rfl) (Nat.zero_le _) rfl rfl rfl (sf_X10_in_124_x_x_x M hok n2 0 3 d) ?_
      by_cases c25_ : n2 < 0
      · refine pw_eqI (if_pos c25_) ?_
        have b26_ : (-2147483648) ≤ Int32.toInt n2 ∧ Int32.toInt n2 ≤ (-1) := zr_lt_l (-1) c25_ (zbnd n2) (show 0 ≤ Int32.toInt 0 ∧ Int32.toInt 0 ≤ 0 from (by decide)) (by decide)
        show PW 70 d (15, [some (pvR 124), some (pvI n1), some (pvI n2), some (pvI n3), none], [pvI 0], M) _
        refine pw_ifn hT (c := 0 = 0) rfl rfl (fun c27_ => absurd (by decide) c27_) (fun c27_ => ?_)
        refine pw_blk hT 1 (S' := (19, [some (pvR 124), some (pvI n1), some (pvI n2), some (pvI n3), none], [pvI (-1)], M)) rfl ⟨trivial, trivial⟩ ?_
        exact pw_ret hT rfl (r := some (pvI (-1))) (M' := M) ⟨rfl, rfl⟩ ⟨⟨_, rfl, (zr_wide (show (-1) ≤ Int32.toInt (-1) ∧ Int32.toInt (-1) ≤ (-1) from (by decide)) (by decide) (by decide)), (by rw [if_neg c6_, if_neg c13_, if_pos c25_]; first | done | (rw [if_pos c25_]; done))⟩, hok, pvfr_0, ⟨_, rfl, Or.inl ⟨by decide, zKm_r 125 130 M⟩⟩⟩
      · refine pw_eqI (if_neg c25_) ?_
        have b28_ : 0 ≤ Int32.toInt n2 ∧ Int32.toInt n2 ≤ 2147483647 := zr_nlt_l 0 c25_ (zbnd n2) (show 0 ≤ Int32.toInt 0 ∧ Int32.toInt 0 ≤ 0 from (by decide)) (by decide)
        by_cases c29_ : 3 < n2
        · refine pw_eqI (if_pos c29_) ?_
          have b30_ : 4 ≤ Int32.toInt n2 ∧ Int32.toInt n2 ≤ 2147483647 := zr_lt_r 4 c29_ b28_ (show 3 ≤ Int32.toInt 3 ∧ Int32.toInt 3 ≤ 3 from (by decide)) (by decide)
          show PW 70 d (15, [some (pvR 124), some (pvI n1), some (pvI n2), some (pvI n3), none], [pvI 0], M) _
          refine pw_ifn hT (c := 0 = 0) rfl rfl (fun c31_ => absurd (by decide) c31_) (fun c31_ => ?_)
          refine pw_blk hT 1 (S' := (19, [some (pvR 124), some (pvI n1), some (pvI n2), some (pvI n3), none], [pvI (-1)], M)) rfl ⟨trivial, trivial⟩ ?_
          exact pw_ret hT rfl (r := some (pvI (-1))) (M' := M) ⟨rfl, rfl⟩ ⟨⟨_, rfl, (zr_wide (show (-1) ≤ Int32.toInt (-1) ∧ Int32.toInt (-1) ≤ (-1) from (by decide)) (by decide) (by decide)), (by rw [if_neg c6_, if_neg c13_, if_neg c25_, if_pos c29_]; first | done | (rw [if_pos c29_]; done))⟩, hok, pvfr_0, ⟨_, rfl, Or.inl ⟨by decide, zKm_r 125 130 M⟩⟩⟩
        · refine pw_eqI (if_neg c29_) ?_
          have b32_ : 0 ≤ Int32.toInt n2 ∧ Int32.toInt n2 ≤ 3 := zr_nlt_r 3 c29_ b28_ (show 3 ≤ Int32.toInt 3 ∧ Int32.toInt 3 ≤ 3 from (by decide)) (by decide)
          show PW 70 d (15, [some (pvR 124), some (pvI n1), some (pvI n2), some (pvI n3), none], [pvI 1], M) _
          refine pw_ifn hT (c := 1 = 0) rfl rfl (fun c33_ => ?_) (fun c33_ => absurd c33_ (by decide))
          refine pw_blk hT 4 (S' := (25, [some (pvR 124), some (pvI n1), some (pvI n2), some (pvI n3), none], [pvI 9, pvI 0, pvI n3, pvR 124], M)) rfl ⟨trivial, trivial, trivial, trivial, trivial⟩ ?_
          refine pw_callT hT (as := [pvR 124, pvI n3, pvI 0, pvI 9]) (lo1 := [some (pvR 124), some (pvI n3), some (pvI 0), some (pvI 9)]) (d1 := d) (rest := []) rfl rfl rfl rfl rfl (fun _ => rfl) (Nat.zero_le _) rfl rfl rfl (sf_X10_in_124_x_x_x M hok n3 0 9 d) ?_
          by_cases c39_ : n3 < 0
          · refine pw_eqI (if_pos c39_) ?_
            have b40_ : (-2147483648) ≤ Int32.toInt n3 ∧ Int32.toInt n3 ≤ (-1) := zr_lt_l (-1) c39_ (zbnd n3) (show 0 ≤ Int32.toInt 0 ∧ Int32.toInt 0 ≤ 0 from (by decide)) (by decide)
            show PW 70 d (28, [some (pvR 124), some (pvI n1), some (pvI n2), some (pvI n3), none], [pvI 0], M) _
            refine pw_ifn hT (c := 0 = 0) rfl rfl (fun c41_ => absurd (by decide) c41_) (fun c41_ => ?_)
            refine pw_blk hT 1 (S' := (33, [some (pvR 124), some (pvI n1), some (pvI n2), some (pvI n3), none], [pvI (-2)], M)) rfl ⟨trivial, trivial⟩ ?_
            exact pw_ret hT rfl (r := some (pvI (-2))) (M' := M) ⟨rfl, rfl⟩ ⟨⟨_, rfl, (zr_wide (show (-2) ≤ Int32.toInt (-2) ∧ Int32.toInt (-2) ≤ (-2) from (by decide)) (by decide) (by decide)), (by rw [if_neg c6_, if_neg c13_, if_neg c25_, if_neg c29_, if_pos c39_]; first | done | (rw [if_pos c39_]; done))⟩, hok, pvfr_0, ⟨_, rfl, Or.inl ⟨by decide, zKm_r 125 130 M⟩⟩⟩
          · refine pw_eqI (if_neg c39_) ?_
            have b42_ : 0 ≤ Int32.toInt n3 ∧ Int32.toInt n3 ≤ 2147483647 := zr_nlt_l 0 c39_ (zbnd n3) (show 0 ≤ Int32.toInt 0 ∧ Int32.toInt 0 ≤ 0 from (by decide)) (by decide)
            by_cases c43_ : 9 < n3
            · refine pw_eqI (if_pos c43_) ?_
              have b44_ : 10 ≤ Int32.toInt n3 ∧ Int32.toInt n3 ≤ 2147483647 := zr_lt_r 10 c43_ b42_ (show 9 ≤ Int32.toInt 9 ∧ Int32.toInt 9 ≤ 9 from (by decide)) (by decide)
              show PW 70 d (28, [some (pvR 124), some (pvI n1), some (pvI n2), some (pvI n3), none], [pvI 0], M) _
              refine pw_ifn hT (c := 0 = 0) rfl rfl (fun c45_ => absurd (by decide) c45_) (fun c45_ => ?_)
              refine pw_blk hT 1 (S' := (33, [some (pvR 124), some (pvI n1), some (pvI n2), some (pvI n3), none], [pvI (-2)], M)) rfl ⟨trivial, trivial⟩ ?_
              exact pw_ret hT rfl (r := some (pvI (-2))) (M' := M) ⟨rfl, rfl⟩ ⟨⟨_, rfl, (zr_wide (show (-2) ≤ Int32.toInt (-2) ∧ Int32.toInt (-2) ≤ (-2) from (by decide)) (by decide) (by decide)), (by rw [if_neg c6_, if_neg c13_, if_neg c25_, if_neg c29_, if_neg c39_, if_pos c43_]; first | done | (rw [if_pos c43_]; done))⟩, hok, pvfr_0, ⟨_, rfl, Or.inl ⟨by decide, zKm_r 125 130 M⟩⟩⟩
            · refine pw_eqI (if_neg c43_) ?_
              have b46_ : 0 ≤ Int32.toInt n3 ∧ Int32.toInt n3 ≤ 9 := zr_nlt_r 9 c43_ b42_ (show 9 ≤ Int32.toInt 9 ∧ Int32.toInt 9 ≤ 9 from (by decide)) (by decide)
              show PW 70 d (28, [some (pvR 124), some (pvI n1), some (pvI n2), some (pvI n3), none], [pvI 1], M) _
              refine pw_ifn hT (c := 1 = 0) rfl rfl (fun c47_ => ?_) (fun c47_ => absurd c47_ (by decide))
              have b48_ : 0 ≤ Int32.toInt (M.1 125 (Int32.toNatClampNeg n1)) ∧ Int32.toInt (M.1 125 (Int32.toNatClampNeg n1)) ≤ 6 := pvok_r hok 125 (Int32.toNatClampNeg n1) rfl
              refine pw_blk hT 5 (S' := (42, [some (pvR 124), some (pvI n1), some (pvI n2), some (pvI n3), none], [pvI 6, pvI (M.1 125 (Int32.toNatClampNeg n1))], M)) rfl ⟨trivial, rfl, trivial, ⟨rfl, (zr_in (n := 7) b17_ (by decide) (by decide))⟩, trivial, trivial⟩ ?_
              refine pw_ic hT (c := (M.1 125 (Int32.toNatClampNeg n1)) = 6) rfl rfl (fun c49_ => ?_) (fun c49_ => ?_)
              · have b50_ : 6 ≤ Int32.toInt (M.1 125 (Int32.toNatClampNeg n1)) ∧ Int32.toInt (M.1 125 (Int32.toNatClampNeg n1)) ≤ 6 := (by have u0 := b48_; have u1 := (zi_eq _ _).mp c49_; have u2 := (show 6 ≤ Int32.toInt 6 ∧ Int32.toInt 6 ≤ 6 from (by decide)); omega)
                have q51_ : Int32.toInt (4 * n1) = 4 * Int32.toInt n1 := by have u0 : Int32.toInt 4 = 4 := (by decide); have u1 := b17_; have u2 := zmul 4 n1 (by rw [u0]; omega) (by rw [u0]; omega); rw [u0] at u2; omega
                have b52_ : 0 ≤ Int32.toInt (4 * n1) ∧ Int32.toInt (4 * n1) ≤ 24 := (by have u1 := b17_; omega)
                obtain ⟨q54_, b53_⟩ : (Int32.toInt ((4 * n1) + n2) = Int32.toInt (4 * n1) + Int32.toInt n2) ∧ (0 ≤ Int32.toInt ((4 * n1) + n2) ∧ Int32.toInt ((4 * n1) + n2) ≤ 27) := zadd_r (4 * n1) n2 0 27 b52_ b32_ (by decide) (by decide) (by decide) (by decide)
                have b55_ : 0 ≤ Int32.toInt (M.1 130 (Int32.toNatClampNeg ((4 * n1) + n2))) ∧ Int32.toInt (M.1 130 (Int32.toNatClampNeg ((4 * n1) + n2))) ≤ 9 := pvok_r hok 130 (Int32.toNatClampNeg ((4 * n1) + n2)) rfl
                refine pw_blkw hT 18 (pc := 71) (lo := [some (pvR 124), some (pvI n1), some (pvI n2), some (pvI n3), some (pvI (M.1 130 (Int32.toNatClampNeg ((4 * n1) + n2))))]) (st := []) (M := pvu M 130 (Int32.toNatClampNeg ((4 * n1) + n2)) n3) rfl ⟨trivial, rfl, trivial, trivial, trivial, trivial, trivial, ⟨rfl, (zr_in (n := 28) b53_ (by decide) (by decide))⟩, trivial, trivial, rfl, trivial, trivial, trivial, trivial, trivial, trivial, ⟨rfl, (zr_in (n := 28) b53_ (by decide) (by decide))⟩, trivial⟩ (fun M56_ e57_ => ?_)
                have o58_ : pvOk M56_ := pvok_u2 e57_ hok rfl b46_
                have f59_ : pvFr fp_eX10_row_124_x_x_x M M56_ := pvfr_u e57_ pvfr_0 rfl
                refine pw_blk hT 1 (S' := (73, [some (pvR 124), some (pvI n1), some (pvI n2), some (pvI n3), some (pvI (M.1 130 (Int32.toNatClampNeg ((4 * n1) + n2))))], [pvI (M.1 130 (Int32.toNatClampNeg ((4 * n1) + n2)))], M56_)) rfl ⟨trivial, trivial⟩ ?_
                exact pw_ret hT rfl (r := some (pvI (M.1 130 (Int32.toNatClampNeg ((4 * n1) + n2))))) (M' := M56_) ⟨rfl, rfl⟩ ⟨⟨_, rfl, (zr_wide b55_ (by decide) (by decide)), (by rw [if_neg c6_, if_neg c13_, if_neg c25_, if_neg c29_, if_neg c39_, if_neg c43_, if_pos c49_]; first | done | (rw [if_pos c49_]; done))⟩, o58_, f59_, ⟨_, rfl, Or.inr ⟨(b55_).1, fun i hi => ⟨fun f hf => pvu_n e57_ (125 + f) i (Or.inl (by omega)), fun j hj => zrow10 b17_ b32_ e57_ i j hj⟩⟩⟩⟩
              · have b60_ : 0 ≤ Int32.toInt (M.1 125 (Int32.toNatClampNeg n1)) ∧ Int32.toInt (M.1 125 (Int32.toNatClampNeg n1)) ≤ 5 := (by have u0 := b48_; have u1 := (not_congr (zi_eq _ _)).mp c49_; have u2 := (show 6 ≤ Int32.toInt 6 ∧ Int32.toInt 6 ≤ 6 from (by decide)); omega)
                refine pw_blk hT 1 (S' := (47, [some (pvR 124), some (pvI n1), some (pvI n2), some (pvI n3), none], [pvI (-3)], M)) rfl ⟨trivial, trivial⟩ ?_
                exact pw_ret hT rfl (r := some (pvI (-3))) (M' := M) ⟨rfl, rfl⟩ ⟨⟨_, rfl, (zr_wide (show (-3) ≤ Int32.toInt (-3) ∧ Int32.toInt (-3) ≤ (-3) from (by decide)) (by decide) (by decide)), (by rw [if_neg c6_, if_neg c13_, if_neg c25_, if_neg c29_, if_neg c39_, if_neg c43_, if_neg c49_]; first | done | (rw [if_neg c49_]; done))⟩, hok, pvfr_0, ⟨_, rfl, Or.inl ⟨by decide, zKm_r 125 130 M⟩⟩⟩
def fpL_eX10_see_124_x_x : List (Nat × Nat × Nat) := [(0, 124, 41), (0, 147, 0), (0, 148, 0)]
def fp_eX10_see_124_x_x (q k : Nat) : Bool := pvfp fpL_eX10_see_124_x_x q k
set_option maxHeartbeats 4000000 in
set_option maxRecDepth 10000 in
theorem se_X10_see_124_x_x (M : pvM) (hok : pvOk M) (n1 : Int32) (n2 : Int32) (d : Nat) : PW 71 d (0, [some (pvR 124), some (pvI n1), some (pvI n2)], [], M) (fun r X => (∃ x : Int32, r = some (pvI x) ∧ ((-4) ≤ Int32.toInt x ∧ Int32.toInt x ≤ 6) ∧ x = (if n1 = (-1) then 0 else (if n1 < 0 then (-1) else (if ((M.1 124 0) - 1) < n1 then (-1) else (if n2 < 0 then (-2) else (if 9999 < n2 then (-2) else (if (M.1 124 40) = 6 then (-4) else ((M.1 124 40) + 1)))))))) ∧ pvOk X ∧ pvFr fp_eX10_see_124_x_x M X ∧ zBk 124 40 147 148 124 0 6 n1 n2 r M X ∧ X.1 124 40 = (if n1 = (-1) then 0 else (if n1 < 0 then (M.1 124 40) else (if ((M.1 124 0) - 1) < n1 then (M.1 124 40) else (if n2 < 0 then (M.1 124 40) else (if 9999 < n2 then (M.1 124 40) else (if (M.1 124 40) = 6 then (M.1 124 40) else ((M.1 124 40) + 1)))))))) := by
  have hT : pvdom 71 = pvD_71 := rfl
  refine pw_blk hT 2 (S' := (2, [some (pvR 124), some (pvI n1), some (pvI n2)], [pvI (-1), pvI n1], M)) rfl ⟨trivial, trivial, trivial⟩ ?_
  refine pw_icn hT (c := n1 = (-1)) rfl rfl (fun c1_ => ?_) (fun c1_ => ?_)
  · refine pw_blk hT 2 (S' := (14, [some (pvR 124), some (pvI n1), some (pvI n2)], [pvI n1, pvR 124], M)) rfl ⟨trivial, trivial, trivial⟩ ?_
    refine pw_callT hT (as := [pvR 124, pvI n1]) (lo1 := [some (pvR 124), some (pvI n1)]) (d1 := d) (rest := []) rfl rfl rfl rfl rfl (fun _ => rfl) (Nat.zero_le _) rfl rfl rfl (sf_X10_isWindow_124_x M hok n1 d) ?_
    by_cases c7_ : n1 < 0
    · refine pw_eqI (if_pos c7_) ?_
      have b8_ : (-2147483648) ≤ Int32.toInt n1 ∧ Int32.toInt n1 ≤ (-2) := (by have u0 := (zbnd n1); have u9 := (show _ ∧ _ from ⟨(zi_lt _ _).mp c7_, (show 0 ≤ Int32.toInt 0 ∧ Int32.toInt 0 ≤ 0 from (by decide))⟩); have v1 := (not_congr (zi_eq _ _)).mp c1_; have w1 : ((-1) : Int32).toInt = -1 := (by decide); omega)
      show PW 71 d (17, [some (pvR 124), some (pvI n1), some (pvI n2)], [pvI 0], M) _
      refine pw_ifn hT (c := 0 = 0) rfl rfl (fun c9_ => absurd (by decide) c9_) (fun c9_ => ?_)
      refine pw_blk hT 1 (S' := (21, [some (pvR 124), some (pvI n1), some (pvI n2)], [pvI (-1)], M)) rfl ⟨trivial, trivial⟩ ?_
      exact pw_ret hT rfl (r := some (pvI (-1))) (M' := M) ⟨rfl, rfl⟩ ⟨⟨_, rfl, (zr_wide (show (-1) ≤ Int32.toInt (-1) ∧ Int32.toInt (-1) ≤ (-1) from (by decide)) (by decide) (by decide)), (by rw [if_neg c1_, if_pos c7_]; first | done | (rw [if_pos c7_]; done))⟩, hok, pvfr_0, (zBk_n (by decide)), (by rw [if_neg c1_, if_pos c7_]; first | done | exact rfl | (rw [if_pos c7_]; done) | (rw [if_pos c7_]; exact rfl))⟩
    · refine pw_eqI (if_neg c7_) ?_
      have b10_ : 0 ≤ Int32.toInt n1 ∧ Int32.toInt n1 ≤ 2147483647 := zr_nlt_l 0 c7_ (zbnd n1) (show 0 ≤ Int32.toInt 0 ∧ Int32.toInt 0 ≤ 0 from (by decide)) (by decide)
      have b11_ : 0 ≤ Int32.toInt (M.1 124 0) ∧ Int32.toInt (M.1 124 0) ≤ 7 := pvok_r hok 124 0 rfl
      obtain ⟨q13_, b12_⟩ : (Int32.toInt ((M.1 124 0) - 1) = Int32.toInt (M.1 124 0) - 1) ∧ ((-1) ≤ Int32.toInt ((M.1 124 0) - 1) ∧ Int32.toInt ((M.1 124 0) - 1) ≤ 6) := zsub_k (M.1 124 0) 1 1 (-1) 6 b11_ (by decide) (by decide) (by decide) (by decide) (by decide)
      by_cases c14_ : ((M.1 124 0) - 1) < n1
      · refine pw_eqI (if_pos c14_) ?_
        have d15_ : Int32.toInt ((M.1 124 0) - 1) < Int32.toInt n1 := (zi_lt _ _).mp c14_
        show PW 71 d (17, [some (pvR 124), some (pvI n1), some (pvI n2)], [pvI 0], M) _
        refine pw_ifn hT (c := 0 = 0) rfl rfl (fun c16_ => absurd (by decide) c16_) (fun c16_ => ?_)
        refine pw_blk hT 1 (S' := (21, [some (pvR 124), some (pvI n1), some (pvI n2)], [pvI (-1)], M)) rfl ⟨trivial, trivial⟩ ?_
        exact pw_ret hT rfl (r := some (pvI (-1))) (M' := M) ⟨rfl, rfl⟩ ⟨⟨_, rfl, (zr_wide (show (-1) ≤ Int32.toInt (-1) ∧ Int32.toInt (-1) ≤ (-1) from (by decide)) (by decide) (by decide)), (by rw [if_neg c1_, if_neg c7_, if_pos c14_]; first | done | (rw [if_pos c14_]; done))⟩, hok, pvfr_0, (zBk_n (by decide)), (by rw [if_neg c1_, if_neg c7_, if_pos c14_]; first | done | exact rfl | (rw [if_pos c14_]; done) | (rw [if_pos c14_]; exact rfl))⟩
      · refine pw_eqI (if_neg c14_) ?_
        have b17_ : 0 ≤ Int32.toInt ((M.1 124 0) - 1) ∧ Int32.toInt ((M.1 124 0) - 1) ≤ 6 := zr_nlt_l 0 c14_ b12_ b10_ (by decide)
        have b18_ : 0 ≤ Int32.toInt n1 ∧ Int32.toInt n1 ≤ 6 := zr_nlt_r 6 c14_ b10_ b17_ (by decide)
        have d19_ : Int32.toInt ((M.1 124 0) - 1) ≥ Int32.toInt n1 := Int.not_lt.mp ((not_congr (zi_lt _ _)).mp c14_)
        show PW 71 d (17, [some (pvR 124), some (pvI n1), some (pvI n2)], [pvI 1], M) _
        refine pw_ifn hT (c := 1 = 0) rfl rfl (fun c20_ => ?_) (fun c20_ => absurd c20_ (by decide))
        refine pw_blk hT 4 (S' := (28, [some (pvR 124), some (pvI n1), some (pvI n2)], [pvI 9999, pvI 0, pvI n2, pvR 124], M)) rfl ⟨trivial, trivial, trivial, trivial, trivial⟩ ?_
        refine pw_callT hT (as := [pvR 124, pvI n2, pvI 0, pvI 9999]) (lo1 := [some (pvR 124), some (pvI n2), some (pvI 0), some (pvI 9999)]) (d1 := d) (rest := []) rfl rfl rfl rfl rfl (fun _ => rfl) (Nat.zero_le _) rfl rfl rfl (sf_X10_in_124_x_x_x M hok n2 0 9999 d) ?_
        by_cases c26_ : n2 < 0
        · refine pw_eqI (if_pos c26_) ?_
          have b27_ : (-2147483648) ≤ Int32.toInt n2 ∧ Int32.toInt n2 ≤ (-1) := zr_lt_l (-1) c26_ (zbnd n2) (show 0 ≤ Int32.toInt 0 ∧ Int32.toInt 0 ≤ 0 from (by decide)) (by decide)
          show PW 71 d (31, [some (pvR 124), some (pvI n1), some (pvI n2)], [pvI 0], M) _
          refine pw_ifn hT (c := 0 = 0) rfl rfl (fun c28_ => absurd (by decide) c28_) (fun c28_ => ?_)
          refine pw_blk hT 1 (S' := (36, [some (pvR 124), some (pvI n1), some (pvI n2)], [pvI (-2)], M)) rfl ⟨trivial, trivial⟩ ?_
          exact pw_ret hT rfl (r := some (pvI (-2))) (M' := M) ⟨rfl, rfl⟩ ⟨⟨_, rfl, (zr_wide (show (-2) ≤ Int32.toInt (-2) ∧ Int32.toInt (-2) ≤ (-2) from (by decide)) (by decide) (by decide)), (by rw [if_neg c1_, if_neg c7_, if_neg c14_, if_pos c26_]; first | done | (rw [if_pos c26_]; done))⟩, hok, pvfr_0, (zBk_n (by decide)), (by rw [if_neg c1_, if_neg c7_, if_neg c14_, if_pos c26_]; first | done | exact rfl | (rw [if_pos c26_]; done) | (rw [if_pos c26_]; exact rfl))⟩
        · refine pw_eqI (if_neg c26_) ?_
          have b29_ : 0 ≤ Int32.toInt n2 ∧ Int32.toInt n2 ≤ 2147483647 := zr_nlt_l 0 c26_ (zbnd n2) (show 0 ≤ Int32.toInt 0 ∧ Int32.toInt 0 ≤ 0 from (by decide)) (by decide)
          by_cases c30_ : 9999 < n2
          · refine pw_eqI (if_pos c30_) ?_
            have b31_ : 10000 ≤ Int32.toInt n2 ∧ Int32.toInt n2 ≤ 2147483647 := zr_lt_r 10000 c30_ b29_ (show 9999 ≤ Int32.toInt 9999 ∧ Int32.toInt 9999 ≤ 9999 from (by decide)) (by decide)
            show PW 71 d (31, [some (pvR 124), some (pvI n1), some (pvI n2)], [pvI 0], M) _
            refine pw_ifn hT (c := 0 = 0) rfl rfl (fun c32_ => absurd (by decide) c32_) (fun c32_ => ?_)
            refine pw_blk hT 1 (S' := (36, [some (pvR 124), some (pvI n1), some (pvI n2)], [pvI (-2)], M)) rfl ⟨trivial, trivial⟩ ?_
            exact pw_ret hT rfl (r := some (pvI (-2))) (M' := M) ⟨rfl, rfl⟩ ⟨⟨_, rfl, (zr_wide (show (-2) ≤ Int32.toInt (-2) ∧ Int32.toInt (-2) ≤ (-2) from (by decide)) (by decide) (by decide)), (by rw [if_neg c1_, if_neg c7_, if_neg c14_, if_neg c26_, if_pos c30_]; first | done | (rw [if_pos c30_]; done))⟩, hok, pvfr_0, (zBk_n (by decide)), (by rw [if_neg c1_, if_neg c7_, if_neg c14_, if_neg c26_, if_pos c30_]; first | done | exact rfl | (rw [if_pos c30_]; done) | (rw [if_pos c30_]; exact rfl))⟩
          · refine pw_eqI (if_neg c30_) ?_
            have b33_ : 0 ≤ Int32.toInt n2 ∧ Int32.toInt n2 ≤ 9999 := zr_nlt_r 9999 c30_ b29_ (show 9999 ≤ Int32.toInt 9999 ∧ Int32.toInt 9999 ≤ 9999 from (by decide)) (by decide)
            show PW 71 d (31, [some (pvR 124), some (pvI n1), some (pvI n2)], [pvI 1], M) _
            refine pw_ifn hT (c := 1 = 0) rfl rfl (fun c34_ => ?_) (fun c34_ => absurd c34_ (by decide))
            have b35_ : 0 ≤ Int32.toInt (M.1 124 40) ∧ Int32.toInt (M.1 124 40) ≤ 6 := pvok_r hok 124 40 rfl
            refine pw_blk hT 3 (S' := (43, [some (pvR 124), some (pvI n1), some (pvI n2)], [pvI 6, pvI (M.1 124 40)], M)) rfl ⟨trivial, rfl, trivial, trivial⟩ ?_
            refine pw_icn hT (c := (M.1 124 40) = 6) rfl rfl (fun c36_ => ?_) (fun c36_ => ?_)
            · have b37_ : 0 ≤ Int32.toInt (M.1 124 40) ∧ Int32.toInt (M.1 124 40) ≤ 5 := (by have u0 := b35_; have u1 := (not_congr (zi_eq _ _)).mp c36_; have u2 := (show 6 ≤ Int32.toInt 6 ∧ Int32.toInt 6 ≤ 6 from (by decide)); omega)
              refine pw_blkw hT 6 (pc := 59) (lo := [some (pvR 124), some (pvI n1), some (pvI n2)]) (st := []) (M := pvu M 147 (Int32.toNatClampNeg (M.1 124 40)) n1) rfl ⟨trivial, rfl, trivial, rfl, trivial, ⟨rfl, (zr_in (n := 6) b37_ (by decide) (by decide))⟩, trivial⟩ (fun M38_ e39_ => ?_)
              have o40_ : pvOk M38_ := pvok_u2 e39_ hok rfl b18_
              have f41_ : pvFr fp_eX10_see_124_x_x M M38_ := pvfr_u e39_ pvfr_0 rfl
              have e42_ : (M38_.1 124 40) = (M.1 124 40) := (pvu_n e39_ 124 40 (Or.inl (by decide)))
              have b43_ : 0 ≤ Int32.toInt (M38_.1 124 40) ∧ Int32.toInt (M38_.1 124 40) ≤ 5 := (by rw [e42_]; exact b37_)
              refine pw_blkw hT 6 (pc := 69) (lo := [some (pvR 124), some (pvI n1), some (pvI n2)]) (st := []) (M := pvu M38_ 148 (Int32.toNatClampNeg (M38_.1 124 40)) n2) rfl ⟨trivial, rfl, trivial, rfl, trivial, ⟨rfl, (zr_in (n := 6) b43_ (by decide) (by decide))⟩, trivial⟩ (fun M44_ e45_ => ?_)
              have o46_ : pvOk M44_ := pvok_u2 e45_ o40_ rfl b33_
              have f47_ : pvFr fp_eX10_see_124_x_x M M44_ := pvfr_u e45_ f41_ rfl
              have e48_ : (M44_.1 124 40) = (M38_.1 124 40) := (pvu_n e45_ 124 40 (Or.inl (by decide)))
              have b49_ : 0 ≤ Int32.toInt (M44_.1 124 40) ∧ Int32.toInt (M44_.1 124 40) ≤ 5 := (by rw [e48_]; exact b43_)
              obtain ⟨q51_, b50_⟩ : (Int32.toInt ((M44_.1 124 40) + 1) = Int32.toInt (M44_.1 124 40) + 1) ∧ (1 ≤ Int32.toInt ((M44_.1 124 40) + 1) ∧ Int32.toInt ((M44_.1 124 40) + 1) ≤ 6) := zadd_k (M44_.1 124 40) 1 1 1 6 b49_ (by decide) (by decide) (by decide) (by decide) (by decide)
              refine pw_blkw hT 6 (pc := 79) (lo := [some (pvR 124), some (pvI n1), some (pvI n2)]) (st := []) (M := pvu M44_ 124 40 ((M44_.1 124 40) + 1)) rfl ⟨trivial, trivial, rfl, trivial, trivial, rfl, trivial⟩ (fun M52_ e53_ => ?_)
              have o54_ : pvOk M52_ := pvok_u2 e53_ o46_ rfl (zr_wide b50_ (by decide) (by decide))
              have f55_ : pvFr fp_eX10_see_124_x_x M M52_ := pvfr_u e53_ f47_ rfl
              have e56_ : (M52_.1 124 40) = ((M44_.1 124 40) + 1) := (pvu_s e53_)
              have b57_ : 1 ≤ Int32.toInt (M52_.1 124 40) ∧ Int32.toInt (M52_.1 124 40) ≤ 6 := (by rw [e56_]; exact b50_)
              refine pw_blk hT 2 (S' := (83, [some (pvR 124), some (pvI n1), some (pvI n2)], [pvI (M52_.1 124 40)], M52_)) rfl ⟨trivial, rfl, trivial⟩ ?_
              exact pw_ret hT rfl (r := some (pvI (M52_.1 124 40))) (M' := M52_) ⟨rfl, rfl⟩ ⟨⟨_, rfl, (zr_wide b57_ (by decide) (by decide)), (by rw [if_neg c1_, if_neg c7_, if_neg c14_, if_neg c26_, if_neg c30_, if_neg c36_]; first | done | exact (show (M52_.1 124 40) = ((M.1 124 40) + 1) from by rw [((pvu_s e53_).trans (show ((M44_.1 124 40) + 1) = ((M.1 124 40) + 1) from by rw [((pvu_n e45_ 124 40 (Or.inl (by decide))).trans (pvu_n e39_ 124 40 (Or.inl (by decide))))]))]) | (rw [if_neg c36_]; exact (show (M52_.1 124 40) = ((M.1 124 40) + 1) from by rw [((pvu_s e53_).trans (show ((M44_.1 124 40) + 1) = ((M.1 124 40) + 1) from by rw [((pvu_n e45_ 124 40 (Or.inl (by decide))).trans (pvu_n e39_ 124 40 (Or.inl (by decide))))]))])))⟩, o54_, f55_, (zBk_0 (by decide) (by decide) (by decide) (by decide) (by have u := b37_; omega) (zvl_y0 (pvok_r hok 124 0 (lo := 0) (hi := 7) rfl).1 c7_ c14_) e39_ e45_ e53_ (show ((M44_.1 124 40) + 1) = ((M.1 124 40) + 1) from by rw [((pvu_n e45_ 124 40 (Or.inl (by decide))).trans (pvu_n e39_ 124 40 (Or.inl (by decide))))]) (show (M52_.1 124 40) = ((M.1 124 40) + 1) from by rw [((pvu_s e53_).trans (show ((M44_.1 124 40) + 1) = ((M.1 124 40) + 1) from by rw [((pvu_n e45_ 124 40 (Or.inl (by decide))).trans (pvu_n e39_ 124 40 (Or.inl (by decide))))]))])), (by rw [if_neg c1_, if_neg c7_, if_neg c14_, if_neg c26_, if_neg c30_, if_neg c36_]; first | done | exact ((pvu_s e53_).trans (show ((M44_.1 124 40) + 1) = ((M.1 124 40) + 1) from by rw [((pvu_n e45_ 124 40 (Or.inl (by decide))).trans (pvu_n e39_ 124 40 (Or.inl (by decide))))])) | (rw [if_neg c36_]; done) | (rw [if_neg c36_]; exact ((pvu_s e53_).trans (show ((M44_.1 124 40) + 1) = ((M.1 124 40) + 1) from by rw [((pvu_n e45_ 124 40 (Or.inl (by decide))).trans (pvu_n e39_ 124 40 (Or.inl (by decide))))]))))⟩
            · have b58_ : 6 ≤ Int32.toInt (M.1 124 40) ∧ Int32.toInt (M.1 124 40) ≤ 6 := (by have u0 := b35_; have u1 := (zi_eq _ _).mp c36_; have u2 := (show 6 ≤ Int32.toInt 6 ∧ Int32.toInt 6 ≤ 6 from (by decide)); omega)
              refine pw_blk hT 1 (S' := (48, [some (pvR 124), some (pvI n1), some (pvI n2)], [pvI (-4)], M)) rfl ⟨trivial, trivial⟩ ?_
              exact pw_ret hT rfl (r := some (pvI (-4))) (M' := M) ⟨rfl, rfl⟩ ⟨⟨_, rfl, (zr_wide (show (-4) ≤ Int32.toInt (-4) ∧ Int32.toInt (-4) ≤ (-4) from (by decide)) (by decide) (by decide)), (by rw [if_neg c1_, if_neg c7_, if_neg c14_, if_neg c26_, if_neg c30_, if_pos c36_]; first | done | (rw [if_pos c36_]; done))⟩, hok, pvfr_0, (zBk_n (by decide)), (by rw [if_neg c1_, if_neg c7_, if_neg c14_, if_neg c26_, if_neg c30_, if_pos c36_]; first | done | exact rfl | (rw [if_pos c36_]; done) | (rw [if_pos c36_]; exact rfl))⟩
  · have b59_ : (-1) ≤ Int32.toInt n1 ∧ Int32.toInt n1 ≤ (-1) := (by have u0 := (zbnd n1); have u1 := (zi_eq _ _).mp c1_; have u2 := (show (-1) ≤ Int32.toInt (-1) ∧ Int32.toInt (-1) ≤ (-1) from (by decide)); omega)
    refine pw_blkw hT 3 (pc := 10) (lo := [some (pvR 124), some (pvI n1), some (pvI n2)]) (st := []) (M := pvu M 124 40 0) rfl ⟨trivial, trivial, rfl, trivial⟩ (fun M60_ e61_ => ?_)
    have o62_ : pvOk M60_ := pvok_u2 e61_ hok rfl (zr_wide (show 0 ≤ Int32.toInt 0 ∧ Int32.toInt 0 ≤ 0 from (by decide)) (by decide) (by decide))
    have f63_ : pvFr fp_eX10_see_124_x_x M M60_ := pvfr_u e61_ pvfr_0 rfl
    refine pw_blk hT 1 (S' := (11, [some (pvR 124), some (pvI n1), some (pvI n2)], [pvI 0], M60_)) rfl ⟨trivial, trivial⟩ ?_
    exact pw_ret hT rfl (r := some (pvI 0)) (M' := M60_) ⟨rfl, rfl⟩ ⟨⟨_, rfl, (zr_wide (show 0 ≤ Int32.toInt 0 ∧ Int32.toInt 0 ≤ 0 from (by decide)) (by decide) (by decide)), (by rw [if_pos c1_]; first | done | (rw [if_pos c1_]; done))⟩, o62_, f63_, (zBk_c rfl (pvu_s e61_)), (by rw [if_pos c1_]; first | done | exact (pvu_s e61_) | (rw [if_pos c1_]; done) | (rw [if_pos c1_]; exact (pvu_s e61_)))⟩
def fpL_eX10_shut_124_x : List (Nat × Nat × Nat) := [(0, 124, 2), (0, 124, 3), (0, 124, 33), (0, 124, 6), (0, 124, 7), (0, 131, 0), (0, 141, 0), (0, 142, 0), (0, 143, 0)]
def fp_eX10_shut_124_x (q k : Nat) : Bool := pvfp fpL_eX10_shut_124_x q k
theorem fp_eX10_shut_124_x_fp_eX10_goMinutes_124_x (a b : Nat) (h : fp_eX10_goMinutes_124_x a b = true) : fp_eX10_shut_124_x a b = true := pvfp_sub (l1 := fpL_eX10_goMinutes_124_x) (l2 := fpL_eX10_shut_124_x) (by decide) a b h
set_option maxHeartbeats 4000000 in
set_option maxRecDepth 10000 in
theorem se_X10_shut_124_x (M : pvM) (hok : pvOk M) (n1 : Int32) (hz : pvWF M) (d : Nat) : PW 74 d (0, [some (pvR 124), some (pvI n1), none, none], [], M) (fun r X => (∃ x : Int32, r = some (pvI x) ∧ (-3) ≤ Int32.toInt x ∧ Int32.toInt x ≤ 319) ∧ pvOk X ∧ pvFr fp_eX10_shut_124_x M X ∧ zST0 n1 r M X ∧ yUw0 r M X) := by
  have hT : pvdom 74 = pvD_74 := rfl
  refine pw_blk hT 2 (S' := (2, [some (pvR 124), some (pvI n1), none, none], [pvI n1, pvR 124], M)) rfl ⟨trivial, trivial, trivial⟩ ?_
  refine pw_callT hT (as := [pvR 124, pvI n1]) (lo1 := [some (pvR 124), some (pvI n1)]) (d1 := d) (rest := []) rfl rfl rfl rfl rfl (fun _ => rfl) (Nat.zero_le _) rfl rfl rfl (sf_X10_isWindow_124_x M hok n1 d) ?_
  by_cases c6_ : n1 < 0
  · refine pw_eqI (if_pos c6_) ?_
    have b7_ : (-2147483648) ≤ Int32.toInt n1 ∧ Int32.toInt n1 ≤ (-1) := zr_lt_l (-1) c6_ (zbnd n1) (show 0 ≤ Int32.toInt 0 ∧ Int32.toInt 0 ≤ 0 from (by decide)) (by decide)
    show PW 74 d (5, [some (pvR 124), some (pvI n1), none, none], [pvI 0], M) _
    refine pw_ifn hT (c := 0 = 0) rfl rfl (fun c8_ => absurd (by decide) c8_) (fun c8_ => ?_)
    refine pw_blk hT 1 (S' := (9, [some (pvR 124), some (pvI n1), none, none], [pvI (-1)], M)) rfl ⟨trivial, trivial⟩ ?_
    exact pw_ret hT rfl (r := some (pvI (-1))) (M' := M) ⟨rfl, rfl⟩ ⟨⟨_, rfl, (zr_wide (show (-1) ≤ Int32.toInt (-1) ∧ Int32.toInt (-1) ≤ (-1) from (by decide)) (by decide) (by decide))⟩, hok, pvfr_0, ⟨zwT_n (by decide), zsA_0 (zvl_l c6_)⟩, ⟨rfl, _, rfl, Or.inl ⟨by decide, rfl⟩⟩⟩
  · refine pw_eqI (if_neg c6_) ?_
    have b9_ : 0 ≤ Int32.toInt n1 ∧ Int32.toInt n1 ≤ 2147483647 := zr_nlt_l 0 c6_ (zbnd n1) (show 0 ≤ Int32.toInt 0 ∧ Int32.toInt 0 ≤ 0 from (by decide)) (by decide)
    have b10_ : 0 ≤ Int32.toInt (M.1 124 0) ∧ Int32.toInt (M.1 124 0) ≤ 7 := pvok_r hok 124 0 rfl
    obtain ⟨q12_, b11_⟩ : (Int32.toInt ((M.1 124 0) - 1) = Int32.toInt (M.1 124 0) - 1) ∧ ((-1) ≤ Int32.toInt ((M.1 124 0) - 1) ∧ Int32.toInt ((M.1 124 0) - 1) ≤ 6) := zsub_k (M.1 124 0) 1 1 (-1) 6 b10_ (by decide) (by decide) (by decide) (by decide) (by decide)
    by_cases c13_ : ((M.1 124 0) - 1) < n1
    · refine pw_eqI (if_pos c13_) ?_
      have d14_ : Int32.toInt ((M.1 124 0) - 1) < Int32.toInt n1 := (zi_lt _ _).mp c13_
      show PW 74 d (5, [some (pvR 124), some (pvI n1), none, none], [pvI 0], M) _
      refine pw_ifn hT (c := 0 = 0) rfl rfl (fun c15_ => absurd (by decide) c15_) (fun c15_ => ?_)
      refine pw_blk hT 1 (S' := (9, [some (pvR 124), some (pvI n1), none, none], [pvI (-1)], M)) rfl ⟨trivial, trivial⟩ ?_
      exact pw_ret hT rfl (r := some (pvI (-1))) (M' := M) ⟨rfl, rfl⟩ ⟨⟨_, rfl, (zr_wide (show (-1) ≤ Int32.toInt (-1) ∧ Int32.toInt (-1) ≤ (-1) from (by decide)) (by decide) (by decide))⟩, hok, pvfr_0, ⟨zwT_n (by decide), zsA_0 (zvl_u0 (pvok_r hok 124 0 (lo := 0) (hi := 7) rfl).1 c13_)⟩, ⟨rfl, _, rfl, Or.inl ⟨by decide, rfl⟩⟩⟩
    · refine pw_eqI (if_neg c13_) ?_
      have b16_ : 0 ≤ Int32.toInt ((M.1 124 0) - 1) ∧ Int32.toInt ((M.1 124 0) - 1) ≤ 6 := zr_nlt_l 0 c13_ b11_ b9_ (by decide)
      have b17_ : 0 ≤ Int32.toInt n1 ∧ Int32.toInt n1 ≤ 6 := zr_nlt_r 6 c13_ b9_ b16_ (by decide)
      have d18_ : Int32.toInt ((M.1 124 0) - 1) ≥ Int32.toInt n1 := Int.not_lt.mp ((not_congr (zi_lt _ _)).mp c13_)
      show PW 74 d (5, [some (pvR 124), some (pvI n1), none, none], [pvI 1], M) _
      refine pw_ifn hT (c := 1 = 0) rfl rfl (fun c19_ => ?_) (fun c19_ => absurd c19_ (by decide))
      have b20_ : 0 ≤ Int32.toInt (M.1 124 5) ∧ Int32.toInt (M.1 124 5) ≤ 3 := pvok_r hok 124 5 rfl
      have b21_ : 0 ≤ Int32.toInt (M.1 124 6) ∧ Int32.toInt (M.1 124 6) ≤ 4 := pvok_r hok 124 6 rfl
      refine pw_blk hT 6 (S' := (20, [some (pvR 124), some (pvI n1), none, none], [pvI n1, pvI (M.1 124 6), pvI (M.1 124 5), pvR 124], M)) rfl ⟨trivial, trivial, rfl, trivial, rfl, trivial, trivial⟩ ?_
      refine pw_callGp hT (as := [pvR 124, pvI (M.1 124 5), pvI (M.1 124 6), pvI n1]) (lo1 := [some (pvR 124), some (pvI (M.1 124 5)), some (pvI (M.1 124 6)), some (pvI n1)]) (d1 := d) (rest := []) rfl rfl rfl rfl rfl (fun _ => rfl) (Nat.zero_le _) rfl rfl rfl (se_X10_way_124_x_x_x M hok (M.1 124 5) (M.1 124 6) n1 b20_ b21_ b17_ d) (fun x22_ b24_ => ?_)
      obtain ⟨b27_, d28_⟩ := b24_
      refine pw_blk hT 2 (S' := (25, [some (pvR 124), some (pvI n1), none, none], [pvI n1, pvR 124, pvI x22_], M)) rfl ⟨trivial, trivial, trivial⟩ ?_
      refine pw_callT hT (as := [pvR 124, pvI n1]) (lo1 := [some (pvR 124), some (pvI n1)]) (d1 := d) (rest := [pvI x22_]) rfl rfl rfl rfl rfl (fun _ => rfl) (Nat.zero_le _) rfl rfl rfl (sf_X10_shutting_124_x M hok n1 b17_ d) ?_
      have b34_ : 0 ≤ Int32.toInt (M.1 125 (Int32.toNatClampNeg n1)) ∧ Int32.toInt (M.1 125 (Int32.toNatClampNeg n1)) ≤ 6 := pvok_r hok 125 (Int32.toNatClampNeg n1) rfl
      by_cases c35_ : (M.1 125 (Int32.toNatClampNeg n1)) = 1
      · refine pw_eqI (if_pos c35_) ?_
        have b36_ : 1 ≤ Int32.toInt (M.1 125 (Int32.toNatClampNeg n1)) ∧ Int32.toInt (M.1 125 (Int32.toNatClampNeg n1)) ≤ 1 := (by have u0 := b34_; have u1 := (zi_eq _ _).mp c35_; have u2 := (show 1 ≤ Int32.toInt 1 ∧ Int32.toInt 1 ≤ 1 from (by decide)); omega)
        have b37_ : 0 ≤ Int32.toInt (M.1 129 (Int32.toNatClampNeg n1)) ∧ Int32.toInt (M.1 129 (Int32.toNatClampNeg n1)) ≤ 9 := pvok_r hok 129 (Int32.toNatClampNeg n1) rfl
        have q38_ : Int32.toInt (2 * (M.1 129 (Int32.toNatClampNeg n1))) = 2 * Int32.toInt (M.1 129 (Int32.toNatClampNeg n1)) := by have u0 : Int32.toInt 2 = 2 := (by decide); have u1 := b37_; have u2 := zmul 2 (M.1 129 (Int32.toNatClampNeg n1)) (by rw [u0]; omega) (by rw [u0]; omega); rw [u0] at u2; omega
        have b39_ : 0 ≤ Int32.toInt (2 * (M.1 129 (Int32.toNatClampNeg n1))) ∧ Int32.toInt (2 * (M.1 129 (Int32.toNatClampNeg n1))) ≤ 18 := (by have u1 := b37_; omega)
        show PW 74 d (28, [some (pvR 124), some (pvI n1), none, none], [pvI (2 * (M.1 129 (Int32.toNatClampNeg n1))), pvI x22_], M) _
        obtain ⟨q41_, b40_⟩ : (Int32.toInt (x22_ + (2 * (M.1 129 (Int32.toNatClampNeg n1)))) = Int32.toInt x22_ + Int32.toInt (2 * (M.1 129 (Int32.toNatClampNeg n1)))) ∧ (0 ≤ Int32.toInt (x22_ + (2 * (M.1 129 (Int32.toNatClampNeg n1)))) ∧ Int32.toInt (x22_ + (2 * (M.1 129 (Int32.toNatClampNeg n1)))) ≤ 319) := zadd_r x22_ (2 * (M.1 129 (Int32.toNatClampNeg n1))) 0 319 b27_ b39_ (by decide) (by decide) (by decide) (by decide)
        have b42_ : 0 ≤ Int32.toInt (M.1 131 (Int32.toNatClampNeg n1)) ∧ Int32.toInt (M.1 131 (Int32.toNatClampNeg n1)) ≤ 1 := pvok_r hok 131 (Int32.toNatClampNeg n1) rfl
        refine pw_blk hT 6 (S' := (36, [some (pvR 124), some (pvI n1), some (pvI (x22_ + (2 * (M.1 129 (Int32.toNatClampNeg n1))))), none], [pvI (M.1 131 (Int32.toNatClampNeg n1))], M)) rfl ⟨trivial, trivial, trivial, rfl, trivial, ⟨rfl, (zr_in (n := 7) b17_ (by decide) (by decide))⟩, trivial⟩ ?_
        refine pw_ifn hT (c := (M.1 131 (Int32.toNatClampNeg n1)) = 0) rfl rfl (fun c43_ => ?_) (fun c43_ => ?_)
        · have b44_ : 1 ≤ Int32.toInt (M.1 131 (Int32.toNatClampNeg n1)) ∧ Int32.toInt (M.1 131 (Int32.toNatClampNeg n1)) ≤ 1 := (by have u0 := b42_; have u1 := (not_congr (zi_eq _ _)).mp c43_; have u2 := (show 0 ≤ Int32.toInt 0 ∧ Int32.toInt 0 ≤ 0 from (by decide)); omega)
          refine pw_blk hT 1 (S' := (53, [some (pvR 124), some (pvI n1), some (pvI (x22_ + (2 * (M.1 129 (Int32.toNatClampNeg n1))))), none], [pvI (-3)], M)) rfl ⟨trivial, trivial⟩ ?_
          exact pw_ret hT rfl (r := some (pvI (-3))) (M' := M) ⟨rfl, rfl⟩ ⟨⟨_, rfl, (zr_wide (show (-3) ≤ Int32.toInt (-3) ∧ Int32.toInt (-3) ≤ (-3) from (by decide)) (by decide) (by decide))⟩, hok, pvfr_0, ⟨zwT_n (by decide), zsA_1 (zvl_y0 (pvok_r hok 124 0 (lo := 0) (hi := 7) rfl).1 c6_ c13_) (Or.inl c43_)⟩, ⟨rfl, _, rfl, Or.inl ⟨by decide, rfl⟩⟩⟩
        · have b45_ : 0 ≤ Int32.toInt (M.1 131 (Int32.toNatClampNeg n1)) ∧ Int32.toInt (M.1 131 (Int32.toNatClampNeg n1)) ≤ 0 := (by have u0 := b42_; have u1 := (zi_eq _ _).mp c43_; have u2 := (show 0 ≤ Int32.toInt 0 ∧ Int32.toInt 0 ≤ 0 from (by decide)); omega)
          have b46_ : 0 ≤ Int32.toInt (M.1 124 1) ∧ Int32.toInt (M.1 124 1) ≤ 9999 := pvok_r hok 124 1 rfl
          obtain ⟨q48_, b47_⟩ : (Int32.toInt ((M.1 124 1) + (x22_ + (2 * (M.1 129 (Int32.toNatClampNeg n1))))) = Int32.toInt (M.1 124 1) + Int32.toInt (x22_ + (2 * (M.1 129 (Int32.toNatClampNeg n1))))) ∧ (0 ≤ Int32.toInt ((M.1 124 1) + (x22_ + (2 * (M.1 129 (Int32.toNatClampNeg n1))))) ∧ Int32.toInt ((M.1 124 1) + (x22_ + (2 * (M.1 129 (Int32.toNatClampNeg n1))))) ≤ 10318) := zadd_r (M.1 124 1) (x22_ + (2 * (M.1 129 (Int32.toNatClampNeg n1)))) 0 10318 b46_ b40_ (by decide) (by decide) (by decide) (by decide)
          refine pw_blk hT 5 (S' := (48, [some (pvR 124), some (pvI n1), some (pvI (x22_ + (2 * (M.1 129 (Int32.toNatClampNeg n1))))), none], [pvI 9999, pvI ((M.1 124 1) + (x22_ + (2 * (M.1 129 (Int32.toNatClampNeg n1)))))], M)) rfl ⟨trivial, rfl, trivial, trivial, trivial, trivial⟩ ?_
          refine pw_ic hT (c := ((M.1 124 1) + (x22_ + (2 * (M.1 129 (Int32.toNatClampNeg n1))))) ≤ 9999) rfl rfl (fun c49_ => ?_) (fun c49_ => ?_)
          · have b50_ : 0 ≤ Int32.toInt ((M.1 124 1) + (x22_ + (2 * (M.1 129 (Int32.toNatClampNeg n1))))) ∧ Int32.toInt ((M.1 124 1) + (x22_ + (2 * (M.1 129 (Int32.toNatClampNeg n1))))) ≤ 9999 := zr_le_l 9999 c49_ b47_ (show 9999 ≤ Int32.toInt 9999 ∧ Int32.toInt 9999 ≤ 9999 from (by decide)) (by decide)
            refine pw_blk hT 2 (S' := (56, [some (pvR 124), some (pvI n1), some (pvI (x22_ + (2 * (M.1 129 (Int32.toNatClampNeg n1))))), none], [pvI (x22_ + (2 * (M.1 129 (Int32.toNatClampNeg n1)))), pvR 124], M)) rfl ⟨trivial, trivial, trivial⟩ ?_
            refine pw_callGd hT (as := [pvR 124, pvI (x22_ + (2 * (M.1 129 (Int32.toNatClampNeg n1))))]) (lo1 := [some (pvR 124), some (pvI (x22_ + (2 * (M.1 129 (Int32.toNatClampNeg n1))))), none]) (d1 := d) (rest := []) rfl rfl rfl rfl rfl (fun _ => rfl) (Nat.zero_le _) rfl rfl rfl (se_X10_goMinutes_124_x M hok (x22_ + (2 * (M.1 129 (Int32.toNatClampNeg n1)))) (zr_wide b40_ (by decide) (by decide)) hz (show Int32.toInt (M.1 124 1) + Int32.toInt (x22_ + (2 * (M.1 129 (Int32.toNatClampNeg n1)))) ≤ 9999 from (by omega)) d) (fun x52_ M53_ b54_ o55_ g56_ d51_ => ?_)
            have f57_ : pvFr fp_eX10_shut_124_x M M53_ := pvfr_t g56_ pvfr_0 fp_eX10_shut_124_x_fp_eX10_goMinutes_124_x
            refine pw_blkw hT 6 (pc := 67) (lo := [some (pvR 124), some (pvI n1), some (pvI (x22_ + (2 * (M.1 129 (Int32.toNatClampNeg n1))))), some (pvI x52_)]) (st := []) (M := pvu M53_ 131 (Int32.toNatClampNeg n1) (vp_nar .boolean 1)) rfl ⟨trivial, trivial, rfl, trivial, trivial, ⟨rfl, (zr_in (n := 7) b17_ (by decide) (by decide))⟩, trivial⟩ (fun M58_ e59_ => ?_)
            have o60_ : pvOk M58_ := pvok_u2 e59_ o55_ rfl (zboolr 1)
            have f61_ : pvFr fp_eX10_shut_124_x M M58_ := pvfr_u e59_ f57_ rfl
            have b62_ : 0 ≤ Int32.toInt (M58_.1 127 (Int32.toNatClampNeg n1)) ∧ Int32.toInt (M58_.1 127 (Int32.toNatClampNeg n1)) ≤ 3 := pvok_r o60_ 127 (Int32.toNatClampNeg n1) rfl
            refine pw_blkw hT 6 (pc := 77) (lo := [some (pvR 124), some (pvI n1), some (pvI (x22_ + (2 * (M.1 129 (Int32.toNatClampNeg n1))))), some (pvI x52_)]) (st := []) (M := pvu M58_ 124 5 (M58_.1 127 (Int32.toNatClampNeg n1))) rfl ⟨trivial, trivial, rfl, trivial, ⟨rfl, (zr_in (n := 7) b17_ (by decide) (by decide))⟩, rfl, trivial⟩ (fun M63_ e64_ => ?_)
            have o65_ : pvOk M63_ := pvok_u2 e64_ o60_ rfl b62_
            have f66_ : pvFr fp_eX10_shut_124_x M M63_ := pvfr_u e64_ f61_ rfl
            have b67_ : 0 ≤ Int32.toInt (M63_.1 128 (Int32.toNatClampNeg n1)) ∧ Int32.toInt (M63_.1 128 (Int32.toNatClampNeg n1)) ≤ 4 := pvok_r o65_ 128 (Int32.toNatClampNeg n1) rfl
            refine pw_blkw hT 6 (pc := 87) (lo := [some (pvR 124), some (pvI n1), some (pvI (x22_ + (2 * (M.1 129 (Int32.toNatClampNeg n1))))), some (pvI x52_)]) (st := []) (M := pvu M63_ 124 6 (M63_.1 128 (Int32.toNatClampNeg n1))) rfl ⟨trivial, trivial, rfl, trivial, ⟨rfl, (zr_in (n := 7) b17_ (by decide) (by decide))⟩, rfl, trivial⟩ (fun M68_ e69_ => ?_)
            have o70_ : pvOk M68_ := pvok_u2 e69_ o65_ rfl b67_
            have f71_ : pvFr fp_eX10_shut_124_x M M68_ := pvfr_u e69_ f66_ rfl
            refine pw_blk hT 1 (S' := (88, [some (pvR 124), some (pvI n1), some (pvI (x22_ + (2 * (M.1 129 (Int32.toNatClampNeg n1))))), some (pvI x52_)], [pvI (x22_ + (2 * (M.1 129 (Int32.toNatClampNeg n1))))], M68_)) rfl ⟨trivial, trivial⟩ ?_
            exact pw_ret hT rfl (r := some (pvI (x22_ + (2 * (M.1 129 (Int32.toNatClampNeg n1)))))) (M' := M68_) ⟨rfl, rfl⟩ ⟨⟨_, rfl, (zr_wide b40_ (by decide) (by decide))⟩, o70_, f71_, ⟨zwT_i (by have u := b40_; omega) b17_ ((((pvu_n e69_ 124 1 (Or.inr (by decide))).trans (pvu_n e64_ 124 1 (Or.inr (by decide)))).trans (pvu_n e59_ 124 1 (Or.inl (by decide)))).trans (d51_.2)) ((pvu_n e69_ 124 5 (Or.inr (by decide))).trans ((pvu_s e64_).trans ((pvu_n e59_ 127 (Int32.toNatClampNeg n1) (Or.inl (by decide))).trans (congrFun (pvfr_row (L := fpL_eX10_goMinutes_124_x) g56_ rfl) (Int32.toNatClampNeg n1))))) ((pvu_s e69_).trans ((pvu_n e64_ 128 (Int32.toNatClampNeg n1) (Or.inl (by decide))).trans ((pvu_n e59_ 128 (Int32.toNatClampNeg n1) (Or.inl (by decide))).trans (congrFun (pvfr_row (L := fpL_eX10_goMinutes_124_x) g56_ rfl) (Int32.toNatClampNeg n1))))) (zVu1 e59_ (by decide) (fun i => (pvu_n e69_ 131 i (Or.inl (by decide))).trans (pvu_n e64_ 131 i (Or.inl (by decide)))) (fun i => congrFun (pvfr_row (L := fpL_eX10_goMinutes_124_x) g56_ rfl) i)), zsA_2 (zvl_y0 (pvok_r hok 124 0 (lo := 0) (hi := 7) rfl).1 c6_ c13_) c43_ (by have b := b50_; have c := (show Int32.toInt (x22_ + (2 * (M.1 129 (Int32.toNatClampNeg n1)))) = zcS0 n1 M from by unfold zcS0 zTm; rw [if_pos (Or.inl c35_)]; omega); omega) (show Int32.toInt (x22_ + (2 * (M.1 129 (Int32.toNatClampNeg n1)))) = zcS0 n1 M from by unfold zcS0 zTm; rw [if_pos (Or.inl c35_)]; omega)⟩, ⟨(((pvu_n e69_ 124 50 (Or.inr (by decide))).trans ((pvu_n e64_ 124 50 (Or.inr (by decide))).trans (pvu_n e59_ 124 50 (Or.inl (by decide))))).trans (g56_ 124 50 rfl)), _, rfl, Or.inr ⟨(by have u := b40_; omega), yPx0_c d51_.1 ((pvu_n e69_ 124 2 (Or.inr (by decide))).trans ((pvu_n e64_ 124 2 (Or.inr (by decide))).trans (pvu_n e59_ 124 2 (Or.inl (by decide)))))⟩⟩⟩
          · have b72_ : 10000 ≤ Int32.toInt ((M.1 124 1) + (x22_ + (2 * (M.1 129 (Int32.toNatClampNeg n1))))) ∧ Int32.toInt ((M.1 124 1) + (x22_ + (2 * (M.1 129 (Int32.toNatClampNeg n1))))) ≤ 10318 := zr_nle_l 10000 c49_ b47_ (show 9999 ≤ Int32.toInt 9999 ∧ Int32.toInt 9999 ≤ 9999 from (by decide)) (by decide)
            refine pw_blk hT 1 (S' := (53, [some (pvR 124), some (pvI n1), some (pvI (x22_ + (2 * (M.1 129 (Int32.toNatClampNeg n1))))), none], [pvI (-3)], M)) rfl ⟨trivial, trivial⟩ ?_
            exact pw_ret hT rfl (r := some (pvI (-3))) (M' := M) ⟨rfl, rfl⟩ ⟨⟨_, rfl, (zr_wide (show (-3) ≤ Int32.toInt (-3) ∧ Int32.toInt (-3) ≤ (-3) from (by decide)) (by decide) (by decide))⟩, hok, pvfr_0, ⟨zwT_n (by decide), zsA_1 (zvl_y0 (pvok_r hok 124 0 (lo := 0) (hi := 7) rfl).1 c6_ c13_) (Or.inr (by have b := b72_; have c := (show Int32.toInt (x22_ + (2 * (M.1 129 (Int32.toNatClampNeg n1)))) = zcS0 n1 M from by unfold zcS0 zTm; rw [if_pos (Or.inl c35_)]; omega); omega))⟩, ⟨rfl, _, rfl, Or.inl ⟨by decide, rfl⟩⟩⟩
      · refine pw_eqI (if_neg c35_) ?_
        by_cases c73_ : (M.1 125 (Int32.toNatClampNeg n1)) = 4
        · refine pw_eqI (if_pos c73_) ?_
          have b74_ : 4 ≤ Int32.toInt (M.1 125 (Int32.toNatClampNeg n1)) ∧ Int32.toInt (M.1 125 (Int32.toNatClampNeg n1)) ≤ 4 := (by have u0 := b34_; have u1 := (zi_eq _ _).mp c73_; have u2 := (show 4 ≤ Int32.toInt 4 ∧ Int32.toInt 4 ≤ 4 from (by decide)); omega)
          have b75_ : 0 ≤ Int32.toInt (M.1 129 (Int32.toNatClampNeg n1)) ∧ Int32.toInt (M.1 129 (Int32.toNatClampNeg n1)) ≤ 9 := pvok_r hok 129 (Int32.toNatClampNeg n1) rfl
          have q76_ : Int32.toInt (2 * (M.1 129 (Int32.toNatClampNeg n1))) = 2 * Int32.toInt (M.1 129 (Int32.toNatClampNeg n1)) := by have u0 : Int32.toInt 2 = 2 := (by decide); have u1 := b75_; have u2 := zmul 2 (M.1 129 (Int32.toNatClampNeg n1)) (by rw [u0]; omega) (by rw [u0]; omega); rw [u0] at u2; omega
          have b77_ : 0 ≤ Int32.toInt (2 * (M.1 129 (Int32.toNatClampNeg n1))) ∧ Int32.toInt (2 * (M.1 129 (Int32.toNatClampNeg n1))) ≤ 18 := (by have u1 := b75_; omega)
          show PW 74 d (28, [some (pvR 124), some (pvI n1), none, none], [pvI (2 * (M.1 129 (Int32.toNatClampNeg n1))), pvI x22_], M) _
          obtain ⟨q79_, b78_⟩ : (Int32.toInt (x22_ + (2 * (M.1 129 (Int32.toNatClampNeg n1)))) = Int32.toInt x22_ + Int32.toInt (2 * (M.1 129 (Int32.toNatClampNeg n1)))) ∧ (0 ≤ Int32.toInt (x22_ + (2 * (M.1 129 (Int32.toNatClampNeg n1)))) ∧ Int32.toInt (x22_ + (2 * (M.1 129 (Int32.toNatClampNeg n1)))) ≤ 319) := zadd_r x22_ (2 * (M.1 129 (Int32.toNatClampNeg n1))) 0 319 b27_ b77_ (by decide) (by decide) (by decide) (by decide)
          have b80_ : 0 ≤ Int32.toInt (M.1 131 (Int32.toNatClampNeg n1)) ∧ Int32.toInt (M.1 131 (Int32.toNatClampNeg n1)) ≤ 1 := pvok_r hok 131 (Int32.toNatClampNeg n1) rfl
          refine pw_blk hT 6 (S' := (36, [some (pvR 124), some (pvI n1), some (pvI (x22_ + (2 * (M.1 129 (Int32.toNatClampNeg n1))))), none], [pvI (M.1 131 (Int32.toNatClampNeg n1))], M)) rfl ⟨trivial, trivial, trivial, rfl, trivial, ⟨rfl, (zr_in (n := 7) b17_ (by decide) (by decide))⟩, trivial⟩ ?_
          refine pw_ifn hT (c := (M.1 131 (Int32.toNatClampNeg n1)) = 0) rfl rfl (fun c81_ => ?_) (fun c81_ => ?_)
          · have b82_ : 1 ≤ Int32.toInt (M.1 131 (Int32.toNatClampNeg n1)) ∧ Int32.toInt (M.1 131 (Int32.toNatClampNeg n1)) ≤ 1 := (by have u0 := b80_; have u1 := (not_congr (zi_eq _ _)).mp c81_; have u2 := (show 0 ≤ Int32.toInt 0 ∧ Int32.toInt 0 ≤ 0 from (by decide)); omega)
            refine pw_blk hT 1 (S' := (53, [some (pvR 124), some (pvI n1), some (pvI (x22_ + (2 * (M.1 129 (Int32.toNatClampNeg n1))))), none], [pvI (-3)], M)) rfl ⟨trivial, trivial⟩ ?_
            exact pw_ret hT rfl (r := some (pvI (-3))) (M' := M) ⟨rfl, rfl⟩ ⟨⟨_, rfl, (zr_wide (show (-3) ≤ Int32.toInt (-3) ∧ Int32.toInt (-3) ≤ (-3) from (by decide)) (by decide) (by decide))⟩, hok, pvfr_0, ⟨zwT_n (by decide), zsA_1 (zvl_y0 (pvok_r hok 124 0 (lo := 0) (hi := 7) rfl).1 c6_ c13_) (Or.inl c81_)⟩, ⟨rfl, _, rfl, Or.inl ⟨by decide, rfl⟩⟩⟩
          · have b83_ : 0 ≤ Int32.toInt (M.1 131 (Int32.toNatClampNeg n1)) ∧ Int32.toInt (M.1 131 (Int32.toNatClampNeg n1)) ≤ 0 := (by have u0 := b80_; have u1 := (zi_eq _ _).mp c81_; have u2 := (show 0 ≤ Int32.toInt 0 ∧ Int32.toInt 0 ≤ 0 from (by decide)); omega)
            have b84_ : 0 ≤ Int32.toInt (M.1 124 1) ∧ Int32.toInt (M.1 124 1) ≤ 9999 := pvok_r hok 124 1 rfl
            obtain ⟨q86_, b85_⟩ : (Int32.toInt ((M.1 124 1) + (x22_ + (2 * (M.1 129 (Int32.toNatClampNeg n1))))) = Int32.toInt (M.1 124 1) + Int32.toInt (x22_ + (2 * (M.1 129 (Int32.toNatClampNeg n1))))) ∧ (0 ≤ Int32.toInt ((M.1 124 1) + (x22_ + (2 * (M.1 129 (Int32.toNatClampNeg n1))))) ∧ Int32.toInt ((M.1 124 1) + (x22_ + (2 * (M.1 129 (Int32.toNatClampNeg n1))))) ≤ 10318) := zadd_r (M.1 124 1) (x22_ + (2 * (M.1 129 (Int32.toNatClampNeg n1)))) 0 10318 b84_ b78_ (by decide) (by decide) (by decide) (by decide)
            refine pw_blk hT 5 (S' := (48, [some (pvR 124), some (pvI n1), some (pvI (x22_ + (2 * (M.1 129 (Int32.toNatClampNeg n1))))), none], [pvI 9999, pvI ((M.1 124 1) + (x22_ + (2 * (M.1 129 (Int32.toNatClampNeg n1)))))], M)) rfl ⟨trivial, rfl, trivial, trivial, trivial, trivial⟩ ?_
            refine pw_ic hT (c := ((M.1 124 1) + (x22_ + (2 * (M.1 129 (Int32.toNatClampNeg n1))))) ≤ 9999) rfl rfl (fun c87_ => ?_) (fun c87_ => ?_)
            · have b88_ : 0 ≤ Int32.toInt ((M.1 124 1) + (x22_ + (2 * (M.1 129 (Int32.toNatClampNeg n1))))) ∧ Int32.toInt ((M.1 124 1) + (x22_ + (2 * (M.1 129 (Int32.toNatClampNeg n1))))) ≤ 9999 := zr_le_l 9999 c87_ b85_ (show 9999 ≤ Int32.toInt 9999 ∧ Int32.toInt 9999 ≤ 9999 from (by decide)) (by decide)
              refine pw_blk hT 2 (S' := (56, [some (pvR 124), some (pvI n1), some (pvI (x22_ + (2 * (M.1 129 (Int32.toNatClampNeg n1))))), none], [pvI (x22_ + (2 * (M.1 129 (Int32.toNatClampNeg n1)))), pvR 124], M)) rfl ⟨trivial, trivial, trivial⟩ ?_
              refine pw_callGd hT (as := [pvR 124, pvI (x22_ + (2 * (M.1 129 (Int32.toNatClampNeg n1))))]) (lo1 := [some (pvR 124), some (pvI (x22_ + (2 * (M.1 129 (Int32.toNatClampNeg n1))))), none]) (d1 := d) (rest := []) rfl rfl rfl rfl rfl (fun _ => rfl) (Nat.zero_le _) rfl rfl rfl (se_X10_goMinutes_124_x M hok (x22_ + (2 * (M.1 129 (Int32.toNatClampNeg n1)))) (zr_wide b78_ (by decide) (by decide)) hz (show Int32.toInt (M.1 124 1) + Int32.toInt (x22_ + (2 * (M.1 129 (Int32.toNatClampNeg n1)))) ≤ 9999 from (by omega)) d) (fun x90_ M91_ b92_ o93_ g94_ d89_ => ?_)
              have f95_ : pvFr fp_eX10_shut_124_x M M91_ := pvfr_t g94_ pvfr_0 fp_eX10_shut_124_x_fp_eX10_goMinutes_124_x
              refine pw_blkw hT 6 (pc := 67) (lo := [some (pvR 124), some (pvI n1), some (pvI (x22_ + (2 * (M.1 129 (Int32.toNatClampNeg n1))))), some (pvI x90_)]) (st := []) (M := pvu M91_ 131 (Int32.toNatClampNeg n1) (vp_nar .boolean 1)) rfl ⟨trivial, trivial, rfl, trivial, trivial, ⟨rfl, (zr_in (n := 7) b17_ (by decide) (by decide))⟩, trivial⟩ (fun M96_ e97_ => ?_)
              have o98_ : pvOk M96_ := pvok_u2 e97_ o93_ rfl (zboolr 1)
              have f99_ : pvFr fp_eX10_shut_124_x M M96_ := pvfr_u e97_ f95_ rfl
              have b100_ : 0 ≤ Int32.toInt (M96_.1 127 (Int32.toNatClampNeg n1)) ∧ Int32.toInt (M96_.1 127 (Int32.toNatClampNeg n1)) ≤ 3 := pvok_r o98_ 127 (Int32.toNatClampNeg n1) rfl
              refine pw_blkw hT 6 (pc := 77) (lo := [some (pvR 124), some (pvI n1), some (pvI (x22_ + (2 * (M.1 129 (Int32.toNatClampNeg n1))))), some (pvI x90_)]) (st := []) (M := pvu M96_ 124 5 (M96_.1 127 (Int32.toNatClampNeg n1))) rfl ⟨trivial, trivial, rfl, trivial, ⟨rfl, (zr_in (n := 7) b17_ (by decide) (by decide))⟩, rfl, trivial⟩ (fun M101_ e102_ => ?_)
              have o103_ : pvOk M101_ := pvok_u2 e102_ o98_ rfl b100_
              have f104_ : pvFr fp_eX10_shut_124_x M M101_ := pvfr_u e102_ f99_ rfl
              have b105_ : 0 ≤ Int32.toInt (M101_.1 128 (Int32.toNatClampNeg n1)) ∧ Int32.toInt (M101_.1 128 (Int32.toNatClampNeg n1)) ≤ 4 := pvok_r o103_ 128 (Int32.toNatClampNeg n1) rfl
              refine pw_blkw hT 6 (pc := 87) (lo := [some (pvR 124), some (pvI n1), some (pvI (x22_ + (2 * (M.1 129 (Int32.toNatClampNeg n1))))), some (pvI x90_)]) (st := []) (M := pvu M101_ 124 6 (M101_.1 128 (Int32.toNatClampNeg n1))) rfl ⟨trivial, trivial, rfl, trivial, ⟨rfl, (zr_in (n := 7) b17_ (by decide) (by decide))⟩, rfl, trivial⟩ (fun M106_ e107_ => ?_)
              have o108_ : pvOk M106_ := pvok_u2 e107_ o103_ rfl b105_
              have f109_ : pvFr fp_eX10_shut_124_x M M106_ := pvfr_u e107_ f104_ rfl
              refine pw_blk hT 1 (S' := (88, [some (pvR 124), some (pvI n1), some (pvI (x22_ + (2 * (M.1 129 (Int32.toNatClampNeg n1))))), some (pvI x90_)], [pvI (x22_ + (2 * (M.1 129 (Int32.toNatClampNeg n1))))], M106_)) rfl ⟨trivial, trivial⟩ ?_
              exact pw_ret hT rfl (r := some (pvI (x22_ + (2 * (M.1 129 (Int32.toNatClampNeg n1)))))) (M' := M106_) ⟨rfl, rfl⟩ ⟨⟨_, rfl, (zr_wide b78_ (by decide) (by decide))⟩, o108_, f109_, ⟨zwT_i (by have u := b78_; omega) b17_ ((((pvu_n e107_ 124 1 (Or.inr (by decide))).trans (pvu_n e102_ 124 1 (Or.inr (by decide)))).trans (pvu_n e97_ 124 1 (Or.inl (by decide)))).trans (d89_.2)) ((pvu_n e107_ 124 5 (Or.inr (by decide))).trans ((pvu_s e102_).trans ((pvu_n e97_ 127 (Int32.toNatClampNeg n1) (Or.inl (by decide))).trans (congrFun (pvfr_row (L := fpL_eX10_goMinutes_124_x) g94_ rfl) (Int32.toNatClampNeg n1))))) ((pvu_s e107_).trans ((pvu_n e102_ 128 (Int32.toNatClampNeg n1) (Or.inl (by decide))).trans ((pvu_n e97_ 128 (Int32.toNatClampNeg n1) (Or.inl (by decide))).trans (congrFun (pvfr_row (L := fpL_eX10_goMinutes_124_x) g94_ rfl) (Int32.toNatClampNeg n1))))) (zVu1 e97_ (by decide) (fun i => (pvu_n e107_ 131 i (Or.inl (by decide))).trans (pvu_n e102_ 131 i (Or.inl (by decide)))) (fun i => congrFun (pvfr_row (L := fpL_eX10_goMinutes_124_x) g94_ rfl) i)), zsA_2 (zvl_y0 (pvok_r hok 124 0 (lo := 0) (hi := 7) rfl).1 c6_ c13_) c81_ (by have b := b88_; have c := (show Int32.toInt (x22_ + (2 * (M.1 129 (Int32.toNatClampNeg n1)))) = zcS0 n1 M from by unfold zcS0 zTm; rw [if_pos (Or.inr c73_)]; omega); omega) (show Int32.toInt (x22_ + (2 * (M.1 129 (Int32.toNatClampNeg n1)))) = zcS0 n1 M from by unfold zcS0 zTm; rw [if_pos (Or.inr c73_)]; omega)⟩, ⟨(((pvu_n e107_ 124 50 (Or.inr (by decide))).trans ((pvu_n e102_ 124 50 (Or.inr (by decide))).trans (pvu_n e97_ 124 50 (Or.inl (by decide))))).trans (g94_ 124 50 rfl)), _, rfl, Or.inr ⟨(by have u := b78_; omega), yPx0_c d89_.1 ((pvu_n e107_ 124 2 (Or.inr (by decide))).trans ((pvu_n e102_ 124 2 (Or.inr (by decide))).trans (pvu_n e97_ 124 2 (Or.inl (by decide)))))⟩⟩⟩
            · have b110_ : 10000 ≤ Int32.toInt ((M.1 124 1) + (x22_ + (2 * (M.1 129 (Int32.toNatClampNeg n1))))) ∧ Int32.toInt ((M.1 124 1) + (x22_ + (2 * (M.1 129 (Int32.toNatClampNeg n1))))) ≤ 10318 := zr_nle_l 10000 c87_ b85_ (show 9999 ≤ Int32.toInt 9999 ∧ Int32.toInt 9999 ≤ 9999 from (by decide)) (by decide)
              refine pw_blk hT 1 (S' := (53, [some (pvR 124), some (pvI n1), some (pvI (x22_ + (2 * (M.1 129 (Int32.toNatClampNeg n1))))), none], [pvI (-3)], M)) rfl ⟨trivial, trivial⟩ ?_
              exact pw_ret hT rfl (r := some (pvI (-3))) (M' := M) ⟨rfl, rfl⟩ ⟨⟨_, rfl, (zr_wide (show (-3) ≤ Int32.toInt (-3) ∧ Int32.toInt (-3) ≤ (-3) from (by decide)) (by decide) (by decide))⟩, hok, pvfr_0, ⟨zwT_n (by decide), zsA_1 (zvl_y0 (pvok_r hok 124 0 (lo := 0) (hi := 7) rfl).1 c6_ c13_) (Or.inr (by have b := b110_; have c := (show Int32.toInt (x22_ + (2 * (M.1 129 (Int32.toNatClampNeg n1)))) = zcS0 n1 M from by unfold zcS0 zTm; rw [if_pos (Or.inr c73_)]; omega); omega))⟩, ⟨rfl, _, rfl, Or.inl ⟨by decide, rfl⟩⟩⟩
        · refine pw_eqI (if_neg c73_) ?_
          have b111_ : 0 ≤ Int32.toInt (M.1 129 (Int32.toNatClampNeg n1)) ∧ Int32.toInt (M.1 129 (Int32.toNatClampNeg n1)) ≤ 9 := pvok_r hok 129 (Int32.toNatClampNeg n1) rfl
          show PW 74 d (28, [some (pvR 124), some (pvI n1), none, none], [pvI (M.1 129 (Int32.toNatClampNeg n1)), pvI x22_], M) _
          obtain ⟨q113_, b112_⟩ : (Int32.toInt (x22_ + (M.1 129 (Int32.toNatClampNeg n1))) = Int32.toInt x22_ + Int32.toInt (M.1 129 (Int32.toNatClampNeg n1))) ∧ (0 ≤ Int32.toInt (x22_ + (M.1 129 (Int32.toNatClampNeg n1))) ∧ Int32.toInt (x22_ + (M.1 129 (Int32.toNatClampNeg n1))) ≤ 310) := zadd_r x22_ (M.1 129 (Int32.toNatClampNeg n1)) 0 310 b27_ b111_ (by decide) (by decide) (by decide) (by decide)
          have b114_ : 0 ≤ Int32.toInt (M.1 131 (Int32.toNatClampNeg n1)) ∧ Int32.toInt (M.1 131 (Int32.toNatClampNeg n1)) ≤ 1 := pvok_r hok 131 (Int32.toNatClampNeg n1) rfl
          refine pw_blk hT 6 (S' := (36, [some (pvR 124), some (pvI n1), some (pvI (x22_ + (M.1 129 (Int32.toNatClampNeg n1)))), none], [pvI (M.1 131 (Int32.toNatClampNeg n1))], M)) rfl ⟨trivial, trivial, trivial, rfl, trivial, ⟨rfl, (zr_in (n := 7) b17_ (by decide) (by decide))⟩, trivial⟩ ?_
          refine pw_ifn hT (c := (M.1 131 (Int32.toNatClampNeg n1)) = 0) rfl rfl (fun c115_ => ?_) (fun c115_ => ?_)
          · have b116_ : 1 ≤ Int32.toInt (M.1 131 (Int32.toNatClampNeg n1)) ∧ Int32.toInt (M.1 131 (Int32.toNatClampNeg n1)) ≤ 1 := (by have u0 := b114_; have u1 := (not_congr (zi_eq _ _)).mp c115_; have u2 := (show 0 ≤ Int32.toInt 0 ∧ Int32.toInt 0 ≤ 0 from (by decide)); omega)
            refine pw_blk hT 1 (S' := (53, [some (pvR 124), some (pvI n1), some (pvI (x22_ + (M.1 129 (Int32.toNatClampNeg n1)))), none], [pvI (-3)], M)) rfl ⟨trivial, trivial⟩ ?_
            exact pw_ret hT rfl (r := some (pvI (-3))) (M' := M) ⟨rfl, rfl⟩ ⟨⟨_, rfl, (zr_wide (show (-3) ≤ Int32.toInt (-3) ∧ Int32.toInt (-3) ≤ (-3) from (by decide)) (by decide) (by decide))⟩, hok, pvfr_0, ⟨zwT_n (by decide), zsA_1 (zvl_y0 (pvok_r hok 124 0 (lo := 0) (hi := 7) rfl).1 c6_ c13_) (Or.inl c115_)⟩, ⟨rfl, _, rfl, Or.inl ⟨by decide, rfl⟩⟩⟩
          · have b117_ : 0 ≤ Int32.toInt (M.1 131 (Int32.toNatClampNeg n1)) ∧ Int32.toInt (M.1 131 (Int32.toNatClampNeg n1)) ≤ 0 := (by have u0 := b114_; have u1 := (zi_eq _ _).mp c115_; have u2 := (show 0 ≤ Int32.toInt 0 ∧ Int32.toInt 0 ≤ 0 from (by decide)); omega)
            have b118_ : 0 ≤ Int32.toInt (M.1 124 1) ∧ Int32.toInt (M.1 124 1) ≤ 9999 := pvok_r hok 124 1 rfl
            obtain ⟨q120_, b119_⟩ : (Int32.toInt ((M.1 124 1) + (x22_ + (M.1 129 (Int32.toNatClampNeg n1)))) = Int32.toInt (M.1 124 1) + Int32.toInt (x22_ + (M.1 129 (Int32.toNatClampNeg n1)))) ∧ (0 ≤ Int32.toInt ((M.1 124 1) + (x22_ + (M.1 129 (Int32.toNatClampNeg n1)))) ∧ Int32.toInt ((M.1 124 1) + (x22_ + (M.1 129 (Int32.toNatClampNeg n1)))) ≤ 10309) := zadd_r (M.1 124 1) (x22_ + (M.1 129 (Int32.toNatClampNeg n1))) 0 10309 b118_ b112_ (by decide) (by decide) (by decide) (by decide)
            refine pw_blk hT 5 (S' := (48, [some (pvR 124), some (pvI n1), some (pvI (x22_ + (M.1 129 (Int32.toNatClampNeg n1)))), none], [pvI 9999, pvI ((M.1 124 1) + (x22_ + (M.1 129 (Int32.toNatClampNeg n1))))], M)) rfl ⟨trivial, rfl, trivial, trivial, trivial, trivial⟩ ?_
            refine pw_ic hT (c := ((M.1 124 1) + (x22_ + (M.1 129 (Int32.toNatClampNeg n1)))) ≤ 9999) rfl rfl (fun c121_ => ?_) (fun c121_ => ?_)
            · have b122_ : 0 ≤ Int32.toInt ((M.1 124 1) + (x22_ + (M.1 129 (Int32.toNatClampNeg n1)))) ∧ Int32.toInt ((M.1 124 1) + (x22_ + (M.1 129 (Int32.toNatClampNeg n1)))) ≤ 9999 := zr_le_l 9999 c121_ b119_ (show 9999 ≤ Int32.toInt 9999 ∧ Int32.toInt 9999 ≤ 9999 from (by decide)) (by decide)
              refine pw_blk hT 2 (S' := (56, [some (pvR 124), some (pvI n1), some (pvI (x22_ + (M.1 129 (Int32.toNatClampNeg n1)))), none], [pvI (x22_ + (M.1 129 (Int32.toNatClampNeg n1))), pvR 124], M)) rfl ⟨trivial, trivial, trivial⟩ ?_
              refine pw_callGd hT (as := [pvR 124, pvI (x22_ + (M.1 129 (Int32.toNatClampNeg n1)))]) (lo1 := [some (pvR 124), some (pvI (x22_ + (M.1 129 (Int32.toNatClampNeg n1)))), none]) (d1 := d) (rest := []) rfl rfl rfl rfl rfl (fun _ => rfl) (Nat.zero_le _) rfl rfl rfl (se_X10_goMinutes_124_x M hok (x22_ + (M.1 129 (Int32.toNatClampNeg n1))) (zr_wide b112_ (by decide) (by decide)) hz (show Int32.toInt (M.1 124 1) + Int32.toInt (x22_ + (M.1 129 (Int32.toNatClampNeg n1))) ≤ 9999 from (by omega)) d) (fun x124_ M125_ b126_ o127_ g128_ d123_ => ?_)
              have f129_ : pvFr fp_eX10_shut_124_x M M125_ := pvfr_t g128_ pvfr_0 fp_eX10_shut_124_x_fp_eX10_goMinutes_124_x
              refine pw_blkw hT 6 (pc := 67) (lo := [some (pvR 124), some (pvI n1), some (pvI (x22_ + (M.1 129 (Int32.toNatClampNeg n1)))), some (pvI x124_)]) (st := []) (M := pvu M125_ 131 (Int32.toNatClampNeg n1) (vp_nar .boolean 1)) rfl ⟨trivial, trivial, rfl, trivial, trivial, ⟨rfl, (zr_in (n := 7) b17_ (by decide) (by decide))⟩, trivial⟩ (fun M130_ e131_ => ?_)
              have o132_ : pvOk M130_ := pvok_u2 e131_ o127_ rfl (zboolr 1)
              have f133_ : pvFr fp_eX10_shut_124_x M M130_ := pvfr_u e131_ f129_ rfl
              have b134_ : 0 ≤ Int32.toInt (M130_.1 127 (Int32.toNatClampNeg n1)) ∧ Int32.toInt (M130_.1 127 (Int32.toNatClampNeg n1)) ≤ 3 := pvok_r o132_ 127 (Int32.toNatClampNeg n1) rfl
              refine pw_blkw hT 6 (pc := 77) (lo := [some (pvR 124), some (pvI n1), some (pvI (x22_ + (M.1 129 (Int32.toNatClampNeg n1)))), some (pvI x124_)]) (st := []) (M := pvu M130_ 124 5 (M130_.1 127 (Int32.toNatClampNeg n1))) rfl ⟨trivial, trivial, rfl, trivial, ⟨rfl, (zr_in (n := 7) b17_ (by decide) (by decide))⟩, rfl, trivial⟩ (fun M135_ e136_ => ?_)
              have o137_ : pvOk M135_ := pvok_u2 e136_ o132_ rfl b134_
              have f138_ : pvFr fp_eX10_shut_124_x M M135_ := pvfr_u e136_ f133_ rfl
              have b139_ : 0 ≤ Int32.toInt (M135_.1 128 (Int32.toNatClampNeg n1)) ∧ Int32.toInt (M135_.1 128 (Int32.toNatClampNeg n1)) ≤ 4 := pvok_r o137_ 128 (Int32.toNatClampNeg n1) rfl
              refine pw_blkw hT 6 (pc := 87) (lo := [some (pvR 124), some (pvI n1), some (pvI (x22_ + (M.1 129 (Int32.toNatClampNeg n1)))), some (pvI x124_)]) (st := []) (M := pvu M135_ 124 6 (M135_.1 128 (Int32.toNatClampNeg n1))) rfl ⟨trivial, trivial, rfl, trivial, ⟨rfl, (zr_in (n := 7) b17_ (by decide) (by decide))⟩, rfl, trivial⟩ (fun M140_ e141_ => ?_)
              have o142_ : pvOk M140_ := pvok_u2 e141_ o137_ rfl b139_
              have f143_ : pvFr fp_eX10_shut_124_x M M140_ := pvfr_u e141_ f138_ rfl
              refine pw_blk hT 1 (S' := (88, [some (pvR 124), some (pvI n1), some (pvI (x22_ + (M.1 129 (Int32.toNatClampNeg n1)))), some (pvI x124_)], [pvI (x22_ + (M.1 129 (Int32.toNatClampNeg n1)))], M140_)) rfl ⟨trivial, trivial⟩ ?_
              exact pw_ret hT rfl (r := some (pvI (x22_ + (M.1 129 (Int32.toNatClampNeg n1))))) (M' := M140_) ⟨rfl, rfl⟩ ⟨⟨_, rfl, (zr_wide b112_ (by decide) (by decide))⟩, o142_, f143_, ⟨zwT_i (by have u := b112_; omega) b17_ ((((pvu_n e141_ 124 1 (Or.inr (by decide))).trans (pvu_n e136_ 124 1 (Or.inr (by decide)))).trans (pvu_n e131_ 124 1 (Or.inl (by decide)))).trans (d123_.2)) ((pvu_n e141_ 124 5 (Or.inr (by decide))).trans ((pvu_s e136_).trans ((pvu_n e131_ 127 (Int32.toNatClampNeg n1) (Or.inl (by decide))).trans (congrFun (pvfr_row (L := fpL_eX10_goMinutes_124_x) g128_ rfl) (Int32.toNatClampNeg n1))))) ((pvu_s e141_).trans ((pvu_n e136_ 128 (Int32.toNatClampNeg n1) (Or.inl (by decide))).trans ((pvu_n e131_ 128 (Int32.toNatClampNeg n1) (Or.inl (by decide))).trans (congrFun (pvfr_row (L := fpL_eX10_goMinutes_124_x) g128_ rfl) (Int32.toNatClampNeg n1))))) (zVu1 e131_ (by decide) (fun i => (pvu_n e141_ 131 i (Or.inl (by decide))).trans (pvu_n e136_ 131 i (Or.inl (by decide)))) (fun i => congrFun (pvfr_row (L := fpL_eX10_goMinutes_124_x) g128_ rfl) i)), zsA_2 (zvl_y0 (pvok_r hok 124 0 (lo := 0) (hi := 7) rfl).1 c6_ c13_) c115_ (by have b := b122_; have c := (show Int32.toInt (x22_ + (M.1 129 (Int32.toNatClampNeg n1))) = zcS0 n1 M from by unfold zcS0 zTm; rw [if_neg (fun z => z.elim c35_ c73_)]; omega); omega) (show Int32.toInt (x22_ + (M.1 129 (Int32.toNatClampNeg n1))) = zcS0 n1 M from by unfold zcS0 zTm; rw [if_neg (fun z => z.elim c35_ c73_)]; omega)⟩, ⟨(((pvu_n e141_ 124 50 (Or.inr (by decide))).trans ((pvu_n e136_ 124 50 (Or.inr (by decide))).trans (pvu_n e131_ 124 50 (Or.inl (by decide))))).trans (g128_ 124 50 rfl)), _, rfl, Or.inr ⟨(by have u := b112_; omega), yPx0_c d123_.1 ((pvu_n e141_ 124 2 (Or.inr (by decide))).trans ((pvu_n e136_ 124 2 (Or.inr (by decide))).trans (pvu_n e131_ 124 2 (Or.inl (by decide)))))⟩⟩⟩
            · have b144_ : 10000 ≤ Int32.toInt ((M.1 124 1) + (x22_ + (M.1 129 (Int32.toNatClampNeg n1)))) ∧ Int32.toInt ((M.1 124 1) + (x22_ + (M.1 129 (Int32.toNatClampNeg n1)))) ≤ 10309 := zr_nle_l 10000 c121_ b119_ (show 9999 ≤ Int32.toInt 9999 ∧ Int32.toInt 9999 ≤ 9999 from (by decide)) (by decide)
              refine pw_blk hT 1 (S' := (53, [some (pvR 124), some (pvI n1), some (pvI (x22_ + (M.1 129 (Int32.toNatClampNeg n1)))), none], [pvI (-3)], M)) rfl ⟨trivial, trivial⟩ ?_
              exact pw_ret hT rfl (r := some (pvI (-3))) (M' := M) ⟨rfl, rfl⟩ ⟨⟨_, rfl, (zr_wide (show (-3) ≤ Int32.toInt (-3) ∧ Int32.toInt (-3) ≤ (-3) from (by decide)) (by decide) (by decide))⟩, hok, pvfr_0, ⟨zwT_n (by decide), zsA_1 (zvl_y0 (pvok_r hok 124 0 (lo := 0) (hi := 7) rfl).1 c6_ c13_) (Or.inr (by have b := b144_; have c := (show Int32.toInt (x22_ + (M.1 129 (Int32.toNatClampNeg n1))) = zcS0 n1 M from by unfold zcS0 zTm; rw [if_neg (fun z => z.elim c35_ c73_)]; omega); omega))⟩, ⟨rfl, _, rfl, Or.inl ⟨by decide, rfl⟩⟩⟩
