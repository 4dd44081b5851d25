set_option maxHeartbeats 4000000 in
set_option maxRecDepth 10000 in
theorem se_X9_wetMore_0_x (M : pvM) (hok : pvOk M) (n1 : Int32) (hn1 : 0 ≤ Int32.toInt n1 ∧ Int32.toInt n1 ≤ 9999) (d : Nat) : PW 209 d (0, [some (pvR 0), some (pvI n1), none], [], M) (fun r X => (∃ x : Int32, r = some (pvI x) ∧ True ∧ yWr M n1 x) ∧ X = M) := by
  have hT : pvdom 209 = pvD_209 := rfl
  have b1_ : 0 ≤ Int32.toInt (M.1 8 4) ∧ Int32.toInt (M.1 8 4) ≤ 9999 := pvok_r hok 8 4 rfl
  obtain ⟨q3_, b2_⟩ : (Int32.toInt ((M.1 8 4) + n1) = Int32.toInt (M.1 8 4) + Int32.toInt n1) ∧ (0 ≤ Int32.toInt ((M.1 8 4) + n1) ∧ Int32.toInt ((M.1 8 4) + n1) ≤ 19998) := zadd_r (M.1 8 4) n1 0 19998 b1_ hn1 (by decide) (by decide) (by decide) (by decide)
  refine pw_blk hT 10 (S' := (20, [some (pvR 0), some (pvI n1), none], [pvI ((M.1 8 4) + n1), pvI (M.1 8 4), pvR 5], M)) rfl ⟨trivial, rfl, trivial, rfl, rfl, trivial, rfl, rfl, trivial, trivial, trivial⟩ ?_
  refine pw_callGp hT (as := [pvR 5, pvI (M.1 8 4), pvI ((M.1 8 4) + n1)]) (lo1 := [some (pvR 5), some (pvI (M.1 8 4)), some (pvI ((M.1 8 4) + n1)), none, none]) (d1 := d) (rest := []) rfl rfl rfl rfl rfl (fun _ => rfl) (Nat.zero_le _) rfl rfl rfl (se_X1_harmOfAll_5_x_x M hok (M.1 8 4) ((M.1 8 4) + n1) (zr_wide b1_ (by decide) (by decide)) (zr_wide b2_ (by decide) (by decide)) d) (fun x4_ b6_ => ?_)
  obtain ⟨b9_, d10_⟩ := b6_
  have q11_ : Int32.toInt (if (999999 - (M.1 8 5)) < x4_ then (999999 - (M.1 8 5)) else x4_) = min (Int32.toInt x4_) (Int32.toInt (999999 - (M.1 8 5))) := pvmin x4_ (999999 - (M.1 8 5))
  have b12_ : (-2147483648) ≤ Int32.toInt (if (999999 - (M.1 8 5)) < x4_ then (999999 - (M.1 8 5)) else x4_) ∧ Int32.toInt (if (999999 - (M.1 8 5)) < x4_ then (999999 - (M.1 8 5)) else x4_) ≤ 2147483647 := (by have u0 := (zbnd x4_); have u1 := (zbnd (999999 - (M.1 8 5))); omega)
  refine pw_blk hT 8 (S' := (39, [some (pvR 0), some (pvI n1), some (pvI x4_)], [pvI (if (999999 - (M.1 8 5)) < x4_ then (999999 - (M.1 8 5)) else x4_)], M)) rfl ⟨trivial, trivial, trivial, trivial, rfl, rfl, trivial, (Nat.le_of_ble_eq_true rfl), trivial⟩ ?_
  exact pw_ret hT rfl (r := some (pvI (if (999999 - (M.1 8 5)) < x4_ then (999999 - (M.1 8 5)) else x4_))) (M' := M) ⟨rfl, rfl⟩ ⟨⟨_, rfl, trivial, ⟨_, d10_, rfl⟩⟩, rfl⟩
def fpL_eX9_on_0_x : List (Nat × Nat × Nat) := [(0, 12, 0), (0, 13, 0), (0, 14, 0), (0, 5, 2), (0, 5, 3), (1, 112, 0)]
def fp_eX9_on_0_x (q k : Nat) : Bool := pvfp fpL_eX9_on_0_x q k
theorem fp_eX9_on_0_x_fp_eX1_beginFromNow_5 (a b : Nat) (h : fp_eX1_beginFromNow_5 a b = true) : fp_eX9_on_0_x a b = true := pvfp_sub (l1 := fpL_eX1_beginFromNow_5) (l2 := fpL_eX9_on_0_x) (by decide) a b h
set_option maxHeartbeats 4000000 in
set_option maxRecDepth 10000 in
theorem se_X9_on_0_x (M : pvM) (hok : pvOk M) (n1 : Int32) (d : Nat) : PW 190 d (0, [some (pvR 0), some (pvI n1)], [], M) (fun r X => (∃ x : Int32, r = some (pvI x) ∧ True) ∧ pvOk X ∧ pvFr fp_eX9_on_0_x M X ∧ yWK M X) := by
  have hT : pvdom 190 = pvD_190 := rfl
  refine pw_blk hT 3 (S' := (4, [some (pvR 0), some (pvI n1)], [pvI 99, pvI 0, pvI n1], M)) rfl ⟨trivial, trivial, trivial, trivial⟩ ?_
  refine pw_callT hT (as := [pvI n1, pvI 0, pvI 99]) (lo1 := [some (pvI n1), some (pvI 0), some (pvI 99)]) (d1 := d) (rest := []) rfl rfl rfl rfl rfl (fun h => absurd h (by decide)) (Nat.zero_le _) rfl rfl rfl (sf_X9_within_x_x_x M hok n1 0 99 d) ?_
  by_cases c6_ : n1 < 0
  · refine pw_eqI (if_pos c6_) ?_
    have b7_ : (-2147483648) ≤ Int32.toInt n1 ∧ Int32.toInt n1 ≤ (-1) := zr_lt_l (-1) c6_ (zbnd n1) (show 0 ≤ Int32.toInt 0 ∧ Int32.toInt 0 ≤ 0 from (by decide)) (by decide)
    show PW 190 d (7, [some (pvR 0), some (pvI n1)], [pvI 0], M) _
    refine pw_ifn hT (c := 0 = 0) rfl rfl (fun c8_ => absurd (by decide) c8_) (fun c8_ => ?_)
    refine pw_blk hT 1 (S' := (12, [some (pvR 0), some (pvI n1)], [pvI (-2)], M)) rfl ⟨trivial, trivial⟩ ?_
    exact pw_ret hT rfl (r := some (pvI (-2))) (M' := M) ⟨rfl, rfl⟩ ⟨⟨_, rfl, trivial⟩, hok, pvfr_0, (yWK_r M)⟩
  · refine pw_eqI (if_neg c6_) ?_
    have b9_ : 0 ≤ Int32.toInt n1 ∧ Int32.toInt n1 ≤ 2147483647 := zr_nlt_l 0 c6_ (zbnd n1) (show 0 ≤ Int32.toInt 0 ∧ Int32.toInt 0 ≤ 0 from (by decide)) (by decide)
    by_cases c10_ : 99 < n1
    · refine pw_eqI (if_pos c10_) ?_
      have b11_ : 100 ≤ Int32.toInt n1 ∧ Int32.toInt n1 ≤ 2147483647 := zr_lt_r 100 c10_ b9_ (show 99 ≤ Int32.toInt 99 ∧ Int32.toInt 99 ≤ 99 from (by decide)) (by decide)
      show PW 190 d (7, [some (pvR 0), some (pvI n1)], [pvI 0], M) _
      refine pw_ifn hT (c := 0 = 0) rfl rfl (fun c12_ => absurd (by decide) c12_) (fun c12_ => ?_)
      refine pw_blk hT 1 (S' := (12, [some (pvR 0), some (pvI n1)], [pvI (-2)], M)) rfl ⟨trivial, trivial⟩ ?_
      exact pw_ret hT rfl (r := some (pvI (-2))) (M' := M) ⟨rfl, rfl⟩ ⟨⟨_, rfl, trivial⟩, hok, pvfr_0, (yWK_r M)⟩
    · refine pw_eqI (if_neg c10_) ?_
      have b13_ : 0 ≤ Int32.toInt n1 ∧ Int32.toInt n1 ≤ 99 := zr_nlt_r 99 c10_ b9_ (show 99 ≤ Int32.toInt 99 ∧ Int32.toInt 99 ≤ 99 from (by decide)) (by decide)
      show PW 190 d (7, [some (pvR 0), some (pvI n1)], [pvI 1], M) _
      refine pw_ifn hT (c := 1 = 0) rfl rfl (fun c14_ => ?_) (fun c14_ => absurd c14_ (by decide))
      refine pw_blk hT 2 (S' := (17, [some (pvR 0), some (pvI n1)], [pvR 5], M)) rfl ⟨trivial, rfl, trivial⟩ ?_
      refine pw_callVd hT (as := [pvR 5]) (lo1 := [some (pvR 5)]) (d1 := d) (rest := []) rfl rfl rfl rfl rfl (fun _ => rfl) (Nat.zero_le _) rfl rfl rfl (se_X1_beginFromNow_5 M hok d) (fun M17_ o19_ g20_ d15_ => ?_)
      have f21_ : pvFr fp_eX9_on_0_x M M17_ := pvfr_t g20_ pvfr_0 fp_eX9_on_0_x_fp_eX1_beginFromNow_5
      refine pw_blk hT 2 (S' := (22, [some (pvR 0), some (pvI n1)], [pvI n1, pvR 0], M17_)) rfl ⟨trivial, trivial, trivial⟩ ?_
      refine pw_callGp hT (as := [pvR 0, pvI n1]) (lo1 := [some (pvR 0), some (pvI n1), none]) (d1 := d) (rest := []) rfl rfl rfl rfl rfl (fun _ => rfl) (Nat.zero_le _) rfl rfl rfl (se_X9_wetMore_0_x M17_ o19_ n1 (zr_wide b13_ (by decide) (by decide)) d) (fun x22_ b24_ => ?_)
      obtain ⟨b27_, d28_⟩ := b24_
      exact pw_ret hT rfl (r := some (pvI x22_)) (M' := M17_) ⟨rfl, rfl⟩ ⟨⟨_, rfl, trivial⟩, o19_, f21_, (yWK_B d15_)⟩
def fpL_eX9_go_0_x : List (Nat × Nat × Nat) := [(0, 8, 5), (0, 8, 6)]
def fp_eX9_go_0_x (q k : Nat) : Bool := pvfp fpL_eX9_go_0_x q k
set_option maxHeartbeats 4000000 in
set_option maxRecDepth 10000 in
theorem se_X9_go_0_x (M : pvM) (hok : pvOk M) (n1 : Int32) (hn1 : 0 ≤ Int32.toInt n1 ∧ Int32.toInt n1 ≤ 9999) (hx0 : Int32.toInt (M.1 8 4) + Int32.toInt n1 ≤ 9999) (d : Nat) : PW 175 d (0, [some (pvR 0), some (pvI n1), none], [], M) (fun r X => (∃ x : Int32, r = some (pvI x) ∧ True) ∧ pvOk X ∧ pvFr fp_eX9_go_0_x M X ∧ yGo9 n1 r M X ∧ X.1 8 4 = ((M.1 8 4) + n1)) := by
  have hT : pvdom 175 = pvD_175 := rfl
  have b1_ : 0 ≤ Int32.toInt (M.1 8 4) ∧ Int32.toInt (M.1 8 4) ≤ 9999 := pvok_r hok 8 4 rfl
  refine pw_blk hT 2 (S' := (2, [some (pvR 0), some (pvI n1), none], [pvI n1, pvR 0], M)) rfl ⟨trivial, trivial, trivial⟩ ?_
  refine pw_callGp hT (as := [pvR 0, pvI n1]) (lo1 := [some (pvR 0), some (pvI n1), none]) (d1 := d) (rest := []) rfl rfl rfl rfl rfl (fun _ => rfl) (Nat.zero_le _) rfl rfl rfl (se_X9_wetMore_0_x M hok n1 hn1 d) (fun x2_ b4_ => ?_)
  obtain ⟨b7_, d8_⟩ := b4_
  refine pw_blkw hT 8 (pc := 19) (lo := [some (pvR 0), some (pvI n1), some (pvI x2_)]) (st := []) (M := pvu M 8 5 ((M.1 8 5) + x2_)) rfl ⟨trivial, trivial, rfl, trivial, rfl, trivial, trivial, rfl, trivial⟩ (fun M9_ e10_ => ?_)
  have o11_ : pvOk M9_ := pvok_u2 e10_ hok rfl (zbnd ((M.1 8 5) + x2_))
  have f12_ : pvFr fp_eX9_go_0_x M M9_ := pvfr_u e10_ pvfr_0 rfl
  have e13_ : (M9_.1 8 4) = (M.1 8 4) := (pvu_n e10_ 8 4 (Or.inr (by decide)))
  have b14_ : 0 ≤ Int32.toInt (M9_.1 8 4) ∧ Int32.toInt (M9_.1 8 4) ≤ 9999 := pvok_r o11_ 8 4 rfl
  have d15_ : Int32.toInt (M9_.1 8 4) = Int32.toInt (M.1 8 4) := congrArg Int32.toInt e13_
  obtain ⟨q17_, b16_⟩ : (Int32.toInt ((M9_.1 8 4) + n1) = Int32.toInt (M9_.1 8 4) + Int32.toInt n1) ∧ (0 ≤ Int32.toInt ((M9_.1 8 4) + n1) ∧ Int32.toInt ((M9_.1 8 4) + n1) ≤ 19998) := zadd_r (M9_.1 8 4) n1 0 19998 b14_ hn1 (by decide) (by decide) (by decide) (by decide)
  refine pw_blkw hT 7 (pc := 32) (lo := [some (pvR 0), some (pvI n1), some (pvI x2_)]) (st := []) (M := pvu M9_ 8 4 ((M9_.1 8 4) + n1)) rfl ⟨trivial, rfl, trivial, rfl, trivial, trivial, rfl, trivial⟩ (fun M18_ e19_ => ?_)
  have o20_ : pvOk M18_ := pvok_u2 e19_ o11_ rfl (by have u0 := b16_; omega)
  have f21_ : pvFr fp_eX9_go_0_x M M18_ := pvfr_u e19_ f12_ rfl
  refine pw_blk hT 1 (S' := (33, [some (pvR 0), some (pvI n1), some (pvI x2_)], [pvI x2_], M18_)) rfl ⟨trivial, trivial⟩ ?_
  exact pw_ret hT rfl (r := some (pvI x2_)) (M' := M18_) ⟨rfl, rfl⟩ ⟨⟨_, rfl, trivial⟩, o20_, f21_, ⟨_, rfl, d8_, ((pvu_n e19_ 8 5 (Or.inr (by decide))).trans (pvu_s e10_))⟩, ((pvu_s e19_).trans (show ((M9_.1 8 4) + n1) = ((M.1 8 4) + n1) from by rw [(pvu_n e10_ 8 4 (Or.inr (by decide)))]))⟩
def fpL_eX9_pass_0_x : List (Nat × Nat × Nat) := [(0, 12, 0), (0, 13, 0), (0, 14, 0), (0, 5, 2), (0, 5, 3), (0, 8, 5), (0, 8, 6), (1, 112, 0)]
def fp_eX9_pass_0_x (q k : Nat) : Bool := pvfp fpL_eX9_pass_0_x q k
theorem fp_eX9_pass_0_x_fp_eX1_beginFromNow_5 (a b : Nat) (h : fp_eX1_beginFromNow_5 a b = true) : fp_eX9_pass_0_x a b = true := pvfp_sub (l1 := fpL_eX1_beginFromNow_5) (l2 := fpL_eX9_pass_0_x) (by decide) a b h
theorem fp_eX9_pass_0_x_fp_eX9_go_0_x (a b : Nat) (h : fp_eX9_go_0_x a b = true) : fp_eX9_pass_0_x a b = true := pvfp_sub (l1 := fpL_eX9_go_0_x) (l2 := fpL_eX9_pass_0_x) (by decide) a b h
set_option maxHeartbeats 4000000 in
set_option maxRecDepth 10000 in
theorem se_X9_pass_0_x (M : pvM) (hok : pvOk M) (n1 : Int32) (d : Nat) : PW 192 d (0, [some (pvR 0), some (pvI n1)], [], M) (fun r X => (∃ x : Int32, r = some (pvI x) ∧ True) ∧ pvOk X ∧ pvFr fp_eX9_pass_0_x M X ∧ zwG n1 (zw9 8 60 M) (zw9 8 60 X) ∧ yWK M X ∧ yPw9 n1 M X) := by
  have hT : pvdom 192 = pvD_192 := rfl
  have b1_ : 0 ≤ Int32.toInt (M.1 8 4) ∧ Int32.toInt (M.1 8 4) ≤ 9999 := pvok_r hok 8 4 rfl
  refine pw_blk hT 3 (S' := (4, [some (pvR 0), some (pvI n1)], [pvI 99, pvI 0, pvI n1], M)) rfl ⟨trivial, trivial, trivial, trivial⟩ ?_
  refine pw_callT hT (as := [pvI n1, pvI 0, pvI 99]) (lo1 := [some (pvI n1), some (pvI 0), some (pvI 99)]) (d1 := d) (rest := []) rfl rfl rfl rfl rfl (fun h => absurd h (by decide)) (Nat.zero_le _) rfl rfl rfl (sf_X9_within_x_x_x M hok n1 0 99 d) ?_
  by_cases c7_ : n1 < 0
  · refine pw_eqI (if_pos c7_) ?_
    have b8_ : (-2147483648) ≤ Int32.toInt n1 ∧ Int32.toInt n1 ≤ (-1) := zr_lt_l (-1) c7_ (zbnd n1) (show 0 ≤ Int32.toInt 0 ∧ Int32.toInt 0 ≤ 0 from (by decide)) (by decide)
    show PW 192 d (7, [some (pvR 0), some (pvI n1)], [pvI 0], M) _
    refine pw_ifn hT (c := 0 = 0) rfl rfl (fun c9_ => absurd (by decide) c9_) (fun c9_ => ?_)
    refine pw_blk hT 1 (S' := (12, [some (pvR 0), some (pvI n1)], [pvI (-2)], M)) rfl ⟨trivial, trivial⟩ ?_
    exact pw_ret hT rfl (r := some (pvI (-2))) (M' := M) ⟨rfl, rfl⟩ ⟨⟨_, rfl, trivial⟩, hok, pvfr_0, (zwG_n (fun z => by have v := (zi_lt _ _).mp c7_; have w := z.1; have u0 : (0 : Int32).toInt = 0 := (by decide); have u99 : (99 : Int32).toInt = 99 := (by decide); have u9 : (9999 : Int32).toInt = 9999 := (by decide); omega)), (yWK_r M), ⟨rfl, Or.inl ⟨(fun z => by have v := (zi_lt _ _).mp c7_; have w := z.1; have u0 : (0 : Int32).toInt = 0 := (by decide); have u99 : (99 : Int32).toInt = 99 := (by decide); have u9 : (9999 : Int32).toInt = 9999 := (by decide); omega), rfl⟩⟩⟩
  · refine pw_eqI (if_neg c7_) ?_
    have b10_ : 0 ≤ Int32.toInt n1 ∧ Int32.toInt n1 ≤ 2147483647 := zr_nlt_l 0 c7_ (zbnd n1) (show 0 ≤ Int32.toInt 0 ∧ Int32.toInt 0 ≤ 0 from (by decide)) (by decide)
    by_cases c11_ : 99 < n1
    · refine pw_eqI (if_pos c11_) ?_
      have b12_ : 100 ≤ Int32.toInt n1 ∧ Int32.toInt n1 ≤ 2147483647 := zr_lt_r 100 c11_ b10_ (show 99 ≤ Int32.toInt 99 ∧ Int32.toInt 99 ≤ 99 from (by decide)) (by decide)
      show PW 192 d (7, [some (pvR 0), some (pvI n1)], [pvI 0], M) _
      refine pw_ifn hT (c := 0 = 0) rfl rfl (fun c13_ => absurd (by decide) c13_) (fun c13_ => ?_)
      refine pw_blk hT 1 (S' := (12, [some (pvR 0), some (pvI n1)], [pvI (-2)], M)) rfl ⟨trivial, trivial⟩ ?_
      exact pw_ret hT rfl (r := some (pvI (-2))) (M' := M) ⟨rfl, rfl⟩ ⟨⟨_, rfl, trivial⟩, hok, pvfr_0, (zwG_n (fun z => by have v := (zi_lt _ _).mp c11_; have w := z.1; have u0 : (0 : Int32).toInt = 0 := (by decide); have u99 : (99 : Int32).toInt = 99 := (by decide); have u9 : (9999 : Int32).toInt = 9999 := (by decide); omega)), (yWK_r M), ⟨rfl, Or.inl ⟨(fun z => by have v := (zi_lt _ _).mp c11_; have w := z.1; have u0 : (0 : Int32).toInt = 0 := (by decide); have u99 : (99 : Int32).toInt = 99 := (by decide); have u9 : (9999 : Int32).toInt = 9999 := (by decide); omega), rfl⟩⟩⟩
    · refine pw_eqI (if_neg c11_) ?_
      have b14_ : 0 ≤ Int32.toInt n1 ∧ Int32.toInt n1 ≤ 99 := zr_nlt_r 99 c11_ b10_ (show 99 ≤ Int32.toInt 99 ∧ Int32.toInt 99 ≤ 99 from (by decide)) (by decide)
      show PW 192 d (7, [some (pvR 0), some (pvI n1)], [pvI 1], M) _
      refine pw_ifn hT (c := 1 = 0) rfl rfl (fun c15_ => ?_) (fun c15_ => absurd c15_ (by decide))
      obtain ⟨q17_, b16_⟩ : (Int32.toInt ((M.1 8 4) + n1) = Int32.toInt (M.1 8 4) + Int32.toInt n1) ∧ (0 ≤ Int32.toInt ((M.1 8 4) + n1) ∧ Int32.toInt ((M.1 8 4) + n1) ≤ 10098) := zadd_r (M.1 8 4) n1 0 10098 b1_ b14_ (by decide) (by decide) (by decide) (by decide)
      refine pw_blk hT 6 (S' := (25, [some (pvR 0), some (pvI n1)], [pvI 9999, pvI ((M.1 8 4) + n1)], M)) rfl ⟨trivial, rfl, rfl, trivial, trivial, trivial, trivial⟩ ?_
      refine pw_ic hT (c := ((M.1 8 4) + n1) ≤ 9999) rfl rfl (fun c18_ => ?_) (fun c18_ => ?_)
      · have b19_ : 0 ≤ Int32.toInt ((M.1 8 4) + n1) ∧ Int32.toInt ((M.1 8 4) + n1) ≤ 9999 := zr_le_l 9999 c18_ b16_ (show 9999 ≤ Int32.toInt 9999 ∧ Int32.toInt 9999 ≤ 9999 from (by decide)) (by decide)
        refine pw_blk hT 2 (S' := (35, [some (pvR 0), some (pvI n1)], [pvR 5], M)) rfl ⟨trivial, rfl, trivial⟩ ?_
        refine pw_callVd hT (as := [pvR 5]) (lo1 := [some (pvR 5)]) (d1 := d) (rest := []) rfl rfl rfl rfl rfl (fun _ => rfl) (Nat.zero_le _) rfl rfl rfl (se_X1_beginFromNow_5 M hok d) (fun M22_ o24_ g25_ d20_ => ?_)
        have f26_ : pvFr fp_eX9_pass_0_x M M22_ := pvfr_t g25_ pvfr_0 fp_eX9_pass_0_x_fp_eX1_beginFromNow_5
        refine pw_blk hT 2 (S' := (40, [some (pvR 0), some (pvI n1)], [pvI n1, pvR 0], M22_)) rfl ⟨trivial, trivial, trivial⟩ ?_
        have e27_ : (M22_.1 8 4) = (M.1 8 4) := (g25_ 8 4 rfl)
        have b28_ : 0 ≤ Int32.toInt (M22_.1 8 4) ∧ Int32.toInt (M22_.1 8 4) ≤ 9999 := pvok_r o24_ 8 4 rfl
        have d29_ : Int32.toInt (M22_.1 8 4) = Int32.toInt (M.1 8 4) := congrArg Int32.toInt e27_
        refine pw_callGd hT (as := [pvR 0, pvI n1]) (lo1 := [some (pvR 0), some (pvI n1), none]) (d1 := d) (rest := []) rfl rfl rfl rfl rfl (fun _ => rfl) (Nat.zero_le _) rfl rfl rfl (se_X9_go_0_x M22_ o24_ n1 (zr_wide b14_ (by decide) (by decide)) (show Int32.toInt (M22_.1 8 4) + Int32.toInt n1 ≤ 9999 from (by omega)) d) (fun x31_ M32_ b33_ o34_ g35_ d30_ => ?_)
        have f36_ : pvFr fp_eX9_pass_0_x M M32_ := pvfr_t g35_ f26_ fp_eX9_pass_0_x_fp_eX9_go_0_x
        exact pw_ret hT rfl (r := some (pvI x31_)) (M' := M32_) ⟨rfl, rfl⟩ ⟨⟨_, rfl, trivial⟩, o34_, f36_, (zwG_i ⟨b14_, (show Int32.toInt (M.1 8 4) + Int32.toInt n1 ≤ 9999 from by have b := b19_; omega)⟩ (d30_.2.trans (show ((M22_.1 8 4) + n1) = ((M.1 8 4) + n1) from by rw [(g25_ 8 4 rfl)])) ((g35_ 8 6 rfl).trans (g25_ 8 6 rfl)) ((g35_ 8 7 rfl).trans (g25_ 8 7 rfl)) (fun i hi => ((zfr5 (L := fpL_eX9_go_0_x) g35_ (by decide +kernel) i hi).trans (zfr5 (L := fpL_eX1_beginFromNow_5) g25_ (by decide +kernel) i hi)))), (yWK_t o24_ (yWK_B d20_) (yWK_fr (L := fpL_eX9_go_0_x) g35_ (by decide +kernel))), ⟨((g35_ 9 5 rfl).trans (g25_ 9 5 rfl)), Or.inr ⟨⟨b14_, (show Int32.toInt (M.1 8 4) + Int32.toInt n1 ≤ 9999 from by have b := b19_; omega)⟩, (yPx9_i hok o24_ (by have u := b14_; omega) d20_ d30_.1)⟩⟩⟩
      · have b37_ : 10000 ≤ Int32.toInt ((M.1 8 4) + n1) ∧ Int32.toInt ((M.1 8 4) + n1) ≤ 10098 := zr_nle_l 10000 c18_ b16_ (show 9999 ≤ Int32.toInt 9999 ∧ Int32.toInt 9999 ≤ 9999 from (by decide)) (by decide)
        refine pw_blk hT 1 (S' := (30, [some (pvR 0), some (pvI n1)], [pvI (-3)], M)) rfl ⟨trivial, trivial⟩ ?_
        exact pw_ret hT rfl (r := some (pvI (-3))) (M' := M) ⟨rfl, rfl⟩ ⟨⟨_, rfl, trivial⟩, hok, pvfr_0, (zwG_n (fun z => by have w : Int32.toInt (M.1 8 4) + Int32.toInt n1 ≤ 9999 := z.2; have b := b37_; omega)), (yWK_r M), ⟨rfl, Or.inl ⟨(fun z => by have w : Int32.toInt (M.1 8 4) + Int32.toInt n1 ≤ 9999 := z.2; have b := b37_; omega), rfl⟩⟩⟩
def fpL_eX9_put_0_x_x : List (Nat × Nat × Nat) := [(1, 3, 6)]
def fp_eX9_put_0_x_x (q k : Nat) : Bool := pvfp fpL_eX9_put_0_x_x q k
set_option maxHeartbeats 4000000 in
set_option maxRecDepth 10000 in
theorem se_X9_put_0_x_x (M : pvM) (hok : pvOk M) (n1 : Int32) (n2 : Int32) (hn2 : 0 ≤ Int32.toInt n2 ∧ Int32.toInt n2 ≤ 1) (d : Nat) : PW 193 d (0, [some (pvR 0), some (pvI n1), some (pvI n2), none, none], [], M) (fun r X => (∃ x : Int32, r = some (pvI x) ∧ (-1) ≤ Int32.toInt x ∧ Int32.toInt x ≤ 1) ∧ pvOk X ∧ pvFr fp_eX9_put_0_x_x M X ∧ zPT9 n1 n2 r M X ∧ zKy9 9 74 M X) := by
  have hT : pvdom 193 = pvD_193 := rfl
  refine pw_blk hT 3 (S' := (5, [some (pvR 0), some (pvI n1), some (pvI n2), none, none], [pvI n1, pvR 8], M)) rfl ⟨trivial, rfl, trivial, trivial⟩ ?_
  refine pw_callT hT (as := [pvR 8, pvI n1]) (lo1 := [some (pvR 8), some (pvI n1)]) (d1 := d) (rest := []) rfl rfl rfl rfl rfl (fun _ => rfl) (Nat.zero_le _) rfl rfl rfl (sf_X7_has_8_x M hok n1 d) ?_
  by_cases c6_ : n1 < 0
  · refine pw_eqI (if_pos c6_) ?_
    have b7_ : (-2147483648) ≤ Int32.toInt n1 ∧ Int32.toInt n1 ≤ (-1) := zr_lt_l (-1) c6_ (zbnd n1) (show 0 ≤ Int32.toInt 0 ∧ Int32.toInt 0 ≤ 0 from (by decide)) (by decide)
    show PW 193 d (8, [some (pvR 0), some (pvI n1), some (pvI n2), none, none], [pvI 0], M) _
    refine pw_ifn hT (c := 0 = 0) rfl rfl (fun c8_ => absurd (by decide) c8_) (fun c8_ => ?_)
    refine pw_blk hT 1 (S' := (12, [some (pvR 0), some (pvI n1), some (pvI n2), none, none], [pvI (-1)], M)) rfl ⟨trivial, trivial⟩ ?_
    exact pw_ret hT rfl (r := some (pvI (-1))) (M' := M) ⟨rfl, rfl⟩ ⟨⟨_, rfl, (zr_wide (show (-1) ≤ Int32.toInt (-1) ∧ Int32.toInt (-1) ≤ (-1) from (by decide)) (by decide) (by decide))⟩, hok, pvfr_0, ⟨zwP_n (zvl_l c6_), zpA_0 (zvl_l c6_)⟩, (zKy9_r 9 74 M)⟩
  · refine pw_eqI (if_neg c6_) ?_
    have b9_ : 0 ≤ Int32.toInt n1 ∧ Int32.toInt n1 ≤ 2147483647 := zr_nlt_l 0 c6_ (zbnd n1) (show 0 ≤ Int32.toInt 0 ∧ Int32.toInt 0 ≤ 0 from (by decide)) (by decide)
    have b10_ : 0 ≤ Int32.toInt (M.1 8 1) ∧ Int32.toInt (M.1 8 1) ≤ 7 := pvok_r hok 8 1 rfl
    by_cases c11_ : (M.1 8 1) ≤ n1
    · refine pw_eqI (if_pos c11_) ?_
      have d12_ : Int32.toInt (M.1 8 1) ≤ Int32.toInt n1 := (zi_le _ _).mp c11_
      show PW 193 d (8, [some (pvR 0), some (pvI n1), some (pvI n2), none, none], [pvI 0], M) _
      refine pw_ifn hT (c := 0 = 0) rfl rfl (fun c13_ => absurd (by decide) c13_) (fun c13_ => ?_)
      refine pw_blk hT 1 (S' := (12, [some (pvR 0), some (pvI n1), some (pvI n2), none, none], [pvI (-1)], M)) rfl ⟨trivial, trivial⟩ ?_
      exact pw_ret hT rfl (r := some (pvI (-1))) (M' := M) ⟨rfl, rfl⟩ ⟨⟨_, rfl, (zr_wide (show (-1) ≤ Int32.toInt (-1) ∧ Int32.toInt (-1) ≤ (-1) from (by decide)) (by decide) (by decide))⟩, hok, pvfr_0, ⟨zwP_n (zvl_u c11_), zpA_0 (zvl_u c11_)⟩, (zKy9_r 9 74 M)⟩
    · refine pw_eqI (if_neg c11_) ?_
      have b14_ : 1 ≤ Int32.toInt (M.1 8 1) ∧ Int32.toInt (M.1 8 1) ≤ 7 := zr_nle_l 1 c11_ b10_ b9_ (by decide)
      have b15_ : 0 ≤ Int32.toInt n1 ∧ Int32.toInt n1 ≤ 6 := zr_nle_r 6 c11_ b9_ b14_ (by decide)
      have d16_ : Int32.toInt (M.1 8 1) > Int32.toInt n1 := Int.not_le.mp ((not_congr (zi_le _ _)).mp c11_)
      show PW 193 d (8, [some (pvR 0), some (pvI n1), some (pvI n2), none, none], [pvI 1], M) _
      refine pw_ifn hT (c := 1 = 0) rfl rfl (fun c17_ => ?_) (fun c17_ => absurd c17_ (by decide))
      refine pw_blkr hT 5 (pc := 22) (lo := [some (pvR 0), some (pvI n1), some (pvI n2), none, none]) (st := []) (M := M) (z := (pvbs 10 + Int32.toNatClampNeg n1)) rfl ⟨trivial, rfl, rfl, trivial, ⟨rfl, (zr_in (n := 7) b15_ (by decide) (by decide))⟩, trivial⟩ (fun q18_ e20_ => ?_)
      have k19_ : pvkl q18_ = 3 := pvel_10 (zr_in (n := 7) b15_ (by decide) (by decide)) e20_
      subst e20_
      have b21_ : 0 ≤ Int32.toInt (M.1 (pvbs 10 + Int32.toNatClampNeg n1) 5) ∧ Int32.toInt (M.1 (pvbs 10 + Int32.toNatClampNeg n1) 5) ≤ 1 := pvok_r hok (pvbs 10 + Int32.toNatClampNeg n1) 5 ((pvrg_o 5 k19_ (by decide) (by decide)).trans rfl)
      refine pw_blk hT 3 (S' := (27, [some (pvR 0), some (pvI n1), some (pvI n2), some (pvR (pvbs 10 + Int32.toNatClampNeg n1)), none], [pvI (M.1 (pvbs 10 + Int32.toNatClampNeg n1) 5)], M)) rfl ⟨trivial, trivial, k19_, trivial⟩ ?_
      refine pw_if hT (c := (M.1 (pvbs 10 + Int32.toNatClampNeg n1) 5) = 0) rfl rfl (fun c22_ => ?_) (fun c22_ => ?_)
      · have b23_ : 0 ≤ Int32.toInt (M.1 (pvbs 10 + Int32.toNatClampNeg n1) 5) ∧ Int32.toInt (M.1 (pvbs 10 + Int32.toNatClampNeg n1) 5) ≤ 0 := (by have u0 := b21_; have u1 := (zi_eq _ _).mp c22_; have u2 := (show 0 ≤ Int32.toInt 0 ∧ Int32.toInt 0 ≤ 0 from (by decide)); omega)
        refine pw_blkw hT 5 (pc := 42) (lo := [some (pvR 0), some (pvI n1), some (pvI n2), some (pvR (pvbs 10 + Int32.toNatClampNeg n1)), some (pvI 0)]) (st := []) (M := pvu M (pvbs 10 + Int32.toNatClampNeg n1) 5 n2) rfl ⟨trivial, trivial, trivial, trivial, ⟨k19_, pv01 hn2⟩, trivial⟩ (fun M24_ e25_ => ?_)
        have o26_ : pvOk M24_ := pvok_u2 e25_ hok ((pvrg_o 5 k19_ (by decide) (by decide)).trans rfl) hn2
        have f27_ : pvFr fp_eX9_put_0_x_x M M24_ := pvfr_u e25_ pvfr_0 (pvfp_r (l := fpL_eX9_put_0_x_x) (pvowr_3 k19_) (kk := 6) (by decide) (Or.inr rfl))
        refine pw_blk hT 1 (S' := (44, [some (pvR 0), some (pvI n1), some (pvI n2), some (pvR (pvbs 10 + Int32.toNatClampNeg n1)), some (pvI 0)], [pvI 0], M24_)) rfl ⟨trivial, trivial⟩ ?_
        exact pw_ret hT rfl (r := some (pvI 0)) (M' := M24_) ⟨rfl, rfl⟩ ⟨⟨_, rfl, (zr_wide (show 0 ≤ Int32.toInt 0 ∧ Int32.toInt 0 ≤ 0 from (by decide)) (by decide) (by decide))⟩, o26_, f27_, ⟨zwP_i (zvl_y c6_ c11_) (pvu_n e25_ 8 4 (Or.inl (fun z => absurd (z ▸ k19_) (by decide)))) (pvu_n e25_ 8 6 (Or.inl (fun z => absurd (z ▸ k19_) (by decide)))) (pvu_n e25_ 8 7 (Or.inl (fun z => absurd (z ▸ k19_) (by decide)))) (zVu5 e25_ (fun _ _ => rfl) (fun _ _ => rfl)), (zpA_1 (zvl_y c6_ c11_) c22_.symm)⟩, (zKy9_u e25_ (by have v : pvbs 10 = 60 := rfl; omega) (fun i hi => by have v : pvbs 10 = 60 := rfl; have w : Int32.toNatClampNeg n1 < 7 := (by have u := b15_; show n1.toInt.toNat < 7; omega); omega))⟩
      · have b28_ : 1 ≤ Int32.toInt (M.1 (pvbs 10 + Int32.toNatClampNeg n1) 5) ∧ Int32.toInt (M.1 (pvbs 10 + Int32.toNatClampNeg n1) 5) ≤ 1 := (by have u0 := b21_; have u1 := (not_congr (zi_eq _ _)).mp c22_; have u2 := (show 0 ≤ Int32.toInt 0 ∧ Int32.toInt 0 ≤ 0 from (by decide)); omega)
        refine pw_blkw hT 6 (pc := 42) (lo := [some (pvR 0), some (pvI n1), some (pvI n2), some (pvR (pvbs 10 + Int32.toNatClampNeg n1)), some (pvI 1)]) (st := []) (M := pvu M (pvbs 10 + Int32.toNatClampNeg n1) 5 n2) rfl ⟨trivial, trivial, trivial, trivial, trivial, ⟨k19_, pv01 hn2⟩, trivial⟩ (fun M29_ e30_ => ?_)
        have o31_ : pvOk M29_ := pvok_u2 e30_ hok ((pvrg_o 5 k19_ (by decide) (by decide)).trans rfl) hn2
        have f32_ : pvFr fp_eX9_put_0_x_x M M29_ := pvfr_u e30_ pvfr_0 (pvfp_r (l := fpL_eX9_put_0_x_x) (pvowr_3 k19_) (kk := 6) (by decide) (Or.inr rfl))
        refine pw_blk hT 1 (S' := (44, [some (pvR 0), some (pvI n1), some (pvI n2), some (pvR (pvbs 10 + Int32.toNatClampNeg n1)), some (pvI 1)], [pvI 1], M29_)) rfl ⟨trivial, trivial⟩ ?_
        exact pw_ret hT rfl (r := some (pvI 1)) (M' := M29_) ⟨rfl, rfl⟩ ⟨⟨_, rfl, (zr_wide (show 1 ≤ Int32.toInt 1 ∧ Int32.toInt 1 ≤ 1 from (by decide)) (by decide) (by decide))⟩, o31_, f32_, ⟨zwP_i (zvl_y c6_ c11_) (pvu_n e30_ 8 4 (Or.inl (fun z => absurd (z ▸ k19_) (by decide)))) (pvu_n e30_ 8 6 (Or.inl (fun z => absurd (z ▸ k19_) (by decide)))) (pvu_n e30_ 8 7 (Or.inl (fun z => absurd (z ▸ k19_) (by decide)))) (zVu5 e30_ (fun _ _ => rfl) (fun _ _ => rfl)), (zpA_1 (zvl_y c6_ c11_) (zone1 b28_))⟩, (zKy9_u e30_ (by have v : pvbs 10 = 60 := rfl; omega) (fun i hi => by have v : pvbs 10 = 60 := rfl; have w : Int32.toNatClampNeg n1 < 7 := (by have u := b15_; show n1.toInt.toNat < 7; omega); omega))⟩
set_option maxHeartbeats 4000000 in
set_option maxRecDepth 10000 in
theorem se_X1_shutInTime_5 (M : pvM) (hok : pvOk M) (d : Nat) : PW 118 d (0, [some (pvR 5), none, none], [], M) (fun r X => (∃ x : Int32, r = some (pvI x) ∧ True ∧ Int32.toInt x = yit (fun v => Int32.toInt (M.1 12 v)) (ypa M 108) (Int32.toInt (M.1 5 2)) (Int32.toNatClampNeg (M.1 100 0))) ∧ X = M) := by
  have hT : pvdom 118 = pvD_118 := rfl
  refine pw_blk hT 4 (S' := (4, [some (pvR 5), some (pvI 0), some (pvI 0)], [], M)) rfl ⟨trivial, trivial, trivial, trivial, trivial⟩ ?_
  have hlz60_ : ∀ (nz60_ : Nat) (i1z60_ : Int32) (i2z60_ : Int32), (0 ≤ Int32.toInt i2z60_ ∧ Int32.toInt i2z60_ ≤ 7) → (ySt M i1z60_ i2z60_) → (zhide ((8 - Int32.toInt i2z60_).toNat < nz60_)) → PW 118 d (4, [some (pvR 5), some (pvI i1z60_), some (pvI i2z60_)], [], M) (fun r X => (∃ x : Int32, r = some (pvI x) ∧ True ∧ Int32.toInt x = yit (fun v => Int32.toInt (M.1 12 v)) (ypa M 108) (Int32.toInt (M.1 5 2)) (Int32.toNatClampNeg (M.1 100 0))) ∧ X = M) := by
    intro nz60_
    induction nz60_ with
    | zero => intro i1z60_ i2z60_ h2z60_ j0z60_ hmz60_; exact absurd (zshow hmz60_) (Nat.not_lt_zero _)
    | succ nz60_ ihz60_ =>
      intro i1z60_ i2z60_ h2z60_ j0z60_ hmz60_
      have b61_ : 0 ≤ Int32.toInt (M.1 100 0) ∧ Int32.toInt (M.1 100 0) ≤ 7 := pvok_r hok 100 0 rfl
      refine pw_blk hT 5 (S' := (15, [some (pvR 5), some (pvI i1z60_), some (pvI i2z60_)], [pvI (M.1 100 0), pvI i2z60_], M)) rfl ⟨trivial, trivial, rfl, rfl, rfl, trivial⟩ ?_
      refine pw_ic hT (c := (M.1 100 0) ≤ i2z60_) rfl rfl (fun c62_ => ?_) (fun c62_ => ?_)
      · have d63_ : Int32.toInt (M.1 100 0) ≤ Int32.toInt i2z60_ := (zi_le _ _).mp c62_
        refine pw_blk hT 1 (S' := (52, [some (pvR 5), some (pvI i1z60_), some (pvI i2z60_)], [pvI i1z60_], M)) rfl ⟨trivial, trivial⟩ ?_
        exact pw_ret hT rfl (r := some (pvI i1z60_)) (M' := M) ⟨rfl, rfl⟩ ⟨⟨_, rfl, trivial, (ySt_e j0z60_ (by have u := h2z60_; omega) c62_)⟩, rfl⟩
      · have b64_ : 1 ≤ Int32.toInt (M.1 100 0) ∧ Int32.toInt (M.1 100 0) ≤ 7 := zr_nle_l 1 c62_ b61_ h2z60_ (by decide)
        have b65_ : 0 ≤ Int32.toInt i2z60_ ∧ Int32.toInt i2z60_ ≤ 6 := zr_nle_r 6 c62_ h2z60_ b64_ (by decide)
        have d66_ : Int32.toInt (M.1 100 0) > Int32.toInt i2z60_ := Int.not_le.mp ((not_congr (zi_le _ _)).mp c62_)
        have b67_ : 0 ≤ Int32.toInt (M.1 108 (Int32.toNatClampNeg i2z60_)) ∧ Int32.toInt (M.1 108 (Int32.toNatClampNeg i2z60_)) ≤ 6 := pvok_r hok 108 (Int32.toNatClampNeg i2z60_) rfl
        have b68_ : 0 ≤ Int32.toInt (M.1 12 (Int32.toNatClampNeg (M.1 108 (Int32.toNatClampNeg i2z60_)))) ∧ Int32.toInt (M.1 12 (Int32.toNatClampNeg (M.1 108 (Int32.toNatClampNeg i2z60_)))) ≤ 1000000 := pvok_r hok 12 (Int32.toNatClampNeg (M.1 108 (Int32.toNatClampNeg i2z60_))) rfl
        have b69_ : 0 ≤ Int32.toInt (M.1 5 2) ∧ Int32.toInt (M.1 5 2) ≤ 108 := pvok_r hok 5 2 rfl
        refine pw_blk hT 11 (S' := (39, [some (pvR 5), some (pvI i1z60_), some (pvI i2z60_)], [pvI (M.1 5 2), pvI (M.1 12 (Int32.toNatClampNeg (M.1 108 (Int32.toNatClampNeg i2z60_))))], M)) rfl ⟨trivial, rfl, trivial, rfl, rfl, rfl, trivial, ⟨rfl, (zr_in (n := 7) b65_ (by decide) (by decide))⟩, ⟨rfl, (zr_in (n := 7) b67_ (by decide) (by decide))⟩, trivial, rfl, trivial⟩ ?_
        refine pw_ic hT (c := (M.1 5 2) < (M.1 12 (Int32.toNatClampNeg (M.1 108 (Int32.toNatClampNeg i2z60_))))) rfl rfl (fun c70_ => ?_) (fun c70_ => ?_)
        · have b71_ : 1 ≤ Int32.toInt (M.1 12 (Int32.toNatClampNeg (M.1 108 (Int32.toNatClampNeg i2z60_)))) ∧ Int32.toInt (M.1 12 (Int32.toNatClampNeg (M.1 108 (Int32.toNatClampNeg i2z60_)))) ≤ 1000000 := zr_lt_r 1 c70_ b68_ b69_ (by decide)
          have d72_ : Int32.toInt (M.1 5 2) < Int32.toInt (M.1 12 (Int32.toNatClampNeg (M.1 108 (Int32.toNatClampNeg i2z60_)))) := (zi_lt _ _).mp c70_
          obtain ⟨q74_, b73_⟩ : (Int32.toInt (i2z60_ + 1) = Int32.toInt i2z60_ + 1) ∧ (1 ≤ Int32.toInt (i2z60_ + 1) ∧ Int32.toInt (i2z60_ + 1) ≤ 7) := zadd_k i2z60_ 1 1 1 7 b65_ (by decide) (by decide) (by decide) (by decide) (by decide)
          refine pw_blk hT 2 (S' := (4, [some (pvR 5), some (pvI i1z60_), some (pvI (i2z60_ + 1))], [], M)) rfl ⟨trivial, trivial, trivial⟩ ?_
          have j75_ : ySt M i1z60_ (i2z60_ + 1) := (ySt_s hok j0z60_ (by have u := b65_; omega) (by omega) (by omega) (Or.inr ⟨(Int32.not_le.mpr c70_), rfl⟩))
          exact ihz60_ i1z60_ (i2z60_ + 1) (zr_wide b73_ (by decide) (by decide)) j75_ (zhid (pvms_up (zshow hmz60_) h2z60_ q74_ (by decide) (by decide)))
        · have b76_ : 0 ≤ Int32.toInt (M.1 12 (Int32.toNatClampNeg (M.1 108 (Int32.toNatClampNeg i2z60_)))) ∧ Int32.toInt (M.1 12 (Int32.toNatClampNeg (M.1 108 (Int32.toNatClampNeg i2z60_)))) ≤ 108 := zr_nlt_r 108 c70_ b68_ b69_ (by decide)
          have d77_ : Int32.toInt (M.1 5 2) ≥ Int32.toInt (M.1 12 (Int32.toNatClampNeg (M.1 108 (Int32.toNatClampNeg i2z60_)))) := Int.not_lt.mp ((not_congr (zi_lt _ _)).mp c70_)
          obtain ⟨q79_, b78_⟩ : (Int32.toInt (i2z60_ + 1) = Int32.toInt i2z60_ + 1) ∧ (1 ≤ Int32.toInt (i2z60_ + 1) ∧ Int32.toInt (i2z60_ + 1) ≤ 7) := zadd_k i2z60_ 1 1 1 7 b65_ (by decide) (by decide) (by decide) (by decide) (by decide)
          refine pw_blk hT 3 (S' := (4, [some (pvR 5), some (pvI (i1z60_ + 1)), some (pvI (i2z60_ + 1))], [], M)) rfl ⟨trivial, trivial, trivial, trivial⟩ ?_
          have j80_ : ySt M (i1z60_ + 1) (i2z60_ + 1) := (ySt_s hok j0z60_ (by have u := b65_; omega) (by omega) (by omega) (Or.inl ⟨(Int32.not_lt.mp c70_), rfl⟩))
          exact ihz60_ (i1z60_ + 1) (i2z60_ + 1) (zr_wide b78_ (by decide) (by decide)) j80_ (zhid (pvms_up (zshow hmz60_) h2z60_ q79_ (by decide) (by decide)))
  have u81_ : Int32.toInt 0 = 0 := by decide
  have j82_ : ySt M 0 0 := (ySt_0 hok)
  exact hlz60_ _ 0 0 (zr_wide (show 0 ≤ Int32.toInt 0 ∧ Int32.toInt 0 ≤ 0 from (by decide)) (by decide) (by decide)) j82_ (zhid (Nat.lt_succ_self _))
def fpL_eX9_round_0_x : List (Nat × Nat × Nat) := [(0, 12, 0), (0, 13, 0), (0, 14, 0), (0, 5, 2), (0, 5, 3), (1, 112, 0)]
def fp_eX9_round_0_x (q k : Nat) : Bool := pvfp fpL_eX9_round_0_x q k
theorem fp_eX9_round_0_x_fp_eX1_beginFromNow_5 (a b : Nat) (h : fp_eX1_beginFromNow_5 a b = true) : fp_eX9_round_0_x a b = true := pvfp_sub (l1 := fpL_eX1_beginFromNow_5) (l2 := fpL_eX9_round_0_x) (by decide) a b h
theorem fp_eX9_round_0_x_fp_eX1_goRound_5_x (a b : Nat) (h : fp_eX1_goRound_5_x a b = true) : fp_eX9_round_0_x a b = true := pvfp_sub (l1 := fpL_eX1_goRound_5_x) (l2 := fpL_eX9_round_0_x) (by decide) a b h
set_option maxHeartbeats 4000000 in
set_option maxRecDepth 10000 in
theorem se_X9_round_0_x (M : pvM) (hok : pvOk M) (n1 : Int32) (d : Nat) : PW 195 d (0, [some (pvR 0), some (pvI n1), none], [], M) (fun r X => (∃ x : Int32, r = some (pvI x) ∧ True) ∧ pvOk X ∧ pvFr fp_eX9_round_0_x M X ∧ yAn (yGrd n1) r M X) := by
  have hT : pvdom 195 = pvD_195 := rfl
  refine pw_blk hT 3 (S' := (3, [some (pvR 0), some (pvI n1), none], [pvI 2, pvI 0, pvI n1], M)) rfl ⟨trivial, trivial, trivial, trivial⟩ ?_
  refine pw_callT hT (as := [pvI n1, pvI 0, pvI 2]) (lo1 := [some (pvI n1), some (pvI 0), some (pvI 2)]) (d1 := d) (rest := []) rfl rfl rfl rfl rfl (fun h => absurd h (by decide)) (Nat.zero_le _) rfl rfl rfl (sf_X9_within_x_x_x M hok n1 0 2 d) ?_
  by_cases c6_ : n1 < 0
  · refine pw_eqI (if_pos c6_) ?_
    have b7_ : (-2147483648) ≤ Int32.toInt n1 ∧ Int32.toInt n1 ≤ (-1) := zr_lt_l (-1) c6_ (zbnd n1) (show 0 ≤ Int32.toInt 0 ∧ Int32.toInt 0 ≤ 0 from (by decide)) (by decide)
    show PW 195 d (6, [some (pvR 0), some (pvI n1), none], [pvI 0], M) _
    refine pw_ifn hT (c := 0 = 0) rfl rfl (fun c8_ => absurd (by decide) c8_) (fun c8_ => ?_)
    refine pw_blk hT 1 (S' := (10, [some (pvR 0), some (pvI n1), none], [pvI (-1)], M)) rfl ⟨trivial, trivial⟩ ?_
    exact pw_ret hT rfl (r := some (pvI (-1))) (M' := M) ⟨rfl, rfl⟩ ⟨⟨_, rfl, trivial⟩, hok, pvfr_0, (yGrd_n (by have u := b7_; omega) (by decide))⟩
  · refine pw_eqI (if_neg c6_) ?_
    have b9_ : 0 ≤ Int32.toInt n1 ∧ Int32.toInt n1 ≤ 2147483647 := zr_nlt_l 0 c6_ (zbnd n1) (show 0 ≤ Int32.toInt 0 ∧ Int32.toInt 0 ≤ 0 from (by decide)) (by decide)
    by_cases c10_ : 2 < n1
    · refine pw_eqI (if_pos c10_) ?_
      have b11_ : 3 ≤ Int32.toInt n1 ∧ Int32.toInt n1 ≤ 2147483647 := zr_lt_r 3 c10_ b9_ (show 2 ≤ Int32.toInt 2 ∧ Int32.toInt 2 ≤ 2 from (by decide)) (by decide)
      show PW 195 d (6, [some (pvR 0), some (pvI n1), none], [pvI 0], M) _
      refine pw_ifn hT (c := 0 = 0) rfl rfl (fun c12_ => absurd (by decide) c12_) (fun c12_ => ?_)
      refine pw_blk hT 1 (S' := (10, [some (pvR 0), some (pvI n1), none], [pvI (-1)], M)) rfl ⟨trivial, trivial⟩ ?_
      exact pw_ret hT rfl (r := some (pvI (-1))) (M' := M) ⟨rfl, rfl⟩ ⟨⟨_, rfl, trivial⟩, hok, pvfr_0, (yGrd_n (by have u := b11_; omega) (by decide))⟩
    · refine pw_eqI (if_neg c10_) ?_
      have b13_ : 0 ≤ Int32.toInt n1 ∧ Int32.toInt n1 ≤ 2 := zr_nlt_r 2 c10_ b9_ (show 2 ≤ Int32.toInt 2 ∧ Int32.toInt 2 ≤ 2 from (by decide)) (by decide)
      show PW 195 d (6, [some (pvR 0), some (pvI n1), none], [pvI 1], M) _
      refine pw_ifn hT (c := 1 = 0) rfl rfl (fun c14_ => ?_) (fun c14_ => absurd c14_ (by decide))
      refine pw_blk hT 2 (S' := (15, [some (pvR 0), some (pvI n1), none], [pvR 5], M)) rfl ⟨trivial, rfl, trivial⟩ ?_
      refine pw_callVd hT (as := [pvR 5]) (lo1 := [some (pvR 5)]) (d1 := d) (rest := []) rfl rfl rfl rfl rfl (fun _ => rfl) (Nat.zero_le _) rfl rfl rfl (se_X1_beginFromNow_5 M hok d) (fun M17_ o19_ g20_ d15_ => ?_)
      have f21_ : pvFr fp_eX9_round_0_x M M17_ := pvfr_t g20_ pvfr_0 fp_eX9_round_0_x_fp_eX1_beginFromNow_5
      refine pw_blk hT 3 (S' := (23, [some (pvR 0), some (pvI n1), none], [pvI 0, pvR 5], M17_)) rfl ⟨trivial, rfl, trivial, trivial⟩ ?_
      refine pw_callGd hT (as := [pvR 5, pvI 0]) (lo1 := [some (pvR 5), some (pvI 0)]) (d1 := d) (rest := []) rfl rfl rfl rfl rfl (fun _ => rfl) (Nat.zero_le _) rfl rfl rfl (se_X1_goRound_5_x M17_ o19_ 0 (zr_wide (show 0 ≤ Int32.toInt 0 ∧ Int32.toInt 0 ≤ 0 from (by decide)) (by decide) (by decide)) d) (fun x23_ M24_ b25_ o26_ g27_ d22_ => ?_)
      have f28_ : pvFr fp_eX9_round_0_x M M24_ := pvfr_t g27_ f21_ fp_eX9_round_0_x_fp_eX1_goRound_5_x
      refine pw_blk hT 2 (S' := (28, [some (pvR 0), some (pvI n1), some (pvI x23_)], [pvI n1], M24_)) rfl ⟨trivial, trivial, trivial⟩ ?_
      refine pw_ifn hT (c := n1 = 0) rfl rfl (fun c29_ => ?_) (fun c29_ => ?_)
      · have b30_ : 1 ≤ Int32.toInt n1 ∧ Int32.toInt n1 ≤ 2 := (by have u0 := b13_; have u1 := (not_congr (zi_eq _ _)).mp c29_; have u2 := (show 0 ≤ Int32.toInt 0 ∧ Int32.toInt 0 ≤ 0 from (by decide)); omega)
        refine pw_blk hT 2 (S' := (41, [some (pvR 0), some (pvI n1), some (pvI x23_)], [pvI 1, pvI n1], M24_)) rfl ⟨trivial, trivial, trivial⟩ ?_
        refine pw_icn hT (c := n1 = 1) rfl rfl (fun c31_ => ?_) (fun c31_ => ?_)
        · have b32_ : 2 ≤ Int32.toInt n1 ∧ Int32.toInt n1 ≤ 2 := (by have u0 := b30_; have u1 := (not_congr (zi_eq _ _)).mp c31_; have u2 := (show 1 ≤ Int32.toInt 1 ∧ Int32.toInt 1 ≤ 1 from (by decide)); omega)
          refine pw_blk hT 2 (S' := (52, [some (pvR 0), some (pvI n1), some (pvI x23_)], [pvR 5], M24_)) rfl ⟨trivial, rfl, trivial⟩ ?_
          refine pw_callGp hT (as := [pvR 5]) (lo1 := [some (pvR 5), none, none]) (d1 := d) (rest := []) rfl rfl rfl rfl rfl (fun _ => rfl) (Nat.zero_le _) rfl rfl rfl (se_X1_shutInTime_5 M24_ o26_ d) (fun x33_ b35_ => ?_)
          obtain ⟨b38_, d39_⟩ := b35_
          exact pw_ret hT rfl (r := some (pvI x33_)) (M' := M24_) ⟨rfl, rfl⟩ ⟨⟨_, rfl, trivial⟩, o26_, f28_, (yGrd_2 hok (yRn9_i hok o19_ d15_ d22_) (by have u := b32_; omega) (by have u := b32_; omega) (by have u := b32_; omega) d39_)⟩
        · have b40_ : 1 ≤ Int32.toInt n1 ∧ Int32.toInt n1 ≤ 1 := (by have u0 := b30_; have u1 := (zi_eq _ _).mp c31_; have u2 := (show 1 ≤ Int32.toInt 1 ∧ Int32.toInt 1 ≤ 1 from (by decide)); omega)
          refine pw_blk hT 2 (S' := (55, [some (pvR 0), some (pvI n1), some (pvI x23_)], [pvI x23_], M24_)) rfl ⟨trivial, trivial, trivial⟩ ?_
          exact pw_ret hT rfl (r := some (pvI x23_)) (M' := M24_) ⟨rfl, rfl⟩ ⟨⟨_, rfl, trivial⟩, o26_, f28_, (yGrd_1 (yRn9_i hok o19_ d15_ d22_) (by have u := b40_; omega) (by have u := b40_; omega))⟩
      · have b41_ : 0 ≤ Int32.toInt n1 ∧ Int32.toInt n1 ≤ 0 := (by have u0 := b13_; have u1 := (zi_eq _ _).mp c29_; have u2 := (show 0 ≤ Int32.toInt 0 ∧ Int32.toInt 0 ≤ 0 from (by decide)); omega)
        refine pw_blk hT 2 (S' := (35, [some (pvR 0), some (pvI n1), some (pvI x23_)], [pvR 5], M24_)) rfl ⟨trivial, rfl, trivial⟩ ?_
        refine pw_callGp hT (as := [pvR 5]) (lo1 := [some (pvR 5)]) (d1 := d) (rest := []) rfl rfl rfl rfl rfl (fun _ => rfl) (Nat.zero_le _) rfl rfl rfl (se_X1_cost_5 M24_ o26_ d) (fun x42_ b44_ => ?_)
        obtain ⟨b47_, d48_⟩ := b44_
        exact pw_ret hT rfl (r := some (pvI x42_)) (M' := M24_) ⟨rfl, rfl⟩ ⟨⟨_, rfl, trivial⟩, o26_, f28_, (yGrd_0 hok o26_ (yRn9_i hok o19_ d15_ d22_) (by have u := b41_; omega) (by have u := b41_; omega) d48_)⟩
def fpL_eX9_row_0_x_x_x : List (Nat × Nat × Nat) := [(1, 113, 0)]
def fp_eX9_row_0_x_x_x (q k : Nat) : Bool := pvfp fpL_eX9_row_0_x_x_x q k
set_option maxHeartbeats 4000000 in
set_option maxRecDepth 10000 in
theorem se_X9_row_0_x_x_x (M : pvM) (hok : pvOk M) (n1 : Int32) (n2 : Int32) (n3 : Int32) (d : Nat) : PW 196 d (0, [some (pvR 0), some (pvI n1), some (pvI n2), some (pvI n3), none, none], [], M) (fun r X => (∃ x : Int32, r = some (pvI x) ∧ ((-3) ≤ Int32.toInt x ∧ Int32.toInt x ≤ 9) ∧ x = (if n1 < 0 then (-1) else (if (M.1 8 1) ≤ n1 then (-1) else (if n2 < 0 then (-1) else (if 3 < n2 then (-1) else (if n3 < 0 then (-2) else (if 9 < n3 then (-2) else (if (M.1 (pvbs 10 + Int32.toNatClampNeg n1) 0) = 6 then (M.1 ((pvbs 10 + Int32.toNatClampNeg n1) + 7) (Int32.toNatClampNeg n2)) else (-3))))))))) ∧ pvOk X ∧ pvFr fp_eX9_row_0_x_x_x M X ∧ zV9 n1 n2 n3 r M X ∧ zKc 74 M X) := by
  have hT : pvdom 196 = pvD_196 := rfl
  refine pw_blk hT 3 (S' := (5, [some (pvR 0), some (pvI n1), some (pvI n2), some (pvI n3), none, none], [pvI n1, pvR 8], M)) rfl ⟨trivial, rfl, trivial, trivial⟩ ?_
  refine pw_callT hT (as := [pvR 8, pvI n1]) (lo1 := [some (pvR 8), some (pvI n1)]) (d1 := d) (rest := []) rfl rfl rfl rfl rfl (fun _ => rfl) (Nat.zero_le _) rfl rfl rfl (sf_X7_has_8_x M hok n1 d) ?_
  by_cases c6_ : n1 < 0
  · refine pw_eqI (if_pos c6_) ?_
    have b7_ : (-2147483648) ≤ Int32.toInt n1 ∧ Int32.toInt n1 ≤ (-1) := zr_lt_l (-1) c6_ (zbnd n1) (show 0 ≤ Int32.toInt 0 ∧ Int32.toInt 0 ≤ 0 from (by decide)) (by decide)
    show PW 196 d (8, [some (pvR 0), some (pvI n1), some (pvI n2), some (pvI n3), none, none], [pvI 0], M) _
    refine pw_if hT (c := 0 = 0) rfl rfl (fun c8_ => ?_) (fun c8_ => absurd (by decide) c8_)
    refine pw_blk hT 1 (S' := (21, [some (pvR 0), some (pvI n1), some (pvI n2), some (pvI n3), none, none], [pvI (-1)], M)) rfl ⟨trivial, trivial⟩ ?_
    exact pw_ret hT rfl (r := some (pvI (-1))) (M' := M) ⟨rfl, rfl⟩ ⟨⟨_, rfl, (zr_wide (show (-1) ≤ Int32.toInt (-1) ∧ Int32.toInt (-1) ≤ (-1) from (by decide)) (by decide) (by decide)), (by rw [if_pos c6_]; first | done | (rw [if_pos c6_]; done))⟩, hok, pvfr_0, ⟨_, rfl, Or.inl ⟨by decide, zKc_r 60 M⟩⟩, (zKc_r 74 M)⟩
  · refine pw_eqI (if_neg c6_) ?_
    have b9_ : 0 ≤ Int32.toInt n1 ∧ Int32.toInt n1 ≤ 2147483647 := zr_nlt_l 0 c6_ (zbnd n1) (show 0 ≤ Int32.toInt 0 ∧ Int32.toInt 0 ≤ 0 from (by decide)) (by decide)
    have b10_ : 0 ≤ Int32.toInt (M.1 8 1) ∧ Int32.toInt (M.1 8 1) ≤ 7 := pvok_r hok 8 1 rfl
    by_cases c11_ : (M.1 8 1) ≤ n1
    · refine pw_eqI (if_pos c11_) ?_
      have d12_ : Int32.toInt (M.1 8 1) ≤ Int32.toInt n1 := (zi_le _ _).mp c11_
      show PW 196 d (8, [some (pvR 0), some (pvI n1), some (pvI n2), some (pvI n3), none, none], [pvI 0], M) _
      refine pw_if hT (c := 0 = 0) rfl rfl (fun c13_ => ?_) (fun c13_ => absurd (by decide) c13_)
      refine pw_blk hT 1 (S' := (21, [some (pvR 0), some (pvI n1), some (pvI n2), some (pvI n3), none, none], [pvI (-1)], M)) rfl ⟨trivial, trivial⟩ ?_
      exact pw_ret hT rfl (r := some (pvI (-1))) (M' := M) ⟨rfl, rfl⟩ ⟨⟨_, rfl, (zr_wide (show (-1) ≤ Int32.toInt (-1) ∧ Int32.toInt (-1) ≤ (-1) from (by decide)) (by decide) (by decide)), (by rw [if_neg c6_, if_pos c11_]; first | done | (rw [if_pos c11_]; done))⟩, hok, pvfr_0, ⟨_, rfl, Or.inl ⟨by decide, zKc_r 60 M⟩⟩, (zKc_r 74 M)⟩
    · refine pw_eqI (if_neg c11_) ?_
      have b14_ : 1 ≤ Int32.toInt (M.1 8 1) ∧ Int32.toInt (M.1 8 1) ≤ 7 := zr_nle_l 1 c11_ b10_ b9_ (by decide)
      have b15_ : 0 ≤ Int32.toInt n1 ∧ Int32.toInt n1 ≤ 6 := zr_nle_r 6 c11_ b9_ b14_ (by decide)
      have d16_ : Int32.toInt (M.1 8 1) > Int32.toInt n1 := Int.not_le.mp ((not_congr (zi_le _ _)).mp c11_)
      show PW 196 d (8, [some (pvR 0), some (pvI n1), some (pvI n2), some (pvI n3), none, none], [pvI 1], M) _
      refine pw_if hT (c := 1 = 0) rfl rfl (fun c17_ => absurd c17_ (by decide)) (fun c17_ => ?_)
      refine pw_blk hT 3 (S' := (14, [some (pvR 0), some (pvI n1), some (pvI n2), some (pvI n3), none, none], [pvI 3, pvI 0, pvI n2], M)) rfl ⟨trivial, trivial, trivial, trivial⟩ ?_
      refine pw_callT hT (as := [pvI n2, pvI 0, pvI 3]) (lo1 := [some (pvI n2), some (pvI 0), some (pvI 3)]) (d1 := d) (rest := []) rfl rfl rfl rfl rfl (fun h => absurd h (by decide)) (Nat.zero_le _) rfl rfl rfl (sf_X9_within_x_x_x M hok n2 0 3 d) ?_
      by_cases c23_ : n2 < 0
      · refine pw_eqI (if_pos c23_) ?_
        have b24_ : (-2147483648) ≤ Int32.toInt n2 ∧ Int32.toInt n2 ≤ (-1) := zr_lt_l (-1) c23_ (zbnd n2) (show 0 ≤ Int32.toInt 0 ∧ Int32.toInt 0 ≤ 0 from (by decide)) (by decide)
        show PW 196 d (17, [some (pvR 0), some (pvI n1), some (pvI n2), some (pvI n3), none, none], [pvI 0], M) _
        refine pw_ifn hT (c := 0 = 0) rfl rfl (fun c25_ => absurd (by decide) c25_) (fun c25_ => ?_)
        refine pw_blk hT 1 (S' := (21, [some (pvR 0), some (pvI n1), some (pvI n2), some (pvI n3), none, none], [pvI (-1)], M)) rfl ⟨trivial, trivial⟩ ?_
        exact pw_ret hT rfl (r := some (pvI (-1))) (M' := M) ⟨rfl, rfl⟩ ⟨⟨_, rfl, (zr_wide (show (-1) ≤ Int32.toInt (-1) ∧ Int32.toInt (-1) ≤ (-1) from (by decide)) (by decide) (by decide)), (by rw [if_neg c6_, if_neg c11_, if_pos c23_]; first | done | (rw [if_pos c23_]; done))⟩, hok, pvfr_0, ⟨_, rfl, Or.inl ⟨by decide, zKc_r 60 M⟩⟩, (zKc_r 74 M)⟩
      · refine pw_eqI (if_neg c23_) ?_
        have b26_ : 0 ≤ Int32.toInt n2 ∧ Int32.toInt n2 ≤ 2147483647 := zr_nlt_l 0 c23_ (zbnd n2) (show 0 ≤ Int32.toInt 0 ∧ Int32.toInt 0 ≤ 0 from (by decide)) (by decide)
        by_cases c27_ : 3 < n2
        · refine pw_eqI (if_pos c27_) ?_
          have b28_ : 4 ≤ Int32.toInt n2 ∧ Int32.toInt n2 ≤ 2147483647 := zr_lt_r 4 c27_ b26_ (show 3 ≤ Int32.toInt 3 ∧ Int32.toInt 3 ≤ 3 from (by decide)) (by decide)
          show PW 196 d (17, [some (pvR 0), some (pvI n1), some (pvI n2), some (pvI n3), none, none], [pvI 0], M) _
          refine pw_ifn hT (c := 0 = 0) rfl rfl (fun c29_ => absurd (by decide) c29_) (fun c29_ => ?_)
          refine pw_blk hT 1 (S' := (21, [some (pvR 0), some (pvI n1), some (pvI n2), some (pvI n3), none, none], [pvI (-1)], M)) rfl ⟨trivial, trivial⟩ ?_
          exact pw_ret hT rfl (r := some (pvI (-1))) (M' := M) ⟨rfl, rfl⟩ ⟨⟨_, rfl, (zr_wide (show (-1) ≤ Int32.toInt (-1) ∧ Int32.toInt (-1) ≤ (-1) from (by decide)) (by decide) (by decide)), (by rw [if_neg c6_, if_neg c11_, if_neg c23_, if_pos c27_]; first | done | (rw [if_pos c27_]; done))⟩, hok, pvfr_0, ⟨_, rfl, Or.inl ⟨by decide, zKc_r 60 M⟩⟩, (zKc_r 74 M)⟩
        · refine pw_eqI (if_neg c27_) ?_
          have b30_ : 0 ≤ Int32.toInt n2 ∧ Int32.toInt n2 ≤ 3 := zr_nlt_r 3 c27_ b26_ (show 3 ≤ Int32.toInt 3 ∧ Int32.toInt 3 ≤ 3 from (by decide)) (by decide)
          show PW 196 d (17, [some (pvR 0), some (pvI n1), some (pvI n2), some (pvI n3), none, none], [pvI 1], M) _
          refine pw_ifn hT (c := 1 = 0) rfl rfl (fun c31_ => ?_) (fun c31_ => absurd c31_ (by decide))
          refine pw_blk hT 3 (S' := (26, [some (pvR 0), some (pvI n1), some (pvI n2), some (pvI n3), none, none], [pvI 9, pvI 0, pvI n3], M)) rfl ⟨trivial, trivial, trivial, trivial⟩ ?_
          refine pw_callT hT (as := [pvI n3, pvI 0, pvI 9]) (lo1 := [some (pvI n3), some (pvI 0), some (pvI 9)]) (d1 := d) (rest := []) rfl rfl rfl rfl rfl (fun h => absurd h (by decide)) (Nat.zero_le _) rfl rfl rfl (sf_X9_within_x_x_x M hok n3 0 9 d) ?_
          by_cases c37_ : n3 < 0
          · refine pw_eqI (if_pos c37_) ?_
            have b38_ : (-2147483648) ≤ Int32.toInt n3 ∧ Int32.toInt n3 ≤ (-1) := zr_lt_l (-1) c37_ (zbnd n3) (show 0 ≤ Int32.toInt 0 ∧ Int32.toInt 0 ≤ 0 from (by decide)) (by decide)
            show PW 196 d (29, [some (pvR 0), some (pvI n1), some (pvI n2), some (pvI n3), none, none], [pvI 0], M) _
            refine pw_ifn hT (c := 0 = 0) rfl rfl (fun c39_ => absurd (by decide) c39_) (fun c39_ => ?_)
            refine pw_blk hT 1 (S' := (34, [some (pvR 0), some (pvI n1), some (pvI n2), some (pvI n3), none, none], [pvI (-2)], M)) rfl ⟨trivial, trivial⟩ ?_
            exact pw_ret hT rfl (r := some (pvI (-2))) (M' := M) ⟨rfl, rfl⟩ ⟨⟨_, rfl, (zr_wide (show (-2) ≤ Int32.toInt (-2) ∧ Int32.toInt (-2) ≤ (-2) from (by decide)) (by decide) (by decide)), (by rw [if_neg c6_, if_neg c11_, if_neg c23_, if_neg c27_, if_pos c37_]; first | done | (rw [if_pos c37_]; done))⟩, hok, pvfr_0, ⟨_, rfl, Or.inl ⟨by decide, zKc_r 60 M⟩⟩, (zKc_r 74 M)⟩
          · refine pw_eqI (if_neg c37_) ?_
            have b40_ : 0 ≤ Int32.toInt n3 ∧ Int32.toInt n3 ≤ 2147483647 := zr_nlt_l 0 c37_ (zbnd n3) (show 0 ≤ Int32.toInt 0 ∧ Int32.toInt 0 ≤ 0 from (by decide)) (by decide)
            by_cases c41_ : 9 < n3
            · refine pw_eqI (if_pos c41_) ?_
              have b42_ : 10 ≤ Int32.toInt n3 ∧ Int32.toInt n3 ≤ 2147483647 := zr_lt_r 10 c41_ b40_ (show 9 ≤ Int32.toInt 9 ∧ Int32.toInt 9 ≤ 9 from (by decide)) (by decide)
              show PW 196 d (29, [some (pvR 0), some (pvI n1), some (pvI n2), some (pvI n3), none, none], [pvI 0], M) _
              refine pw_ifn hT (c := 0 = 0) rfl rfl (fun c43_ => absurd (by decide) c43_) (fun c43_ => ?_)
              refine pw_blk hT 1 (S' := (34, [some (pvR 0), some (pvI n1), some (pvI n2), some (pvI n3), none, none], [pvI (-2)], M)) rfl ⟨trivial, trivial⟩ ?_
              exact pw_ret hT rfl (r := some (pvI (-2))) (M' := M) ⟨rfl, rfl⟩ ⟨⟨_, rfl, (zr_wide (show (-2) ≤ Int32.toInt (-2) ∧ Int32.toInt (-2) ≤ (-2) from (by decide)) (by decide) (by decide)), (by rw [if_neg c6_, if_neg c11_, if_neg c23_, if_neg c27_, if_neg c37_, if_pos c41_]; first | done | (rw [if_pos c41_]; done))⟩, hok, pvfr_0, ⟨_, rfl, Or.inl ⟨by decide, zKc_r 60 M⟩⟩, (zKc_r 74 M)⟩
            · refine pw_eqI (if_neg c41_) ?_
              have b44_ : 0 ≤ Int32.toInt n3 ∧ Int32.toInt n3 ≤ 9 := zr_nlt_r 9 c41_ b40_ (show 9 ≤ Int32.toInt 9 ∧ Int32.toInt 9 ≤ 9 from (by decide)) (by decide)
              show PW 196 d (29, [some (pvR 0), some (pvI n1), some (pvI n2), some (pvI n3), none, none], [pvI 1], M) _
              refine pw_ifn hT (c := 1 = 0) rfl rfl (fun c45_ => ?_) (fun c45_ => absurd c45_ (by decide))
              refine pw_blkr hT 5 (pc := 44) (lo := [some (pvR 0), some (pvI n1), some (pvI n2), some (pvI n3), none, none]) (st := []) (M := M) (z := (pvbs 10 + Int32.toNatClampNeg n1)) rfl ⟨trivial, rfl, rfl, trivial, ⟨rfl, (zr_in (n := 7) b15_ (by decide) (by decide))⟩, trivial⟩ (fun q46_ e48_ => ?_)
              have k47_ : pvkl q46_ = 3 := pvel_10 (zr_in (n := 7) b15_ (by decide) (by decide)) e48_
              subst e48_
              have b49_ : 0 ≤ Int32.toInt (M.1 (pvbs 10 + Int32.toNatClampNeg n1) 0) ∧ Int32.toInt (M.1 (pvbs 10 + Int32.toNatClampNeg n1) 0) ≤ 6 := pvok_r hok (pvbs 10 + Int32.toNatClampNeg n1) 0 ((pvrg_o 0 k47_ (by decide) (by decide)).trans rfl)
              refine pw_blk hT 4 (S' := (53, [some (pvR 0), some (pvI n1), some (pvI n2), some (pvI n3), some (pvR (pvbs 10 + Int32.toNatClampNeg n1)), none], [pvI 6, pvI (M.1 (pvbs 10 + Int32.toNatClampNeg n1) 0)], M)) rfl ⟨trivial, trivial, k47_, trivial, trivial⟩ ?_
              refine pw_ic hT (c := (M.1 (pvbs 10 + Int32.toNatClampNeg n1) 0) = 6) rfl rfl (fun c50_ => ?_) (fun c50_ => ?_)
              · have b51_ : 6 ≤ Int32.toInt (M.1 (pvbs 10 + Int32.toNatClampNeg n1) 0) ∧ Int32.toInt (M.1 (pvbs 10 + Int32.toNatClampNeg n1) 0) ≤ 6 := (by have u0 := b49_; have u1 := (zi_eq _ _).mp c50_; have u2 := (show 6 ≤ Int32.toInt 6 ∧ Int32.toInt 6 ≤ 6 from (by decide)); omega)
                have b52_ : 0 ≤ Int32.toInt (M.1 ((pvbs 10 + Int32.toNatClampNeg n1) + 7) (Int32.toNatClampNeg n2)) ∧ Int32.toInt (M.1 ((pvbs 10 + Int32.toNatClampNeg n1) + 7) (Int32.toNatClampNeg n2)) ≤ 9 := pvok_r hok ((pvbs 10 + Int32.toNatClampNeg n1) + 7) (Int32.toNatClampNeg n2) ((pvrg_a _ (by rw [(pvow_3_7 k47_).1]; decide)).trans (pvow_3_7 k47_).2.2.2)
                refine pw_blkw hT 10 (pc := 76) (lo := [some (pvR 0), some (pvI n1), some (pvI n2), some (pvI n3), some (pvR (pvbs 10 + Int32.toNatClampNeg n1)), some (pvI (M.1 ((pvbs 10 + Int32.toNatClampNeg n1) + 7) (Int32.toNatClampNeg n2)))]) (st := []) (M := pvu M ((pvbs 10 + Int32.toNatClampNeg n1) + 7) (Int32.toNatClampNeg n2) n3) rfl ⟨trivial, k47_, trivial, ⟨(pvow_3_7 k47_).1, (by rw [(pvow_3_7 k47_).2.1]; exact (zr_in (n := 4) b30_ (by decide) (by decide)))⟩, trivial, trivial, k47_, trivial, trivial, ⟨(pvow_3_7 k47_).1, (by rw [(pvow_3_7 k47_).2.1]; exact (zr_in (n := 4) b30_ (by decide) (by decide)))⟩, trivial⟩ (fun M53_ e54_ => ?_)
                have o55_ : pvOk M53_ := pvok_u2 e54_ hok ((pvrg_a _ (by rw [(pvow_3_7 k47_).1]; decide)).trans (pvow_3_7 k47_).2.2.2) b44_
                have f56_ : pvFr fp_eX9_row_0_x_x_x M M53_ := pvfr_u e54_ pvfr_0 (pvfp_r (l := fpL_eX9_row_0_x_x_x) (pvow_3_7 k47_).2.2.1 (kk := 0) (by decide) (Or.inl rfl))
                refine pw_blk hT 1 (S' := (78, [some (pvR 0), some (pvI n1), some (pvI n2), some (pvI n3), some (pvR (pvbs 10 + Int32.toNatClampNeg n1)), some (pvI (M.1 ((pvbs 10 + Int32.toNatClampNeg n1) + 7) (Int32.toNatClampNeg n2)))], [pvI (M.1 ((pvbs 10 + Int32.toNatClampNeg n1) + 7) (Int32.toNatClampNeg n2))], M53_)) rfl ⟨trivial, trivial⟩ ?_
                exact pw_ret hT rfl (r := some (pvI (M.1 ((pvbs 10 + Int32.toNatClampNeg n1) + 7) (Int32.toNatClampNeg n2)))) (M' := M53_) ⟨rfl, rfl⟩ ⟨⟨_, rfl, (zr_wide b52_ (by decide) (by decide)), (by rw [if_neg c6_, if_neg c11_, if_neg c23_, if_neg c27_, if_neg c37_, if_neg c41_, if_pos c50_]; first | done | (rw [if_pos c50_]; done))⟩, o55_, f56_, ⟨_, rfl, Or.inr ⟨(b52_).1, fun i hi => ⟨fun f hf => pvu_n e54_ (60 + i) f (Or.inl (by have u : pvbs 10 = 60 := rfl; omega)), fun j hj => zrow9 rfl e54_ i j⟩⟩⟩, (fun i hi => ⟨fun f hf => pvu_n e54_ (74 + i) f (Or.inl (by have u : pvbs 10 = 60 := rfl; have w : Int32.toNatClampNeg n1 ≤ 6 := (by have u0 := b15_; show n1.toInt.toNat ≤ 6; omega); omega)), fun j hj => pvu_n e54_ (74 + 7 + i) j (Or.inl (by have u : pvbs 10 = 60 := rfl; have w : Int32.toNatClampNeg n1 ≤ 6 := (by have u0 := b15_; show n1.toInt.toNat ≤ 6; omega); omega))⟩)⟩
              · have b57_ : 0 ≤ Int32.toInt (M.1 (pvbs 10 + Int32.toNatClampNeg n1) 0) ∧ Int32.toInt (M.1 (pvbs 10 + Int32.toNatClampNeg n1) 0) ≤ 5 := (by have u0 := b49_; have u1 := (not_congr (zi_eq _ _)).mp c50_; have u2 := (show 6 ≤ Int32.toInt 6 ∧ Int32.toInt 6 ≤ 6 from (by decide)); omega)
                refine pw_blk hT 1 (S' := (58, [some (pvR 0), some (pvI n1), some (pvI n2), some (pvI n3), some (pvR (pvbs 10 + Int32.toNatClampNeg n1)), none], [pvI (-3)], M)) rfl ⟨trivial, trivial⟩ ?_
                exact pw_ret hT rfl (r := some (pvI (-3))) (M' := M) ⟨rfl, rfl⟩ ⟨⟨_, rfl, (zr_wide (show (-3) ≤ Int32.toInt (-3) ∧ Int32.toInt (-3) ≤ (-3) from (by decide)) (by decide) (by decide)), (by rw [if_neg c6_, if_neg c11_, if_neg c23_, if_neg c27_, if_neg c37_, if_neg c41_, if_neg c50_]; first | done | (rw [if_neg c50_]; done))⟩, hok, pvfr_0, ⟨_, rfl, Or.inl ⟨by decide, zKc_r 60 M⟩⟩, (zKc_r 74 M)⟩
def fpL_eX6_append_102_x_x : List (Nat × Nat × Nat) := [(0, 102, 1), (0, 110, 0), (0, 118, 0)]
def fp_eX6_append_102_x_x (q k : Nat) : Bool := pvfp fpL_eX6_append_102_x_x q k
set_option maxHeartbeats 4000000 in
set_option maxRecDepth 10000 in
theorem se_X6_append_102_x_x (M : pvM) (hok : pvOk M) (n1 : Int32) (n2 : Int32) (hn1 : 0 ≤ Int32.toInt n1 ∧ Int32.toInt n1 ≤ 6) (hn2 : 0 ≤ Int32.toInt n2 ∧ Int32.toInt n2 ≤ 9999) (d : Nat) : PW 151 d (0, [some (pvR 102), some (pvI n1), some (pvI n2)], [], M) (fun r X => (∃ x : Int32, r = some (pvI x) ∧ (1 ≤ Int32.toInt x ∧ Int32.toInt x ≤ 6) ∧ x = (if (M.1 102 0) < (Int32.ofNat 6) then ((M.1 102 0) + 1) else (M.1 102 0))) ∧ pvOk X ∧ pvFr fp_eX6_append_102_x_x M X ∧ zAp 102 110 118 6 n1 n2 M X ∧ X.1 102 0 = (if (M.1 102 0) < (Int32.ofNat 6) then ((M.1 102 0) + 1) else (M.1 102 0))) := by
  have hT : pvdom 151 = pvD_151 := rfl
  refine pw_blk hT 1 (S' := (1, [some (pvR 102), some (pvI n1), some (pvI n2)], [pvR 102], M)) rfl ⟨trivial, trivial⟩ ?_
  refine pw_callT hT (as := [pvR 102]) (lo1 := [some (pvR 102)]) (d1 := d) (rest := []) rfl rfl rfl rfl rfl (fun _ => rfl) (Nat.zero_le _) rfl rfl rfl (sf_X6_isFull_102 M hok d) ?_
  have b6_ : 0 ≤ Int32.toInt (M.1 102 0) ∧ Int32.toInt (M.1 102 0) ≤ 6 := pvok_r hok 102 0 rfl
  by_cases c7_ : (M.1 102 0) < (Int32.ofNat 6)
  · refine pw_eqI (if_pos c7_) ?_
    have b8_ : 0 ≤ Int32.toInt (M.1 102 0) ∧ Int32.toInt (M.1 102 0) ≤ 5 := zr_lt_l 5 c7_ b6_ (show 6 ≤ Int32.toInt (Int32.ofNat 6) ∧ Int32.toInt (Int32.ofNat 6) ≤ 6 from (by decide)) (by decide)
    show PW 151 d (4, [some (pvR 102), some (pvI n1), some (pvI n2)], [pvI 0], M) _
    refine pw_if hT (c := 0 = 0) rfl rfl (fun c9_ => ?_) (fun c9_ => absurd (by decide) c9_)
    refine pw_blkw hT 6 (pc := 22) (lo := [some (pvR 102), some (pvI n1), some (pvI n2)]) (st := []) (M := pvu M 110 (Int32.toNatClampNeg (M.1 102 0)) n1) rfl ⟨trivial, rfl, trivial, rfl, trivial, ⟨rfl, (zr_in (n := 6) b8_ (by decide) (by decide))⟩, trivial⟩ (fun M10_ e11_ => ?_)
    have o12_ : pvOk M10_ := pvok_u2 e11_ hok rfl hn1
    have f13_ : pvFr fp_eX6_append_102_x_x M M10_ := pvfr_u e11_ pvfr_0 rfl
    have e14_ : (M10_.1 102 0) = (M.1 102 0) := (pvu_n e11_ 102 0 (Or.inl (by decide)))
    have b15_ : 0 ≤ Int32.toInt (M10_.1 102 0) ∧ Int32.toInt (M10_.1 102 0) ≤ 5 := (by rw [e14_]; exact b8_)
    refine pw_blkw hT 6 (pc := 32) (lo := [some (pvR 102), some (pvI n1), some (pvI n2)]) (st := []) (M := pvu M10_ 118 (Int32.toNatClampNeg (M10_.1 102 0)) n2) rfl ⟨trivial, rfl, trivial, rfl, trivial, ⟨rfl, (zr_in (n := 6) b15_ (by decide) (by decide))⟩, trivial⟩ (fun M16_ e17_ => ?_)
    have o18_ : pvOk M16_ := pvok_u2 e17_ o12_ rfl hn2
    have f19_ : pvFr fp_eX6_append_102_x_x M M16_ := pvfr_u e17_ f13_ rfl
    have e20_ : (M16_.1 102 0) = (M10_.1 102 0) := (pvu_n e17_ 102 0 (Or.inl (by decide)))
    have b21_ : 0 ≤ Int32.toInt (M16_.1 102 0) ∧ Int32.toInt (M16_.1 102 0) ≤ 5 := (by rw [e20_]; exact b15_)
    obtain ⟨q23_, b22_⟩ : (Int32.toInt ((M16_.1 102 0) + 1) = Int32.toInt (M16_.1 102 0) + 1) ∧ (1 ≤ Int32.toInt ((M16_.1 102 0) + 1) ∧ Int32.toInt ((M16_.1 102 0) + 1) ≤ 6) := zadd_k (M16_.1 102 0) 1 1 1 6 b21_ (by decide) (by decide) (by decide) (by decide) (by decide)
    refine pw_blkw hT 6 (pc := 42) (lo := [some (pvR 102), some (pvI n1), some (pvI n2)]) (st := []) (M := pvu M16_ 102 0 ((M16_.1 102 0) + 1)) rfl ⟨trivial, trivial, rfl, trivial, trivial, rfl, trivial⟩ (fun M24_ e25_ => ?_)
    have o26_ : pvOk M24_ := pvok_u2 e25_ o18_ rfl (zr_wide b22_ (by decide) (by decide))
    have f27_ : pvFr fp_eX6_append_102_x_x M M24_ := pvfr_u e25_ f19_ rfl
    have e28_ : (M24_.1 102 0) = ((M16_.1 102 0) + 1) := (pvu_s e25_)
    have b29_ : 1 ≤ Int32.toInt (M24_.1 102 0) ∧ Int32.toInt (M24_.1 102 0) ≤ 6 := (by rw [e28_]; exact b22_)
    refine pw_blk hT 2 (S' := (46, [some (pvR 102), some (pvI n1), some (pvI n2)], [pvI (M24_.1 102 0)], M24_)) rfl ⟨trivial, rfl, trivial⟩ ?_
    exact pw_ret hT rfl (r := some (pvI (M24_.1 102 0))) (M' := M24_) ⟨rfl, rfl⟩ ⟨⟨_, rfl, b29_, (by rw [if_pos c7_]; first | done | exact (show (M24_.1 102 0) = ((M.1 102 0) + 1) from by rw [((pvu_s e25_).trans (show ((M16_.1 102 0) + 1) = ((M.1 102 0) + 1) from by rw [((pvu_n e17_ 102 0 (Or.inl (by decide))).trans (pvu_n e11_ 102 0 (Or.inl (by decide))))]))]) | (rw [if_pos c7_]; exact (show (M24_.1 102 0) = ((M.1 102 0) + 1) from by rw [((pvu_s e25_).trans (show ((M16_.1 102 0) + 1) = ((M.1 102 0) + 1) from by rw [((pvu_n e17_ 102 0 (Or.inl (by decide))).trans (pvu_n e11_ 102 0 (Or.inl (by decide))))]))])))⟩, o26_, f27_, (zAp_y (by decide) (by decide) (by decide) (by have u := b8_; omega) e11_ e17_ e25_), (by rw [if_pos c7_]; first | done | exact ((pvu_s e25_).trans (show ((M16_.1 102 0) + 1) = ((M.1 102 0) + 1) from by rw [((pvu_n e17_ 102 0 (Or.inl (by decide))).trans (pvu_n e11_ 102 0 (Or.inl (by decide))))])) | (rw [if_pos c7_]; done) | (rw [if_pos c7_]; exact ((pvu_s e25_).trans (show ((M16_.1 102 0) + 1) = ((M.1 102 0) + 1) from by rw [((pvu_n e17_ 102 0 (Or.inl (by decide))).trans (pvu_n e11_ 102 0 (Or.inl (by decide))))]))))⟩
  · refine pw_eqI (if_neg c7_) ?_
    have b30_ : 6 ≤ Int32.toInt (M.1 102 0) ∧ Int32.toInt (M.1 102 0) ≤ 6 := zr_nlt_l 6 c7_ b6_ (show 6 ≤ Int32.toInt (Int32.ofNat 6) ∧ Int32.toInt (Int32.ofNat 6) ≤ 6 from (by decide)) (by decide)
    show PW 151 d (4, [some (pvR 102), some (pvI n1), some (pvI n2)], [pvI 1], M) _
    refine pw_if hT (c := 1 = 0) rfl rfl (fun c31_ => absurd c31_ (by decide)) (fun c31_ => ?_)
    refine pw_blk hT 2 (S' := (11, [some (pvR 102), some (pvI n1), some (pvI n2)], [pvI (M.1 102 0)], M)) rfl ⟨trivial, rfl, trivial⟩ ?_
    exact pw_ret hT rfl (r := some (pvI (M.1 102 0))) (M' := M) ⟨rfl, rfl⟩ ⟨⟨_, rfl, (zr_wide b30_ (by decide) (by decide)), (by rw [if_neg c7_]; first | done | (rw [if_neg c7_]; done))⟩, hok, pvfr_0, (zAp_n (by have u := b30_; omega)), (by rw [if_neg c7_]; first | done | exact rfl | (rw [if_neg c7_]; done) | (rw [if_neg c7_]; exact rfl))⟩
def fpL_eX6_clear_102 : List (Nat × Nat × Nat) := [(0, 102, 1)]
def fp_eX6_clear_102 (q k : Nat) : Bool := pvfp fpL_eX6_clear_102 q k
set_option maxHeartbeats 4000000 in
set_option maxRecDepth 10000 in
theorem se_X6_clear_102 (M : pvM) (hok : pvOk M) (d : Nat) : PW 153 d (0, [some (pvR 102)], [], M) (fun r X => (∃ x : Int32, r = some (pvI x) ∧ (0 ≤ Int32.toInt x ∧ Int32.toInt x ≤ 0) ∧ x = 0) ∧ pvOk X ∧ pvFr fp_eX6_clear_102 M X ∧ X.1 102 0 = 0) := by
  have hT : pvdom 153 = pvD_153 := rfl
  refine pw_blkw hT 3 (pc := 5) (lo := [some (pvR 102)]) (st := []) (M := pvu M 102 0 0) rfl ⟨trivial, trivial, rfl, trivial⟩ (fun M1_ e2_ => ?_)
  have o3_ : pvOk M1_ := pvok_u2 e2_ hok rfl (zr_wide (show 0 ≤ Int32.toInt 0 ∧ Int32.toInt 0 ≤ 0 from (by decide)) (by decide) (by decide))
  have f4_ : pvFr fp_eX6_clear_102 M M1_ := pvfr_u e2_ pvfr_0 rfl
  refine pw_blk hT 1 (S' := (6, [some (pvR 102)], [pvI 0], M1_)) rfl ⟨trivial, trivial⟩ ?_
  exact pw_ret hT rfl (r := some (pvI 0)) (M' := M1_) ⟨rfl, rfl⟩ ⟨⟨_, rfl, (show 0 ≤ Int32.toInt 0 ∧ Int32.toInt 0 ≤ 0 from (by decide)), rfl⟩, o3_, f4_, (pvu_s e2_)⟩
def fpL_eX9_appendTold_0_102_x_x : List (Nat × Nat × Nat) := [(0, 102, 1), (0, 110, 0), (0, 118, 0)]
def fp_eX9_appendTold_0_102_x_x (q k : Nat) : Bool := pvfp fpL_eX9_appendTold_0_102_x_x q k
theorem fp_eX9_appendTold_0_102_x_x_fp_eX6_append_102_x_x (a b : Nat) (h : fp_eX6_append_102_x_x a b = true) : fp_eX9_appendTold_0_102_x_x a b = true := pvfp_sub (l1 := fpL_eX6_append_102_x_x) (l2 := fpL_eX9_appendTold_0_102_x_x) (by decide) a b h
theorem fp_eX9_appendTold_0_102_x_x_fp_eX6_clear_102 (a b : Nat) (h : fp_eX6_clear_102 a b = true) : fp_eX9_appendTold_0_102_x_x a b = true := pvfp_sub (l1 := fpL_eX6_clear_102) (l2 := fpL_eX9_appendTold_0_102_x_x) (by decide) a b h
set_option maxHeartbeats 4000000 in
set_option maxRecDepth 10000 in
theorem se_X9_appendTold_0_102_x_x (M : pvM) (hok : pvOk M) (n2 : Int32) (n3 : Int32) (d : Nat) : PW 168 d (0, [some (pvR 0), some (pvR 102), some (pvI n2), some (pvI n3)], [], M) (fun r X => (∃ x : Int32, r = some (pvI x) ∧ ((-4) ≤ Int32.toInt x ∧ Int32.toInt x ≤ 6) ∧ x = (if n2 = (-1) then 0 else (if n2 < 0 then (-1) else (if (M.1 8 1) ≤ n2 then (-1) else (if n3 < 0 then (-2) else (if 9999 < n3 then (-2) else (if (M.1 102 0) < (Int32.ofNat 6) then (if (M.1 102 0) < (Int32.ofNat 6) then ((M.1 102 0) + 1) else (M.1 102 0)) else (-4)))))))) ∧ pvOk X ∧ pvFr fp_eX9_appendTold_0_102_x_x M X ∧ zBk 102 0 110 118 8 1 6 n2 n3 r M X ∧ X.1 102 0 = (if n2 = (-1) then 0 else (if n2 < 0 then (M.1 102 0) else (if (M.1 8 1) ≤ n2 then (M.1 102 0) else (if n3 < 0 then (M.1 102 0) else (if 9999 < n3 then (M.1 102 0) else (if (M.1 102 0) < (Int32.ofNat 6) then (if (M.1 102 0) < (Int32.ofNat 6) then ((M.1 102 0) + 1) else (M.1 102 0)) else (M.1 102 0)))))))) := by
  have hT : pvdom 168 = pvD_168 := rfl
  refine pw_blk hT 2 (S' := (2, [some (pvR 0), some (pvR 102), some (pvI n2), some (pvI n3)], [pvI (-1), pvI n2], M)) rfl ⟨trivial, trivial, trivial⟩ ?_
  refine pw_icn hT (c := n2 = (-1)) rfl rfl (fun c1_ => ?_) (fun c1_ => ?_)
  · refine pw_blk hT 3 (S' := (15, [some (pvR 0), some (pvR 102), some (pvI n2), some (pvI n3)], [pvI n2, pvR 8], M)) rfl ⟨trivial, rfl, trivial, trivial⟩ ?_
    refine pw_callT hT (as := [pvR 8, pvI n2]) (lo1 := [some (pvR 8), some (pvI n2)]) (d1 := d) (rest := []) rfl rfl rfl rfl rfl (fun _ => rfl) (Nat.zero_le _) rfl rfl rfl (sf_X7_has_8_x M hok n2 d) ?_
    by_cases c7_ : n2 < 0
    · refine pw_eqI (if_pos c7_) ?_
      have b8_ : (-2147483648) ≤ Int32.toInt n2 ∧ Int32.toInt n2 ≤ (-2) := (by have u0 := (zbnd n2); have u9 := (show _ ∧ _ from ⟨(zi_lt _ _).mp c7_, (show 0 ≤ Int32.toInt 0 ∧ Int32.toInt 0 ≤ 0 from (by decide))⟩); have v1 := (not_congr (zi_eq _ _)).mp c1_; have w1 : ((-1) : Int32).toInt = -1 := (by decide); omega)
      show PW 168 d (18, [some (pvR 0), some (pvR 102), some (pvI n2), some (pvI n3)], [pvI 0], M) _
      refine pw_ifn hT (c := 0 = 0) rfl rfl (fun c9_ => absurd (by decide) c9_) (fun c9_ => ?_)
      refine pw_blk hT 1 (S' := (22, [some (pvR 0), some (pvR 102), some (pvI n2), some (pvI n3)], [pvI (-1)], M)) rfl ⟨trivial, trivial⟩ ?_
      exact pw_ret hT rfl (r := some (pvI (-1))) (M' := M) ⟨rfl, rfl⟩ ⟨⟨_, rfl, (zr_wide (show (-1) ≤ Int32.toInt (-1) ∧ Int32.toInt (-1) ≤ (-1) from (by decide)) (by decide) (by decide)), (by rw [if_neg c1_, if_pos c7_]; first | done | (rw [if_pos c7_]; done))⟩, hok, pvfr_0, (zBk_n (by decide)), (by rw [if_neg c1_, if_pos c7_]; first | done | exact rfl | (rw [if_pos c7_]; done) | (rw [if_pos c7_]; exact rfl))⟩
    · refine pw_eqI (if_neg c7_) ?_
      have b10_ : 0 ≤ Int32.toInt n2 ∧ Int32.toInt n2 ≤ 2147483647 := zr_nlt_l 0 c7_ (zbnd n2) (show 0 ≤ Int32.toInt 0 ∧ Int32.toInt 0 ≤ 0 from (by decide)) (by decide)
      have b11_ : 0 ≤ Int32.toInt (M.1 8 1) ∧ Int32.toInt (M.1 8 1) ≤ 7 := pvok_r hok 8 1 rfl
      by_cases c12_ : (M.1 8 1) ≤ n2
      · refine pw_eqI (if_pos c12_) ?_
        have d13_ : Int32.toInt (M.1 8 1) ≤ Int32.toInt n2 := (zi_le _ _).mp c12_
        show PW 168 d (18, [some (pvR 0), some (pvR 102), some (pvI n2), some (pvI n3)], [pvI 0], M) _
        refine pw_ifn hT (c := 0 = 0) rfl rfl (fun c14_ => absurd (by decide) c14_) (fun c14_ => ?_)
        refine pw_blk hT 1 (S' := (22, [some (pvR 0), some (pvR 102), some (pvI n2), some (pvI n3)], [pvI (-1)], M)) rfl ⟨trivial, trivial⟩ ?_
        exact pw_ret hT rfl (r := some (pvI (-1))) (M' := M) ⟨rfl, rfl⟩ ⟨⟨_, rfl, (zr_wide (show (-1) ≤ Int32.toInt (-1) ∧ Int32.toInt (-1) ≤ (-1) from (by decide)) (by decide) (by decide)), (by rw [if_neg c1_, if_neg c7_, if_pos c12_]; first | done | (rw [if_pos c12_]; done))⟩, hok, pvfr_0, (zBk_n (by decide)), (by rw [if_neg c1_, if_neg c7_, if_pos c12_]; first | done | exact rfl | (rw [if_pos c12_]; done) | (rw [if_pos c12_]; exact rfl))⟩
      · refine pw_eqI (if_neg c12_) ?_
        have b15_ : 1 ≤ Int32.toInt (M.1 8 1) ∧ Int32.toInt (M.1 8 1) ≤ 7 := zr_nle_l 1 c12_ b11_ b10_ (by decide)
        have b16_ : 0 ≤ Int32.toInt n2 ∧ Int32.toInt n2 ≤ 6 := zr_nle_r 6 c12_ b10_ b15_ (by decide)
        have d17_ : Int32.toInt (M.1 8 1) > Int32.toInt n2 := Int.not_le.mp ((not_congr (zi_le _ _)).mp c12_)
        show PW 168 d (18, [some (pvR 0), some (pvR 102), some (pvI n2), some (pvI n3)], [pvI 1], M) _
        refine pw_ifn hT (c := 1 = 0) rfl rfl (fun c18_ => ?_) (fun c18_ => absurd c18_ (by decide))
        refine pw_blk hT 3 (S' := (28, [some (pvR 0), some (pvR 102), some (pvI n2), some (pvI n3)], [pvI 9999, pvI 0, pvI n3], M)) rfl ⟨trivial, trivial, trivial, trivial⟩ ?_
        refine pw_callT hT (as := [pvI n3, pvI 0, pvI 9999]) (lo1 := [some (pvI n3), some (pvI 0), some (pvI 9999)]) (d1 := d) (rest := []) rfl rfl rfl rfl rfl (fun h => absurd h (by decide)) (Nat.zero_le _) rfl rfl rfl (sf_X9_within_x_x_x M hok n3 0 9999 d) ?_
        by_cases c24_ : n3 < 0
        · refine pw_eqI (if_pos c24_) ?_
          have b25_ : (-2147483648) ≤ Int32.toInt n3 ∧ Int32.toInt n3 ≤ (-1) := zr_lt_l (-1) c24_ (zbnd n3) (show 0 ≤ Int32.toInt 0 ∧ Int32.toInt 0 ≤ 0 from (by decide)) (by decide)
          show PW 168 d (31, [some (pvR 0), some (pvR 102), some (pvI n2), some (pvI n3)], [pvI 0], M) _
          refine pw_ifn hT (c := 0 = 0) rfl rfl (fun c26_ => absurd (by decide) c26_) (fun c26_ => ?_)
          refine pw_blk hT 1 (S' := (36, [some (pvR 0), some (pvR 102), some (pvI n2), some (pvI n3)], [pvI (-2)], M)) rfl ⟨trivial, trivial⟩ ?_
          exact pw_ret hT rfl (r := some (pvI (-2))) (M' := M) ⟨rfl, rfl⟩ ⟨⟨_, rfl, (zr_wide (show (-2) ≤ Int32.toInt (-2) ∧ Int32.toInt (-2) ≤ (-2) from (by decide)) (by decide) (by decide)), (by rw [if_neg c1_, if_neg c7_, if_neg c12_, if_pos c24_]; first | done | (rw [if_pos c24_]; done))⟩, hok, pvfr_0, (zBk_n (by decide)), (by rw [if_neg c1_, if_neg c7_, if_neg c12_, if_pos c24_]; first | done | exact rfl | (rw [if_pos c24_]; done) | (rw [if_pos c24_]; exact rfl))⟩
        · refine pw_eqI (if_neg c24_) ?_
          have b27_ : 0 ≤ Int32.toInt n3 ∧ Int32.toInt n3 ≤ 2147483647 := zr_nlt_l 0 c24_ (zbnd n3) (show 0 ≤ Int32.toInt 0 ∧ Int32.toInt 0 ≤ 0 from (by decide)) (by decide)
          by_cases c28_ : 9999 < n3
          · refine pw_eqI (if_pos c28_) ?_
            have b29_ : 10000 ≤ Int32.toInt n3 ∧ Int32.toInt n3 ≤ 2147483647 := zr_lt_r 10000 c28_ b27_ (show 9999 ≤ Int32.toInt 9999 ∧ Int32.toInt 9999 ≤ 9999 from (by decide)) (by decide)
            show PW 168 d (31, [some (pvR 0), some (pvR 102), some (pvI n2), some (pvI n3)], [pvI 0], M) _
            refine pw_ifn hT (c := 0 = 0) rfl rfl (fun c30_ => absurd (by decide) c30_) (fun c30_ => ?_)
            refine pw_blk hT 1 (S' := (36, [some (pvR 0), some (pvR 102), some (pvI n2), some (pvI n3)], [pvI (-2)], M)) rfl ⟨trivial, trivial⟩ ?_
            exact pw_ret hT rfl (r := some (pvI (-2))) (M' := M) ⟨rfl, rfl⟩ ⟨⟨_, rfl, (zr_wide (show (-2) ≤ Int32.toInt (-2) ∧ Int32.toInt (-2) ≤ (-2) from (by decide)) (by decide) (by decide)), (by rw [if_neg c1_, if_neg c7_, if_neg c12_, if_neg c24_, if_pos c28_]; first | done | (rw [if_pos c28_]; done))⟩, hok, pvfr_0, (zBk_n (by decide)), (by rw [if_neg c1_, if_neg c7_, if_neg c12_, if_neg c24_, if_pos c28_]; first | done | exact rfl | (rw [if_pos c28_]; done) | (rw [if_pos c28_]; exact rfl))⟩
          · refine pw_eqI (if_neg c28_) ?_
            have b31_ : 0 ≤ Int32.toInt n3 ∧ Int32.toInt n3 ≤ 9999 := zr_nlt_r 9999 c28_ b27_ (show 9999 ≤ Int32.toInt 9999 ∧ Int32.toInt 9999 ≤ 9999 from (by decide)) (by decide)
            show PW 168 d (31, [some (pvR 0), some (pvR 102), some (pvI n2), some (pvI n3)], [pvI 1], M) _
            refine pw_ifn hT (c := 1 = 0) rfl rfl (fun c32_ => ?_) (fun c32_ => absurd c32_ (by decide))
            refine pw_blk hT 1 (S' := (38, [some (pvR 0), some (pvR 102), some (pvI n2), some (pvI n3)], [pvR 102], M)) rfl ⟨trivial, trivial⟩ ?_
            refine pw_callT hT (as := [pvR 102]) (lo1 := [some (pvR 102)]) (d1 := d) (rest := []) rfl rfl rfl rfl rfl (fun _ => rfl) (Nat.zero_le _) rfl rfl rfl (sf_X6_isFull_102 M hok d) ?_
            have b38_ : 0 ≤ Int32.toInt (M.1 102 0) ∧ Int32.toInt (M.1 102 0) ≤ 6 := pvok_r hok 102 0 rfl
            by_cases c39_ : (M.1 102 0) < (Int32.ofNat 6)
            · refine pw_eqI (if_pos c39_) ?_
              have b40_ : 0 ≤ Int32.toInt (M.1 102 0) ∧ Int32.toInt (M.1 102 0) ≤ 5 := zr_lt_l 5 c39_ b38_ (show 6 ≤ Int32.toInt (Int32.ofNat 6) ∧ Int32.toInt (Int32.ofNat 6) ≤ 6 from (by decide)) (by decide)
              show PW 168 d (41, [some (pvR 0), some (pvR 102), some (pvI n2), some (pvI n3)], [pvI 0], M) _
              refine pw_if hT (c := 0 = 0) rfl rfl (fun c41_ => ?_) (fun c41_ => absurd (by decide) c41_)
              refine pw_blk hT 3 (S' := (50, [some (pvR 0), some (pvR 102), some (pvI n2), some (pvI n3)], [pvI n3, pvI n2, pvR 102], M)) rfl ⟨trivial, trivial, trivial, trivial⟩ ?_
              refine pw_callGd hT (as := [pvR 102, pvI n2, pvI n3]) (lo1 := [some (pvR 102), some (pvI n2), some (pvI n3)]) (d1 := d) (rest := []) rfl rfl rfl rfl rfl (fun _ => rfl) (Nat.zero_le _) rfl rfl rfl (se_X6_append_102_x_x M hok n2 n3 b16_ b31_ d) (fun x43_ M44_ b45_ o46_ g47_ d42_ => ?_)
              have f48_ : pvFr fp_eX9_appendTold_0_102_x_x M M44_ := pvfr_t g47_ pvfr_0 fp_eX9_appendTold_0_102_x_x_fp_eX6_append_102_x_x
              obtain ⟨b49_, d50_⟩ := b45_
              subst d50_
              exact pw_ret hT rfl (r := some (pvI (if (M.1 102 0) < (Int32.ofNat 6) then ((M.1 102 0) + 1) else (M.1 102 0)))) (M' := M44_) ⟨rfl, rfl⟩ ⟨⟨_, rfl, (zr_wide b49_ (by decide) (by decide)), (by rw [if_neg c1_, if_neg c7_, if_neg c12_, if_neg c24_, if_neg c28_, if_pos c39_]; first | done | (rw [if_pos c39_]; done))⟩, o46_, f48_, (zBk_9 (c := Int32.ofNat 6) (by decide) (by decide) c39_ (pvok_r hok 102 0 (lo := 0) (hi := 6) rfl).1 (zvl_y c7_ c12_) d42_.1 (d42_.2.trans (if_pos c39_)) (if_pos c39_)), (by rw [if_neg c1_, if_neg c7_, if_neg c12_, if_neg c24_, if_neg c28_, if_pos c39_]; first | done | exact d42_.2 | (rw [if_pos c39_]; done) | (rw [if_pos c39_]; exact d42_.2))⟩
            · refine pw_eqI (if_neg c39_) ?_
              have b51_ : 6 ≤ Int32.toInt (M.1 102 0) ∧ Int32.toInt (M.1 102 0) ≤ 6 := zr_nlt_l 6 c39_ b38_ (show 6 ≤ Int32.toInt (Int32.ofNat 6) ∧ Int32.toInt (Int32.ofNat 6) ≤ 6 from (by decide)) (by decide)
              show PW 168 d (41, [some (pvR 0), some (pvR 102), some (pvI n2), some (pvI n3)], [pvI 1], M) _
              refine pw_if hT (c := 1 = 0) rfl rfl (fun c52_ => absurd c52_ (by decide)) (fun c52_ => ?_)
              refine pw_blk hT 1 (S' := (46, [some (pvR 0), some (pvR 102), some (pvI n2), some (pvI n3)], [pvI (-4)], M)) rfl ⟨trivial, trivial⟩ ?_
              exact pw_ret hT rfl (r := some (pvI (-4))) (M' := M) ⟨rfl, rfl⟩ ⟨⟨_, rfl, (zr_wide (show (-4) ≤ Int32.toInt (-4) ∧ Int32.toInt (-4) ≤ (-4) from (by decide)) (by decide) (by decide)), (by rw [if_neg c1_, if_neg c7_, if_neg c12_, if_neg c24_, if_neg c28_, if_neg c39_]; first | done | (rw [if_neg c39_]; done))⟩, hok, pvfr_0, (zBk_n (by decide)), (by rw [if_neg c1_, if_neg c7_, if_neg c12_, if_neg c24_, if_neg c28_, if_neg c39_]; first | done | exact rfl | (rw [if_neg c39_]; done) | (rw [if_neg c39_]; exact rfl))⟩
  · have b53_ : (-1) ≤ Int32.toInt n2 ∧ Int32.toInt n2 ≤ (-1) := (by have u0 := (zbnd n2); have u1 := (zi_eq _ _).mp c1_; have u2 := (show (-1) ≤ Int32.toInt (-1) ∧ Int32.toInt (-1) ≤ (-1) from (by decide)); omega)
    refine pw_blk hT 1 (S' := (6, [some (pvR 0), some (pvR 102), some (pvI n2), some (pvI n3)], [pvR 102], M)) rfl ⟨trivial, trivial⟩ ?_
    refine pw_callGd hT (as := [pvR 102]) (lo1 := [some (pvR 102)]) (d1 := d) (rest := []) rfl rfl rfl rfl rfl (fun _ => rfl) (Nat.zero_le _) rfl rfl rfl (se_X6_clear_102 M hok d) (fun x55_ M56_ b57_ o58_ g59_ d54_ => ?_)
    have f60_ : pvFr fp_eX9_appendTold_0_102_x_x M M56_ := pvfr_t g59_ pvfr_0 fp_eX9_appendTold_0_102_x_x_fp_eX6_clear_102
    obtain ⟨b61_, d62_⟩ := b57_
    subst d62_
    exact pw_ret hT rfl (r := some (pvI 0)) (M' := M56_) ⟨rfl, rfl⟩ ⟨⟨_, rfl, (zr_wide b61_ (by decide) (by decide)), (by rw [if_pos c1_]; first | done | (rw [if_pos c1_]; done))⟩, o58_, f60_, (zBk_c rfl d54_), (by rw [if_pos c1_]; first | done | exact d54_ | (rw [if_pos c1_]; done) | (rw [if_pos c1_]; exact d54_))⟩
def fpL_eX9_see_0_x_x : List (Nat × Nat × Nat) := [(0, 102, 1), (0, 110, 0), (0, 118, 0)]
def fp_eX9_see_0_x_x (q k : Nat) : Bool := pvfp fpL_eX9_see_0_x_x q k
theorem fp_eX9_see_0_x_x_fp_eX9_appendTold_0_102_x_x (a b : Nat) (h : fp_eX9_appendTold_0_102_x_x a b = true) : fp_eX9_see_0_x_x a b = true := pvfp_sub (l1 := fpL_eX9_appendTold_0_102_x_x) (l2 := fpL_eX9_see_0_x_x) (by decide) a b h
set_option maxHeartbeats 4000000 in
set_option maxRecDepth 10000 in
theorem se_X9_see_0_x_x (M : pvM) (hok : pvOk M) (n1 : Int32) (n2 : Int32) (d : Nat) : PW 197 d (0, [some (pvR 0), some (pvI n1), some (pvI n2)], [], M) (fun r X => (∃ x : Int32, r = some (pvI x) ∧ ((-4) ≤ Int32.toInt x ∧ Int32.toInt x ≤ 6) ∧ x = (if n1 = (-1) then 0 else (if n1 < 0 then (-1) else (if (M.1 8 1) ≤ n1 then (-1) else (if n2 < 0 then (-2) else (if 9999 < n2 then (-2) else (if (M.1 102 0) < (Int32.ofNat 6) then (if (M.1 102 0) < (Int32.ofNat 6) then ((M.1 102 0) + 1) else (M.1 102 0)) else (-4)))))))) ∧ pvOk X ∧ pvFr fp_eX9_see_0_x_x M X ∧ zBk 102 0 110 118 8 1 6 n1 n2 r M X ∧ X.1 102 0 = (if n1 = (-1) then 0 else (if n1 < 0 then (M.1 102 0) else (if (M.1 8 1) ≤ n1 then (M.1 102 0) else (if n2 < 0 then (M.1 102 0) else (if 9999 < n2 then (M.1 102 0) else (if (M.1 102 0) < (Int32.ofNat 6) then (if (M.1 102 0) < (Int32.ofNat 6) then ((M.1 102 0) + 1) else (M.1 102 0)) else (M.1 102 0)))))))) := by
  have hT : pvdom 197 = pvD_197 := rfl
  refine pw_blk hT 6 (S' := (10, [some (pvR 0), some (pvI n1), some (pvI n2)], [pvI n2, pvI n1, pvR 102, pvR 0], M)) rfl ⟨trivial, trivial, rfl, rfl, trivial, trivial, trivial⟩ ?_
  refine pw_callGd hT (as := [pvR 0, pvR 102, pvI n1, pvI n2]) (lo1 := [some (pvR 0), some (pvR 102), some (pvI n1), some (pvI n2)]) (d1 := d) (rest := []) rfl rfl rfl rfl rfl (fun _ => rfl) (Nat.zero_le _) rfl rfl rfl (se_X9_appendTold_0_102_x_x M hok n1 n2 d) (fun x2_ M3_ b4_ o5_ g6_ d1_ => ?_)
  have f7_ : pvFr fp_eX9_see_0_x_x M M3_ := pvfr_t g6_ pvfr_0 fp_eX9_see_0_x_x_fp_eX9_appendTold_0_102_x_x
  obtain ⟨b8_, d9_⟩ := b4_
  subst d9_
  exact pw_ret hT rfl (r := some (pvI (if n1 = (-1) then 0 else (if n1 < 0 then (-1) else (if (M.1 8 1) ≤ n1 then (-1) else (if n2 < 0 then (-2) else (if 9999 < n2 then (-2) else (if (M.1 102 0) < (Int32.ofNat 6) then (if (M.1 102 0) < (Int32.ofNat 6) then ((M.1 102 0) + 1) else (M.1 102 0)) else (-4))))))))) (M' := M3_) ⟨rfl, rfl⟩ ⟨⟨_, rfl, b8_, rfl⟩, o5_, f7_, d1_.1, d1_.2⟩
def fpL_eX9_shut_0_x : List (Nat × Nat × Nat) := [(0, 12, 0), (0, 13, 0), (0, 14, 0), (0, 5, 2), (0, 5, 3), (0, 8, 5), (0, 8, 6), (0, 8, 7), (0, 8, 8), (1, 112, 0), (1, 3, 6)]
def fp_eX9_shut_0_x (q k : Nat) : Bool := pvfp fpL_eX9_shut_0_x q k
theorem fp_eX9_shut_0_x_fp_eX1_beginFromNow_5 (a b : Nat) (h : fp_eX1_beginFromNow_5 a b = true) : fp_eX9_shut_0_x a b = true := pvfp_sub (l1 := fpL_eX1_beginFromNow_5) (l2 := fpL_eX9_shut_0_x) (by decide) a b h
theorem fp_eX9_shut_0_x_fp_eX9_go_0_x (a b : Nat) (h : fp_eX9_go_0_x a b = true) : fp_eX9_shut_0_x a b = true := pvfp_sub (l1 := fpL_eX9_go_0_x) (l2 := fpL_eX9_shut_0_x) (by decide) a b h
set_option maxHeartbeats 4000000 in
set_option maxRecDepth 10000 in
theorem se_X9_shut_0_x (M : pvM) (hok : pvOk M) (n1 : Int32) (d : Nat) : PW 199 d (0, [some (pvR 0), some (pvI n1), none, none], [], M) (fun r X => (∃ x : Int32, r = some (pvI x) ∧ (-3) ≤ Int32.toInt x ∧ Int32.toInt x ≤ 319) ∧ pvOk X ∧ pvFr fp_eX9_shut_0_x M X ∧ zST9 n1 r M X ∧ zKy9 9 74 M X ∧ yWK M X ∧ yUw9 r M X) := by
  have hT : pvdom 199 = pvD_199 := rfl
  have b1_ : 0 ≤ Int32.toInt (M.1 8 4) ∧ Int32.toInt (M.1 8 4) ≤ 9999 := pvok_r hok 8 4 rfl
  refine pw_blk hT 3 (S' := (5, [some (pvR 0), some (pvI n1), none, none], [pvI n1, pvR 8], M)) rfl ⟨trivial, rfl, trivial, trivial⟩ ?_
  refine pw_callT hT (as := [pvR 8, pvI n1]) (lo1 := [some (pvR 8), some (pvI n1)]) (d1 := d) (rest := []) rfl rfl rfl rfl rfl (fun _ => rfl) (Nat.zero_le _) rfl rfl rfl (sf_X7_has_8_x M hok n1 d) ?_
  by_cases c7_ : n1 < 0
  · refine pw_eqI (if_pos c7_) ?_
    have b8_ : (-2147483648) ≤ Int32.toInt n1 ∧ Int32.toInt n1 ≤ (-1) := zr_lt_l (-1) c7_ (zbnd n1) (show 0 ≤ Int32.toInt 0 ∧ Int32.toInt 0 ≤ 0 from (by decide)) (by decide)
    show PW 199 d (8, [some (pvR 0), some (pvI n1), none, none], [pvI 0], M) _
    refine pw_ifn hT (c := 0 = 0) rfl rfl (fun c9_ => absurd (by decide) c9_) (fun c9_ => ?_)
    refine pw_blk hT 1 (S' := (12, [some (pvR 0), some (pvI n1), none, none], [pvI (-1)], M)) rfl ⟨trivial, trivial⟩ ?_
    exact pw_ret hT rfl (r := some (pvI (-1))) (M' := M) ⟨rfl, rfl⟩ ⟨⟨_, rfl, (zr_wide (show (-1) ≤ Int32.toInt (-1) ∧ Int32.toInt (-1) ≤ (-1) from (by decide)) (by decide) (by decide))⟩, hok, pvfr_0, ⟨zwT_n (by decide), zsA_0 (zvl_l c7_)⟩, (zKy9_r 9 74 M), (yWK_r M), ⟨rfl, _, rfl, Or.inl ⟨by decide, rfl⟩⟩⟩
  · refine pw_eqI (if_neg c7_) ?_
    have b10_ : 0 ≤ Int32.toInt n1 ∧ Int32.toInt n1 ≤ 2147483647 := zr_nlt_l 0 c7_ (zbnd n1) (show 0 ≤ Int32.toInt 0 ∧ Int32.toInt 0 ≤ 0 from (by decide)) (by decide)
    have b11_ : 0 ≤ Int32.toInt (M.1 8 1) ∧ Int32.toInt (M.1 8 1) ≤ 7 := pvok_r hok 8 1 rfl
    by_cases c12_ : (M.1 8 1) ≤ n1
    · refine pw_eqI (if_pos c12_) ?_
      have d13_ : Int32.toInt (M.1 8 1) ≤ Int32.toInt n1 := (zi_le _ _).mp c12_
      show PW 199 d (8, [some (pvR 0), some (pvI n1), none, none], [pvI 0], M) _
      refine pw_ifn hT (c := 0 = 0) rfl rfl (fun c14_ => absurd (by decide) c14_) (fun c14_ => ?_)
      refine pw_blk hT 1 (S' := (12, [some (pvR 0), some (pvI n1), none, none], [pvI (-1)], M)) rfl ⟨trivial, trivial⟩ ?_
      exact pw_ret hT rfl (r := some (pvI (-1))) (M' := M) ⟨rfl, rfl⟩ ⟨⟨_, rfl, (zr_wide (show (-1) ≤ Int32.toInt (-1) ∧ Int32.toInt (-1) ≤ (-1) from (by decide)) (by decide) (by decide))⟩, hok, pvfr_0, ⟨zwT_n (by decide), zsA_0 (zvl_u c12_)⟩, (zKy9_r 9 74 M), (yWK_r M), ⟨rfl, _, rfl, Or.inl ⟨by decide, rfl⟩⟩⟩
    · refine pw_eqI (if_neg c12_) ?_
      have b15_ : 1 ≤ Int32.toInt (M.1 8 1) ∧ Int32.toInt (M.1 8 1) ≤ 7 := zr_nle_l 1 c12_ b11_ b10_ (by decide)
      have b16_ : 0 ≤ Int32.toInt n1 ∧ Int32.toInt n1 ≤ 6 := zr_nle_r 6 c12_ b10_ b15_ (by decide)
      have d17_ : Int32.toInt (M.1 8 1) > Int32.toInt n1 := Int.not_le.mp ((not_congr (zi_le _ _)).mp c12_)
      show PW 199 d (8, [some (pvR 0), some (pvI n1), none, none], [pvI 1], M) _
      refine pw_ifn hT (c := 1 = 0) rfl rfl (fun c18_ => ?_) (fun c18_ => absurd c18_ (by decide))
      refine pw_blkr hT 5 (pc := 22) (lo := [some (pvR 0), some (pvI n1), none, none]) (st := []) (M := M) (z := (pvbs 10 + Int32.toNatClampNeg n1)) rfl ⟨trivial, rfl, rfl, trivial, ⟨rfl, (zr_in (n := 7) b16_ (by decide) (by decide))⟩, trivial⟩ (fun q19_ e21_ => ?_)
      have k20_ : pvkl q19_ = 3 := pvel_10 (zr_in (n := 7) b16_ (by decide) (by decide)) e21_
      subst e21_
      have b22_ : 0 ≤ Int32.toInt (M.1 8 6) ∧ Int32.toInt (M.1 8 6) ≤ 3 := pvok_r hok 8 6 rfl
      have b23_ : 0 ≤ Int32.toInt (M.1 8 7) ∧ Int32.toInt (M.1 8 7) ≤ 4 := pvok_r hok 8 7 rfl
      have b24_ : 15 ≤ Int32.toInt (M.1 8 8) ∧ Int32.toInt (M.1 8 8) ≤ 23 := pvok_r hok 8 8 rfl
      refine pw_blkr hT 11 (pc := 45) (lo := [some (pvR 0), some (pvI n1), some (pvR (pvbs 10 + Int32.toNatClampNeg n1)), none]) (st := [pvI (M.1 8 7), pvI (M.1 8 6), pvR (pvbs 10 + Int32.toNatClampNeg n1)]) (M := M) (z := (pvhp (M.1 8 8))) rfl ⟨trivial, trivial, trivial, rfl, rfl, trivial, rfl, rfl, trivial, rfl, rfl, trivial⟩ (fun q25_ e27_ => ?_)
      have k26_ : pvkl q25_ = 2 := pvhp_k b24_ e27_
      subst e27_
      have b28_ : 0 ≤ Int32.toInt (M.1 (pvhp (M.1 8 8)) 0) ∧ Int32.toInt (M.1 (pvhp (M.1 8 8)) 0) ≤ 99 := pvok_r hok (pvhp (M.1 8 8)) 0 ((pvrg_o 0 k26_ (by decide) (by decide)).trans rfl)
      refine pw_blk hT 1 (S' := (48, [some (pvR 0), some (pvI n1), some (pvR (pvbs 10 + Int32.toNatClampNeg n1)), none], [pvI (M.1 (pvhp (M.1 8 8)) 0), pvI (M.1 8 7), pvI (M.1 8 6), pvR (pvbs 10 + Int32.toNatClampNeg n1)], M)) rfl ⟨k26_, trivial⟩ ?_
      refine pw_callGp hT (as := [pvR (pvbs 10 + Int32.toNatClampNeg n1), pvI (M.1 8 6), pvI (M.1 8 7), pvI (M.1 (pvhp (M.1 8 8)) 0)]) (lo1 := [some (pvR (pvbs 10 + Int32.toNatClampNeg n1)), some (pvI (M.1 8 6)), some (pvI (M.1 8 7)), some (pvI (M.1 (pvhp (M.1 8 8)) 0)), none]) (d1 := d) (rest := []) rfl rfl rfl rfl rfl (fun _ => k20_) (Nat.zero_le _) rfl rfl rfl (se_X4_minutesFrom_x_x_x_x M hok (pvbs 10 + Int32.toNatClampNeg n1) (M.1 8 6) (M.1 8 7) (M.1 (pvhp (M.1 8 8)) 0) k20_ b22_ b23_ b28_ d) (fun x29_ b31_ => ?_)
      obtain ⟨b34_, d35_⟩ := b31_
      have b36_ : 0 ≤ Int32.toInt (M.1 (pvbs 10 + Int32.toNatClampNeg n1) 5) ∧ Int32.toInt (M.1 (pvbs 10 + Int32.toNatClampNeg n1) 5) ≤ 1 := pvok_r hok (pvbs 10 + Int32.toNatClampNeg n1) 5 ((pvrg_o 5 k20_ (by decide) (by decide)).trans rfl)
      refine pw_blk hT 3 (S' := (56, [some (pvR 0), some (pvI n1), some (pvR (pvbs 10 + Int32.toNatClampNeg n1)), some (pvI x29_)], [pvI (M.1 (pvbs 10 + Int32.toNatClampNeg n1) 5)], M)) rfl ⟨trivial, trivial, k20_, trivial⟩ ?_
      refine pw_ifn hT (c := (M.1 (pvbs 10 + Int32.toNatClampNeg n1) 5) = 0) rfl rfl (fun c37_ => ?_) (fun c37_ => ?_)
      · have b38_ : 1 ≤ Int32.toInt (M.1 (pvbs 10 + Int32.toNatClampNeg n1) 5) ∧ Int32.toInt (M.1 (pvbs 10 + Int32.toNatClampNeg n1) 5) ≤ 1 := (by have u0 := b36_; have u1 := (not_congr (zi_eq _ _)).mp c37_; have u2 := (show 0 ≤ Int32.toInt 0 ∧ Int32.toInt 0 ≤ 0 from (by decide)); omega)
        refine pw_blk hT 1 (S' := (76, [some (pvR 0), some (pvI n1), some (pvR (pvbs 10 + Int32.toNatClampNeg n1)), some (pvI x29_)], [pvI (-3)], M)) rfl ⟨trivial, trivial⟩ ?_
        exact pw_ret hT rfl (r := some (pvI (-3))) (M' := M) ⟨rfl, rfl⟩ ⟨⟨_, rfl, (zr_wide (show (-3) ≤ Int32.toInt (-3) ∧ Int32.toInt (-3) ≤ (-3) from (by decide)) (by decide) (by decide))⟩, hok, pvfr_0, ⟨zwT_n (by decide), zsA_1 (zvl_y c7_ c12_) (Or.inl c37_)⟩, (zKy9_r 9 74 M), (yWK_r M), ⟨rfl, _, rfl, Or.inl ⟨by decide, rfl⟩⟩⟩
      · have b39_ : 0 ≤ Int32.toInt (M.1 (pvbs 10 + Int32.toNatClampNeg n1) 5) ∧ Int32.toInt (M.1 (pvbs 10 + Int32.toNatClampNeg n1) 5) ≤ 0 := (by have u0 := b36_; have u1 := (zi_eq _ _).mp c37_; have u2 := (show 0 ≤ Int32.toInt 0 ∧ Int32.toInt 0 ≤ 0 from (by decide)); omega)
        obtain ⟨q41_, b40_⟩ : (Int32.toInt ((M.1 8 4) + x29_) = Int32.toInt (M.1 8 4) + Int32.toInt x29_) ∧ (0 ≤ Int32.toInt ((M.1 8 4) + x29_) ∧ Int32.toInt ((M.1 8 4) + x29_) ≤ 10318) := zadd_r (M.1 8 4) x29_ 0 10318 b1_ b34_ (by decide) (by decide) (by decide) (by decide)
        refine pw_blk hT 6 (S' := (71, [some (pvR 0), some (pvI n1), some (pvR (pvbs 10 + Int32.toNatClampNeg n1)), some (pvI x29_)], [pvI 9999, pvI ((M.1 8 4) + x29_)], M)) rfl ⟨trivial, rfl, rfl, trivial, trivial, trivial, trivial⟩ ?_
        refine pw_ic hT (c := ((M.1 8 4) + x29_) ≤ 9999) rfl rfl (fun c42_ => ?_) (fun c42_ => ?_)
        · have b43_ : 0 ≤ Int32.toInt ((M.1 8 4) + x29_) ∧ Int32.toInt ((M.1 8 4) + x29_) ≤ 9999 := zr_le_l 9999 c42_ b40_ (show 9999 ≤ Int32.toInt 9999 ∧ Int32.toInt 9999 ≤ 9999 from (by decide)) (by decide)
          refine pw_blk hT 2 (S' := (81, [some (pvR 0), some (pvI n1), some (pvR (pvbs 10 + Int32.toNatClampNeg n1)), some (pvI x29_)], [pvR 5], M)) rfl ⟨trivial, rfl, trivial⟩ ?_
          refine pw_callVd hT (as := [pvR 5]) (lo1 := [some (pvR 5)]) (d1 := d) (rest := []) rfl rfl rfl rfl rfl (fun _ => rfl) (Nat.zero_le _) rfl rfl rfl (se_X1_beginFromNow_5 M hok d) (fun M46_ o48_ g49_ d44_ => ?_)
          have f50_ : pvFr fp_eX9_shut_0_x M M46_ := pvfr_t g49_ pvfr_0 fp_eX9_shut_0_x_fp_eX1_beginFromNow_5
          refine pw_blk hT 2 (S' := (86, [some (pvR 0), some (pvI n1), some (pvR (pvbs 10 + Int32.toNatClampNeg n1)), some (pvI x29_)], [pvI x29_, pvR 0], M46_)) rfl ⟨trivial, trivial, trivial⟩ ?_
          have e51_ : (M46_.1 8 4) = (M.1 8 4) := (g49_ 8 4 rfl)
          have b52_ : 0 ≤ Int32.toInt (M46_.1 8 4) ∧ Int32.toInt (M46_.1 8 4) ≤ 9999 := pvok_r o48_ 8 4 rfl
          have d53_ : Int32.toInt (M46_.1 8 4) = Int32.toInt (M.1 8 4) := congrArg Int32.toInt e51_
          refine pw_callGd hT (as := [pvR 0, pvI x29_]) (lo1 := [some (pvR 0), some (pvI x29_), none]) (d1 := d) (rest := []) rfl rfl rfl rfl rfl (fun _ => rfl) (Nat.zero_le _) rfl rfl rfl (se_X9_go_0_x M46_ o48_ x29_ (zr_wide b34_ (by decide) (by decide)) (show Int32.toInt (M46_.1 8 4) + Int32.toInt x29_ ≤ 9999 from (by omega)) d) (fun x55_ M56_ b57_ o58_ g59_ d54_ => ?_)
          have f60_ : pvFr fp_eX9_shut_0_x M M56_ := pvfr_t g59_ f50_ fp_eX9_shut_0_x_fp_eX9_go_0_x
          refine pw_blkw hT 4 (pc := 95) (lo := [some (pvR 0), some (pvI n1), some (pvR (pvbs 10 + Int32.toNatClampNeg n1)), some (pvI x29_)]) (st := []) (M := pvu M56_ (pvbs 10 + Int32.toNatClampNeg n1) 5 1) rfl ⟨trivial, trivial, trivial, ⟨k20_, Or.inr rfl⟩, trivial⟩ (fun M61_ e62_ => ?_)
          have o63_ : pvOk M61_ := pvok_u2 e62_ o58_ ((pvrg_o 5 k20_ (by decide) (by decide)).trans rfl) (zr_wide (show 1 ≤ Int32.toInt 1 ∧ Int32.toInt 1 ≤ 1 from (by decide)) (by decide) (by decide))
          have f64_ : pvFr fp_eX9_shut_0_x M M61_ := pvfr_u e62_ f60_ (pvfp_r (l := fpL_eX9_shut_0_x) (pvowr_3 k20_) (kk := 6) (by decide) (Or.inr rfl))
          have b65_ : 0 ≤ Int32.toInt (M61_.1 (pvbs 10 + Int32.toNatClampNeg n1) 2) ∧ Int32.toInt (M61_.1 (pvbs 10 + Int32.toNatClampNeg n1) 2) ≤ 3 := pvok_r o63_ (pvbs 10 + Int32.toNatClampNeg n1) 2 ((pvrg_o 2 k20_ (by decide) (by decide)).trans rfl)
          refine pw_blkw hT 5 (pc := 106) (lo := [some (pvR 0), some (pvI n1), some (pvR (pvbs 10 + Int32.toNatClampNeg n1)), some (pvI x29_)]) (st := []) (M := pvu M61_ 8 6 (M61_.1 (pvbs 10 + Int32.toNatClampNeg n1) 2)) rfl ⟨trivial, rfl, trivial, k20_, rfl, trivial⟩ (fun M66_ e67_ => ?_)
          have o68_ : pvOk M66_ := pvok_u2 e67_ o63_ rfl b65_
          have f69_ : pvFr fp_eX9_shut_0_x M M66_ := pvfr_u e67_ f64_ rfl
          have b70_ : 0 ≤ Int32.toInt (M66_.1 (pvbs 10 + Int32.toNatClampNeg n1) 3) ∧ Int32.toInt (M66_.1 (pvbs 10 + Int32.toNatClampNeg n1) 3) ≤ 4 := pvok_r o68_ (pvbs 10 + Int32.toNatClampNeg n1) 3 ((pvrg_o 3 k20_ (by decide) (by decide)).trans rfl)
          refine pw_blkw hT 5 (pc := 117) (lo := [some (pvR 0), some (pvI n1), some (pvR (pvbs 10 + Int32.toNatClampNeg n1)), some (pvI x29_)]) (st := []) (M := pvu M66_ 8 7 (M66_.1 (pvbs 10 + Int32.toNatClampNeg n1) 3)) rfl ⟨trivial, rfl, trivial, k20_, rfl, trivial⟩ (fun M71_ e72_ => ?_)
          have o73_ : pvOk M71_ := pvok_u2 e72_ o68_ rfl b70_
          have f74_ : pvFr fp_eX9_shut_0_x M M71_ := pvfr_u e72_ f69_ rfl
          refine pw_blk hT 1 (S' := (118, [some (pvR 0), some (pvI n1), some (pvR (pvbs 10 + Int32.toNatClampNeg n1)), some (pvI x29_)], [pvI x29_], M71_)) rfl ⟨trivial, trivial⟩ ?_
          exact pw_ret hT rfl (r := some (pvI x29_)) (M' := M71_) ⟨rfl, rfl⟩ ⟨⟨_, rfl, (zr_wide b34_ (by decide) (by decide))⟩, o73_, f74_, ⟨zwT_i (by have u := b34_; omega) b16_ (((((pvu_n e72_ 8 4 (Or.inr (by decide))).trans (pvu_n e67_ 8 4 (Or.inr (by decide)))).trans (pvu_n e62_ 8 4 (Or.inl (fun z => absurd (z ▸ k20_) (by decide))))).trans (d54_.2)).trans (show ((M46_.1 8 4) + x29_) = ((M.1 8 4) + x29_) from by rw [(g49_ 8 4 rfl)])) ((pvu_n e72_ 8 6 (Or.inr (by decide))).trans ((pvu_s e67_).trans (((pvu_n e62_ (pvbs 10 + Int32.toNatClampNeg n1) 2 (Or.inr (by decide))).trans (g59_ (pvbs 10 + Int32.toNatClampNeg n1) 2 (zfpn (L := fpL_eX9_go_0_x) b16_ (by decide +kernel)))).trans (g49_ (pvbs 10 + Int32.toNatClampNeg n1) 2 (zfpn (L := fpL_eX1_beginFromNow_5) b16_ (by decide +kernel)))))) ((pvu_s e72_).trans ((pvu_n e67_ (pvbs 10 + Int32.toNatClampNeg n1) 3 (Or.inl (show (pvbs 10 + Int32.toNatClampNeg n1) ≠ 8 from by have u : pvbs 10 = 60 := rfl; omega))).trans (((pvu_n e62_ (pvbs 10 + Int32.toNatClampNeg n1) 3 (Or.inr (by decide))).trans (g59_ (pvbs 10 + Int32.toNatClampNeg n1) 3 (zfpn (L := fpL_eX9_go_0_x) b16_ (by decide +kernel)))).trans (g49_ (pvbs 10 + Int32.toNatClampNeg n1) 3 (zfpn (L := fpL_eX1_beginFromNow_5) b16_ (by decide +kernel)))))) (zVu5 e62_ (fun i _ => (pvu_n e72_ (60 + i) 5 (Or.inl (by omega))).trans (pvu_n e67_ (60 + i) 5 (Or.inl (by omega)))) (fun i hi => ((zfr5 (L := fpL_eX9_go_0_x) g59_ (by decide +kernel) i hi).trans (zfr5 (L := fpL_eX1_beginFromNow_5) g49_ (by decide +kernel) i hi)))), zsA_2 (zvl_y c7_ c12_) c37_ (by have b := b43_; unfold zcS9; rw [← d35_]; omega) d35_⟩, (zKy9_t (zKy9_t (zKy9_t (zKy9_t (zKy9_fr (L := fpL_eX1_beginFromNow_5) g49_ (by decide +kernel)) (zKy9_fr (L := fpL_eX9_go_0_x) g59_ (by decide +kernel))) (zKy9_u e62_ (by have v : pvbs 10 = 60 := rfl; omega) (fun i hi => by have v : pvbs 10 = 60 := rfl; have w : Int32.toNatClampNeg n1 < 7 := (by have u := b16_; show n1.toInt.toNat < 7; omega); omega))) (zKy9_u e67_ (by decide) (fun i hi => by omega))) (zKy9_u e72_ (by decide) (fun i hi => by omega))), (yWK_t o68_ (yWK_t o63_ (yWK_t o58_ (yWK_t o48_ (yWK_B d44_) (yWK_fr (L := fpL_eX9_go_0_x) g59_ (by decide +kernel))) (yWK_5 e62_ (by have v : pvbs 10 = 60 := rfl; omega))) (yWK_8 e67_ (by decide))) (yWK_8 e72_ (by decide))), ⟨((pvu_n e72_ 9 5 (Or.inl (by decide))).trans ((pvu_n e67_ 9 5 (Or.inl (by decide))).trans ((pvu_n e62_ 9 5 (Or.inl (by have v : pvbs 10 = 60 := rfl; omega))).trans ((g59_ 9 5 rfl).trans (g49_ 9 5 rfl))))), _, rfl, Or.inr ⟨(by have u := b34_; omega), yPx9_c (yPx9_i hok o48_ (by have u := b34_; omega) d44_ d54_.1) ((pvu_n e72_ 8 5 (Or.inr (by decide))).trans ((pvu_n e67_ 8 5 (Or.inr (by decide))).trans (pvu_n e62_ 8 5 (Or.inl (by have v : pvbs 10 = 60 := rfl; omega)))))⟩⟩⟩
        · have b75_ : 10000 ≤ Int32.toInt ((M.1 8 4) + x29_) ∧ Int32.toInt ((M.1 8 4) + x29_) ≤ 10318 := zr_nle_l 10000 c42_ b40_ (show 9999 ≤ Int32.toInt 9999 ∧ Int32.toInt 9999 ≤ 9999 from (by decide)) (by decide)
          refine pw_blk hT 1 (S' := (76, [some (pvR 0), some (pvI n1), some (pvR (pvbs 10 + Int32.toNatClampNeg n1)), some (pvI x29_)], [pvI (-3)], M)) rfl ⟨trivial, trivial⟩ ?_
          exact pw_ret hT rfl (r := some (pvI (-3))) (M' := M) ⟨rfl, rfl⟩ ⟨⟨_, rfl, (zr_wide (show (-3) ≤ Int32.toInt (-3) ∧ Int32.toInt (-3) ≤ (-3) from (by decide)) (by decide) (by decide))⟩, hok, pvfr_0, ⟨zwT_n (by decide), zsA_1 (zvl_y c7_ c12_) (Or.inr (by have b := b75_; unfold zcS9; rw [← d35_]; omega))⟩, (zKy9_r 9 74 M), (yWK_r M), ⟨rfl, _, rfl, Or.inl ⟨by decide, rfl⟩⟩⟩
