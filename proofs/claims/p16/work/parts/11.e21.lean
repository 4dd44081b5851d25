set_option maxHeartbeats 4000000 in
set_option maxRecDepth 10000 in
theorem se_X1_harmOfAll_5_x_x (M : pvM) (hok : pvOk M) (n1 : Int32) (n2 : Int32) (hn1 : 0 ≤ Int32.toInt n1 ∧ Int32.toInt n1 ≤ 200000) (hn2 : 0 ≤ Int32.toInt n2 ∧ Int32.toInt n2 ≤ 200000) (d : Nat) : PW 113 d (0, [some (pvR 5), some (pvI n1), some (pvI n2), none, none], [], M) (fun r X => (∃ x : Int32, r = some (pvI x) ∧ True ∧ yHA M n1 n2 x) ∧ X = M) := by
  have hT : pvdom 113 = pvD_113 := rfl
  refine pw_blk hT 4 (S' := (5, [some (pvR 5), some (pvI n1), some (pvI n2), some (pvI 0), some (pvI 0)], [], M)) rfl ⟨trivial, trivial, trivial, trivial, trivial⟩ ?_
  have hlz51_ : ∀ (nz51_ : Nat) (i3z51_ : Int32) (i4z51_ : Int32), (0 ≤ Int32.toInt i4z51_ ∧ Int32.toInt i4z51_ ≤ 7) → (yAI M n1 n2 i3z51_ i4z51_) → (zhide ((8 - Int32.toInt i4z51_).toNat < nz51_)) → PW 113 d (5, [some (pvR 5), some (pvI n1), some (pvI n2), some (pvI i3z51_), some (pvI i4z51_)], [], M) (fun r X => (∃ x : Int32, r = some (pvI x) ∧ True ∧ yHA M n1 n2 x) ∧ X = M) := by
    intro nz51_
    induction nz51_ with
    | zero => intro i3z51_ i4z51_ h4z51_ j0z51_ hmz51_; exact absurd (zshow hmz51_) (Nat.not_lt_zero _)
    | succ nz51_ ihz51_ =>
      intro i3z51_ i4z51_ h4z51_ j0z51_ hmz51_
      have b52_ : 0 ≤ Int32.toInt (M.1 8 1) ∧ Int32.toInt (M.1 8 1) ≤ 7 := pvok_r hok 8 1 rfl
      refine pw_blk hT 4 (S' := (14, [some (pvR 5), some (pvI n1), some (pvI n2), some (pvI i3z51_), some (pvI i4z51_)], [pvI (M.1 8 1), pvI i4z51_], M)) rfl ⟨trivial, trivial, rfl, rfl, trivial⟩ ?_
      refine pw_ic hT (c := (M.1 8 1) ≤ i4z51_) rfl rfl (fun c53_ => ?_) (fun c53_ => ?_)
      · have d54_ : Int32.toInt (M.1 8 1) ≤ Int32.toInt i4z51_ := (zi_le _ _).mp c53_
        refine pw_blk hT 1 (S' := (35, [some (pvR 5), some (pvI n1), some (pvI n2), some (pvI i3z51_), some (pvI i4z51_)], [pvI i3z51_], M)) rfl ⟨trivial, trivial⟩ ?_
        exact pw_ret hT rfl (r := some (pvI i3z51_)) (M' := M) ⟨rfl, rfl⟩ ⟨⟨_, rfl, trivial, (yAI_e j0z51_ (by omega))⟩, rfl⟩
      · have b55_ : 1 ≤ Int32.toInt (M.1 8 1) ∧ Int32.toInt (M.1 8 1) ≤ 7 := zr_nle_l 1 c53_ b52_ h4z51_ (by decide)
        have b56_ : 0 ≤ Int32.toInt i4z51_ ∧ Int32.toInt i4z51_ ≤ 6 := zr_nle_r 6 c53_ h4z51_ b55_ (by decide)
        have d57_ : Int32.toInt (M.1 8 1) > Int32.toInt i4z51_ := Int.not_le.mp ((not_congr (zi_le _ _)).mp c53_)
        refine pw_blk hT 5 (S' := (23, [some (pvR 5), some (pvI n1), some (pvI n2), some (pvI i3z51_), some (pvI i4z51_)], [pvI n2, pvI n1, pvI i4z51_, pvR 5, pvI i3z51_], M)) rfl ⟨trivial, trivial, trivial, trivial, trivial, trivial⟩ ?_
        refine pw_callGp hT (as := [pvR 5, pvI i4z51_, pvI n1, pvI n2]) (lo1 := [some (pvR 5), some (pvI i4z51_), some (pvI n1), some (pvI n2), none, none, none, none]) (d1 := d) (rest := [pvI i3z51_]) rfl rfl rfl rfl rfl (fun _ => rfl) (Nat.zero_le _) rfl rfl rfl (se_X1_harmOf_5_x_x_x M hok i4z51_ n1 n2 b56_ hn1 hn2 d) (fun x58_ b60_ => ?_)
        obtain ⟨b63_, d64_⟩ := b60_
        obtain ⟨q66_, b65_⟩ : (Int32.toInt (i4z51_ + 1) = Int32.toInt i4z51_ + 1) ∧ (1 ≤ Int32.toInt (i4z51_ + 1) ∧ Int32.toInt (i4z51_ + 1) ≤ 7) := zadd_k i4z51_ 1 1 1 7 b56_ (by decide) (by decide) (by decide) (by decide) (by decide)
        refine pw_blk hT 4 (S' := (5, [some (pvR 5), some (pvI n1), some (pvI n2), some (pvI (i3z51_ + x58_)), some (pvI (i4z51_ + 1))], [], M)) rfl ⟨trivial, trivial, trivial, trivial, trivial⟩ ?_
        have j67_ : yAI M n1 n2 (i3z51_ + x58_) (i4z51_ + 1) := (yAI_s hok j0z51_ hn1.1 (by have u := b56_; omega) (by omega) (by omega) d64_)
        exact ihz51_ (i3z51_ + x58_) (i4z51_ + 1) (zr_wide b65_ (by decide) (by decide)) j67_ (zhid (pvms_up (zshow hmz51_) h4z51_ q66_ (by decide) (by decide)))
  have u68_ : Int32.toInt 0 = 0 := by decide
  have j69_ : yAI M n1 n2 0 0 := (yAI_0 hok n1 n2)
  exact hlz51_ _ 0 0 (zr_wide (show 0 ≤ Int32.toInt 0 ∧ Int32.toInt 0 ≤ 0 from (by decide)) (by decide) (by decide)) j69_ (zhid (Nat.lt_succ_self _))
set_option maxHeartbeats 4000000 in
set_option maxRecDepth 10000 in
theorem se_X1_cost_5 (M : pvM) (hok : pvOk M) (d : Nat) : PW 103 d (0, [some (pvR 5)], [], M) (fun r X => (∃ x : Int32, r = some (pvI x) ∧ True ∧ yCo M x) ∧ X = M) := by
  have hT : pvdom 103 = pvD_103 := rfl
  have b1_ : 0 ≤ Int32.toInt (M.1 8 4) ∧ Int32.toInt (M.1 8 4) ≤ 9999 := pvok_r hok 8 4 rfl
  refine pw_blk hT 5 (S' := (9, [some (pvR 5)], [pvR 5, pvI (M.1 8 4), pvR 5], M)) rfl ⟨trivial, trivial, rfl, rfl, trivial, trivial⟩ ?_
  refine pw_callGp hT (as := [pvR 5]) (lo1 := [some (pvR 5)]) (d1 := d) (rest := [pvI (M.1 8 4), pvR 5]) rfl rfl rfl rfl rfl (fun _ => rfl) (Nat.zero_le _) rfl rfl rfl (se_X1_stormEnd_5 M hok d) (fun x2_ b4_ => ?_)
  obtain ⟨b7_, d8_⟩ := b4_
  refine pw_callGp hT (as := [pvR 5, pvI (M.1 8 4), pvI x2_]) (lo1 := [some (pvR 5), some (pvI (M.1 8 4)), some (pvI x2_), none, none]) (d1 := d) (rest := []) rfl rfl rfl rfl rfl (fun _ => rfl) (Nat.zero_le _) rfl rfl rfl (se_X1_harmOfAll_5_x_x M hok (M.1 8 4) x2_ (zr_wide b1_ (by decide) (by decide)) (zr_wide b7_ (by decide) (by decide)) d) (fun x9_ b11_ => ?_)
  obtain ⟨b14_, d15_⟩ := b11_
  exact pw_ret hT rfl (r := some (pvI x9_)) (M' := M) ⟨rfl, rfl⟩ ⟨⟨_, rfl, trivial, (yCo_i d15_ d8_)⟩, rfl⟩
def fpL_eX9_begin_0_x : List (Nat × Nat × Nat) := [(0, 12, 0), (0, 13, 0), (0, 14, 0), (0, 5, 2), (0, 5, 3), (1, 112, 0)]
def fp_eX9_begin_0_x (q k : Nat) : Bool := pvfp fpL_eX9_begin_0_x q k
theorem fp_eX9_begin_0_x_fp_eX1_beginFromNow_5 (a b : Nat) (h : fp_eX1_beginFromNow_5 a b = true) : fp_eX9_begin_0_x a b = true := pvfp_sub (l1 := fpL_eX1_beginFromNow_5) (l2 := fpL_eX9_begin_0_x) (by decide) a b h
theorem fp_eX9_begin_0_x_fp_eX1_goRound_5_x (a b : Nat) (h : fp_eX1_goRound_5_x a b = true) : fp_eX9_begin_0_x a b = true := pvfp_sub (l1 := fpL_eX1_goRound_5_x) (l2 := fpL_eX9_begin_0_x) (by decide) a b h
set_option maxHeartbeats 4000000 in
set_option maxRecDepth 10000 in
theorem se_X9_begin_0_x (M : pvM) (hok : pvOk M) (n1 : Int32) (d : Nat) : PW 169 d (0, [some (pvR 0), some (pvI n1), none, none, none, none], [], M) (fun r X => (∃ x : Int32, r = some (pvI x) ∧ (-1) ≤ Int32.toInt x ∧ Int32.toInt x ≤ 2147483647) ∧ pvOk X ∧ pvFr fp_eX9_begin_0_x M X ∧ yAn (yGbg n1) r M X) := by
  have hT : pvdom 169 = pvD_169 := rfl
  refine pw_blk hT 3 (S' := (3, [some (pvR 0), some (pvI n1), none, none, none, none], [pvI 1, pvI 0, pvI n1], M)) rfl ⟨trivial, trivial, trivial, trivial⟩ ?_
  refine pw_callT hT (as := [pvI n1, pvI 0, pvI 1]) (lo1 := [some (pvI n1), some (pvI 0), some (pvI 1)]) (d1 := d) (rest := []) rfl rfl rfl rfl rfl (fun h => absurd h (by decide)) (Nat.zero_le _) rfl rfl rfl (sf_X9_within_x_x_x M hok n1 0 1 d) ?_
  by_cases c6_ : n1 < 0
  · refine pw_eqI (if_pos c6_) ?_
    have b7_ : (-2147483648) ≤ Int32.toInt n1 ∧ Int32.toInt n1 ≤ (-1) := zr_lt_l (-1) c6_ (zbnd n1) (show 0 ≤ Int32.toInt 0 ∧ Int32.toInt 0 ≤ 0 from (by decide)) (by decide)
    show PW 169 d (6, [some (pvR 0), some (pvI n1), none, none, none, none], [pvI 0], M) _
    refine pw_ifn hT (c := 0 = 0) rfl rfl (fun c8_ => absurd (by decide) c8_) (fun c8_ => ?_)
    refine pw_blk hT 1 (S' := (10, [some (pvR 0), some (pvI n1), none, none, none, none], [pvI (-1)], M)) rfl ⟨trivial, trivial⟩ ?_
    exact pw_ret hT rfl (r := some (pvI (-1))) (M' := M) ⟨rfl, rfl⟩ ⟨⟨_, rfl, (zr_wide (show (-1) ≤ Int32.toInt (-1) ∧ Int32.toInt (-1) ≤ (-1) from (by decide)) (by decide) (by decide))⟩, hok, pvfr_0, (yGbg_n (by have u := b7_; omega) (by decide))⟩
  · refine pw_eqI (if_neg c6_) ?_
    have b9_ : 0 ≤ Int32.toInt n1 ∧ Int32.toInt n1 ≤ 2147483647 := zr_nlt_l 0 c6_ (zbnd n1) (show 0 ≤ Int32.toInt 0 ∧ Int32.toInt 0 ≤ 0 from (by decide)) (by decide)
    by_cases c10_ : 1 < n1
    · refine pw_eqI (if_pos c10_) ?_
      have b11_ : 2 ≤ Int32.toInt n1 ∧ Int32.toInt n1 ≤ 2147483647 := zr_lt_r 2 c10_ b9_ (show 1 ≤ Int32.toInt 1 ∧ Int32.toInt 1 ≤ 1 from (by decide)) (by decide)
      show PW 169 d (6, [some (pvR 0), some (pvI n1), none, none, none, none], [pvI 0], M) _
      refine pw_ifn hT (c := 0 = 0) rfl rfl (fun c12_ => absurd (by decide) c12_) (fun c12_ => ?_)
      refine pw_blk hT 1 (S' := (10, [some (pvR 0), some (pvI n1), none, none, none, none], [pvI (-1)], M)) rfl ⟨trivial, trivial⟩ ?_
      exact pw_ret hT rfl (r := some (pvI (-1))) (M' := M) ⟨rfl, rfl⟩ ⟨⟨_, rfl, (zr_wide (show (-1) ≤ Int32.toInt (-1) ∧ Int32.toInt (-1) ≤ (-1) from (by decide)) (by decide) (by decide))⟩, hok, pvfr_0, (yGbg_n (by have u := b11_; omega) (by decide))⟩
    · refine pw_eqI (if_neg c10_) ?_
      have b13_ : 0 ≤ Int32.toInt n1 ∧ Int32.toInt n1 ≤ 1 := zr_nlt_r 1 c10_ b9_ (show 1 ≤ Int32.toInt 1 ∧ Int32.toInt 1 ≤ 1 from (by decide)) (by decide)
      show PW 169 d (6, [some (pvR 0), some (pvI n1), none, none, none, none], [pvI 1], M) _
      refine pw_ifn hT (c := 1 = 0) rfl rfl (fun c14_ => ?_) (fun c14_ => absurd c14_ (by decide))
      refine pw_blk hT 2 (S' := (15, [some (pvR 0), some (pvI n1), none, none, none, none], [pvR 5], M)) rfl ⟨trivial, rfl, trivial⟩ ?_
      refine pw_callVd hT (as := [pvR 5]) (lo1 := [some (pvR 5)]) (d1 := d) (rest := []) rfl rfl rfl rfl rfl (fun _ => rfl) (Nat.zero_le _) rfl rfl rfl (se_X1_beginFromNow_5 M hok d) (fun M17_ o19_ g20_ d15_ => ?_)
      have f21_ : pvFr fp_eX9_begin_0_x M M17_ := pvfr_t g20_ pvfr_0 fp_eX9_begin_0_x_fp_eX1_beginFromNow_5
      refine pw_blk hT 3 (S' := (23, [some (pvR 0), some (pvI n1), none, none, none, none], [pvI 0, pvR 5], M17_)) rfl ⟨trivial, rfl, trivial, trivial⟩ ?_
      refine pw_callGd hT (as := [pvR 5, pvI 0]) (lo1 := [some (pvR 5), some (pvI 0)]) (d1 := d) (rest := []) rfl rfl rfl rfl rfl (fun _ => rfl) (Nat.zero_le _) rfl rfl rfl (se_X1_goRound_5_x M17_ o19_ 0 (zr_wide (show 0 ≤ Int32.toInt 0 ∧ Int32.toInt 0 ≤ 0 from (by decide)) (by decide) (by decide)) d) (fun x23_ M24_ b25_ o26_ g27_ d22_ => ?_)
      have f28_ : pvFr fp_eX9_begin_0_x M M24_ := pvfr_t g27_ f21_ fp_eX9_begin_0_x_fp_eX1_goRound_5_x
      refine pw_blk hT 7 (S' := (34, [some (pvR 0), some (pvI n1), some (pvI 0), some (pvI (-1)), some (pvI 0), none], [], M24_)) rfl ⟨trivial, trivial, trivial, trivial, trivial, trivial, trivial, trivial⟩ ?_
      have hlz132_ : ∀ (nz132_ : Nat) (i2z132_ : Int32) (i3z132_ : Int32) (i4z132_ : Int32) (v5z132_ : Option pvV) (Mz132_ : pvM), (pvOk Mz132_) → (pvFr fp_eX9_begin_0_x M Mz132_) → (0 ≤ Int32.toInt i2z132_ ∧ Int32.toInt i2z132_ ≤ 2147483647) → ((-1) ≤ Int32.toInt i3z132_ ∧ Int32.toInt i3z132_ ≤ 2147483647) → (0 ≤ Int32.toInt i4z132_ ∧ Int32.toInt i4z132_ ≤ 100) → (yBgI M Mz132_ i2z132_ i3z132_ i4z132_) → (zhide ((101 - Int32.toInt i4z132_).toNat < nz132_)) → PW 169 d (34, [some (pvR 0), some (pvI n1), some (pvI i2z132_), some (pvI i3z132_), some (pvI i4z132_), v5z132_], [], Mz132_) (fun r X => (∃ x : Int32, r = some (pvI x) ∧ (-1) ≤ Int32.toInt x ∧ Int32.toInt x ≤ 2147483647) ∧ pvOk X ∧ pvFr fp_eX9_begin_0_x M X ∧ yAn (yGbg n1) r M X) := by
        intro nz132_
        induction nz132_ with
        | zero => intro i2z132_ i3z132_ i4z132_ v5z132_ Mz132_ oz132_ fz132_ h2z132_ h3z132_ h4z132_ j0z132_ hmz132_; exact absurd (zshow hmz132_) (Nat.not_lt_zero _)
        | succ nz132_ ihz132_ =>
          intro i2z132_ i3z132_ i4z132_ v5z132_ Mz132_ oz132_ fz132_ h2z132_ h3z132_ h4z132_ j0z132_ hmz132_
          refine pw_blk hT 2 (S' := (38, [some (pvR 0), some (pvI n1), some (pvI i2z132_), some (pvI i3z132_), some (pvI i4z132_), v5z132_], [pvI 99, pvI i4z132_], Mz132_)) rfl ⟨trivial, trivial, trivial⟩ ?_
          refine pw_ic hT (c := 99 < i4z132_) rfl rfl (fun c133_ => ?_) (fun c133_ => ?_)
          · have b134_ : 100 ≤ Int32.toInt i4z132_ ∧ Int32.toInt i4z132_ ≤ 100 := zr_lt_r 100 c133_ h4z132_ (show 99 ≤ Int32.toInt 99 ∧ Int32.toInt 99 ≤ 99 from (by decide)) (by decide)
            refine pw_blk hT 1 (S' := (78, [some (pvR 0), some (pvI n1), some (pvI i2z132_), some (pvI i3z132_), some (pvI i4z132_), v5z132_], [pvI n1], Mz132_)) rfl ⟨trivial, trivial⟩ ?_
            refine pw_ifn hT (c := n1 = 0) rfl rfl (fun c135_ => ?_) (fun c135_ => ?_)
            · have b136_ : 1 ≤ Int32.toInt n1 ∧ Int32.toInt n1 ≤ 1 := (by have u0 := b13_; have u1 := (not_congr (zi_eq _ _)).mp c135_; have u2 := (show 0 ≤ Int32.toInt 0 ∧ Int32.toInt 0 ≤ 0 from (by decide)); omega)
              refine pw_blk hT 1 (S' := (86, [some (pvR 0), some (pvI n1), some (pvI i2z132_), some (pvI i3z132_), some (pvI i4z132_), v5z132_], [pvI i3z132_], Mz132_)) rfl ⟨trivial, trivial⟩ ?_
              exact pw_ret hT rfl (r := some (pvI i3z132_)) (M' := Mz132_) ⟨rfl, rfl⟩ ⟨⟨_, rfl, h3z132_⟩, oz132_, fz132_, ((yGbg_e j0z132_ (by have u := b134_; omega) (by have u := b136_; omega)).2 (by have u := b136_; omega))⟩
            · have b137_ : 0 ≤ Int32.toInt n1 ∧ Int32.toInt n1 ≤ 0 := (by have u0 := b13_; have u1 := (zi_eq _ _).mp c135_; have u2 := (show 0 ≤ Int32.toInt 0 ∧ Int32.toInt 0 ≤ 0 from (by decide)); omega)
              refine pw_blk hT 2 (S' := (86, [some (pvR 0), some (pvI n1), some (pvI i2z132_), some (pvI i3z132_), some (pvI i4z132_), v5z132_], [pvI i2z132_], Mz132_)) rfl ⟨trivial, trivial, trivial⟩ ?_
              exact pw_ret hT rfl (r := some (pvI i2z132_)) (M' := Mz132_) ⟨rfl, rfl⟩ ⟨⟨_, rfl, (zr_wide h2z132_ (by decide) (by decide))⟩, oz132_, fz132_, ((yGbg_e j0z132_ (by have u := b134_; omega) (by have u := b137_; omega)).1 (by have u := b137_; omega))⟩
          · have b138_ : 0 ≤ Int32.toInt i4z132_ ∧ Int32.toInt i4z132_ ≤ 99 := zr_nlt_r 99 c133_ h4z132_ (show 99 ≤ Int32.toInt 99 ∧ Int32.toInt 99 ≤ 99 from (by decide)) (by decide)
            refine pw_blkw hT 4 (pc := 50) (lo := [some (pvR 0), some (pvI n1), some (pvI i2z132_), some (pvI i3z132_), some (pvI i4z132_), v5z132_]) (st := []) (M := pvu Mz132_ 5 2 i4z132_) rfl ⟨trivial, rfl, trivial, rfl, trivial⟩ (fun M139_ e140_ => ?_)
            have o141_ : pvOk M139_ := pvok_u2 e140_ oz132_ rfl (zr_wide b138_ (by decide) (by decide))
            have f142_ : pvFr fp_eX9_begin_0_x M M139_ := pvfr_u e140_ fz132_ rfl
            refine pw_blk hT 2 (S' := (54, [some (pvR 0), some (pvI n1), some (pvI i2z132_), some (pvI i3z132_), some (pvI i4z132_), v5z132_], [pvR 5], M139_)) rfl ⟨trivial, rfl, trivial⟩ ?_
            refine pw_callGp hT (as := [pvR 5]) (lo1 := [some (pvR 5)]) (d1 := d) (rest := []) rfl rfl rfl rfl rfl (fun _ => rfl) (Nat.zero_le _) rfl rfl rfl (se_X1_cost_5 M139_ o141_ d) (fun x143_ b145_ => ?_)
            obtain ⟨b148_, d149_⟩ := b145_
            refine pw_blk hT 3 (S' := (62, [some (pvR 0), some (pvI n1), some (pvI i2z132_), some (pvI i3z132_), some (pvI i4z132_), some (pvI x143_)], [pvI i3z132_, pvI x143_], M139_)) rfl ⟨trivial, trivial, trivial, trivial⟩ ?_
            refine pw_ic hT (c := x143_ ≤ i3z132_) rfl rfl (fun c150_ => ?_) (fun c150_ => ?_)
            · have d151_ : Int32.toInt x143_ ≤ Int32.toInt i3z132_ := (zi_le _ _).mp c150_
              obtain ⟨q153_, b152_⟩ : (Int32.toInt (i4z132_ + 1) = Int32.toInt i4z132_ + 1) ∧ (1 ≤ Int32.toInt (i4z132_ + 1) ∧ Int32.toInt (i4z132_ + 1) ≤ 100) := zadd_k i4z132_ 1 1 1 100 b138_ (by decide) (by decide) (by decide) (by decide) (by decide)
              refine pw_blk hT 2 (S' := (34, [some (pvR 0), some (pvI n1), some (pvI i2z132_), some (pvI i3z132_), some (pvI (i4z132_ + 1)), some (pvI x143_)], [], M139_)) rfl ⟨trivial, trivial, trivial⟩ ?_
              have j154_ : yBgI M M139_ i2z132_ i3z132_ (i4z132_ + 1) := (yBgI_n hok oz132_ o141_ j0z132_ e140_ (by have u := b138_; omega) d149_ (by omega) c150_)
              exact ihz132_ i2z132_ i3z132_ (i4z132_ + 1) (some (pvI x143_)) M139_ o141_ f142_ h2z132_ h3z132_ (zr_wide b152_ (by decide) (by decide)) j154_ (zhid (pvms_up (zshow hmz132_) h4z132_ q153_ (by decide) (by decide)))
            · have b155_ : 0 ≤ Int32.toInt x143_ ∧ Int32.toInt x143_ ≤ 2147483647 := zr_nle_l 0 c150_ (zbnd x143_) h3z132_ (by decide)
              have b156_ : (-1) ≤ Int32.toInt i3z132_ ∧ Int32.toInt i3z132_ ≤ 2147483646 := zr_nle_r 2147483646 c150_ h3z132_ b155_ (by decide)
              have d157_ : Int32.toInt x143_ > Int32.toInt i3z132_ := Int.not_le.mp ((not_congr (zi_le _ _)).mp c150_)
              obtain ⟨q159_, b158_⟩ : (Int32.toInt (i4z132_ + 1) = Int32.toInt i4z132_ + 1) ∧ (1 ≤ Int32.toInt (i4z132_ + 1) ∧ Int32.toInt (i4z132_ + 1) ≤ 100) := zadd_k i4z132_ 1 1 1 100 b138_ (by decide) (by decide) (by decide) (by decide) (by decide)
              refine pw_blk hT 6 (S' := (34, [some (pvR 0), some (pvI n1), some (pvI i4z132_), some (pvI x143_), some (pvI (i4z132_ + 1)), some (pvI x143_)], [], M139_)) rfl ⟨trivial, trivial, trivial, trivial, trivial, trivial, trivial⟩ ?_
              have j160_ : yBgI M M139_ i4z132_ x143_ (i4z132_ + 1) := (yBgI_y hok oz132_ o141_ j0z132_ e140_ (by have u := b138_; omega) d149_ (by omega) c150_)
              exact ihz132_ i4z132_ x143_ (i4z132_ + 1) (some (pvI x143_)) M139_ o141_ f142_ (zr_wide b138_ (by decide) (by decide)) (zr_wide b155_ (by decide) (by decide)) (zr_wide b158_ (by decide) (by decide)) j160_ (zhid (pvms_up (zshow hmz132_) h4z132_ q159_ (by decide) (by decide)))
      have u161_ : Int32.toInt 0 = 0 := by decide
      have u162_ : Int32.toInt (-1) = (-1) := by decide
      have j163_ : yBgI M M24_ 0 (-1) 0 := (yBgI_0 (yRn9_i hok o19_ d15_ d22_) (by decide) (by decide) (by decide))
      exact hlz132_ _ 0 (-1) 0 none M24_ o26_ f28_ (zr_wide (show 0 ≤ Int32.toInt 0 ∧ Int32.toInt 0 ≤ 0 from (by decide)) (by decide) (by decide)) (zr_wide (show (-1) ≤ Int32.toInt (-1) ∧ Int32.toInt (-1) ≤ (-1) from (by decide)) (by decide) (by decide)) (zr_wide (show 0 ≤ Int32.toInt 0 ∧ Int32.toInt 0 ≤ 0 from (by decide)) (by decide) (by decide)) j163_ (zhid (Nat.lt_succ_self _))
set_option maxHeartbeats 4000000 in
set_option maxRecDepth 10000 in
theorem se_X7_openBits_8 (M : pvM) (hok : pvOk M) (d : Nat) : PW 160 d (0, [some (pvR 8), none, none], [], M) (fun r X => (∃ x : Int32, r = some (pvI x) ∧ True ∧ x = yOb M (yWn M)) ∧ X = M) := by
  have hT : pvdom 160 = pvD_160 := rfl
  refine pw_blk hT 4 (S' := (4, [some (pvR 8), some (pvI 0), some (pvI 0)], [], M)) rfl ⟨trivial, trivial, trivial, trivial, trivial⟩ ?_
  have hlz55_ : ∀ (nz55_ : Nat) (i1z55_ : Int32) (i2z55_ : Int32), (0 ≤ Int32.toInt i2z55_ ∧ Int32.toInt i2z55_ ≤ 7) → (yObI M i1z55_ i2z55_) → (zhide ((8 - Int32.toInt i2z55_).toNat < nz55_)) → PW 160 d (4, [some (pvR 8), some (pvI i1z55_), some (pvI i2z55_)], [], M) (fun r X => (∃ x : Int32, r = some (pvI x) ∧ True ∧ x = yOb M (yWn M)) ∧ X = M) := by
    intro nz55_
    induction nz55_ with
    | zero => intro i1z55_ i2z55_ h2z55_ j0z55_ hmz55_; exact absurd (zshow hmz55_) (Nat.not_lt_zero _)
    | succ nz55_ ihz55_ =>
      intro i1z55_ i2z55_ h2z55_ j0z55_ hmz55_
      have b56_ : 0 ≤ Int32.toInt (M.1 8 1) ∧ Int32.toInt (M.1 8 1) ≤ 7 := pvok_r hok 8 1 rfl
      refine pw_blk hT 3 (S' := (9, [some (pvR 8), some (pvI i1z55_), some (pvI i2z55_)], [pvI (M.1 8 1), pvI i2z55_], M)) rfl ⟨trivial, trivial, rfl, trivial⟩ ?_
      refine pw_ic hT (c := (M.1 8 1) ≤ i2z55_) rfl rfl (fun c57_ => ?_) (fun c57_ => ?_)
      · have d58_ : Int32.toInt (M.1 8 1) ≤ Int32.toInt i2z55_ := (zi_le _ _).mp c57_
        refine pw_blk hT 1 (S' := (37, [some (pvR 8), some (pvI i1z55_), some (pvI i2z55_)], [pvI i1z55_], M)) rfl ⟨trivial, trivial⟩ ?_
        exact pw_ret hT rfl (r := some (pvI i1z55_)) (M' := M) ⟨rfl, rfl⟩ ⟨⟨_, rfl, trivial, (yObI_e j0z55_ c57_)⟩, rfl⟩
      · have b59_ : 1 ≤ Int32.toInt (M.1 8 1) ∧ Int32.toInt (M.1 8 1) ≤ 7 := zr_nle_l 1 c57_ b56_ h2z55_ (by decide)
        have b60_ : 0 ≤ Int32.toInt i2z55_ ∧ Int32.toInt i2z55_ ≤ 6 := zr_nle_r 6 c57_ h2z55_ b59_ (by decide)
        have d61_ : Int32.toInt (M.1 8 1) > Int32.toInt i2z55_ := Int.not_le.mp ((not_congr (zi_le _ _)).mp c57_)
        refine pw_blkr hT 4 (pc := 18) (lo := [some (pvR 8), some (pvI i1z55_), some (pvI i2z55_)]) (st := []) (M := M) (z := (pvbs 10 + Int32.toNatClampNeg i2z55_)) rfl ⟨trivial, rfl, trivial, ⟨rfl, (zr_in (n := 7) b60_ (by decide) (by decide))⟩, trivial⟩ (fun q62_ e64_ => ?_)
        have k63_ : pvkl q62_ = 3 := pvel_10 (zr_in (n := 7) b60_ (by decide) (by decide)) e64_
        subst e64_
        have b65_ : 0 ≤ Int32.toInt (M.1 (pvbs 10 + Int32.toNatClampNeg i2z55_) 5) ∧ Int32.toInt (M.1 (pvbs 10 + Int32.toNatClampNeg i2z55_) 5) ≤ 1 := pvok_r hok (pvbs 10 + Int32.toNatClampNeg i2z55_) 5 ((pvrg_o 5 k63_ (by decide) (by decide)).trans rfl)
        refine pw_blk hT 1 (S' := (21, [some (pvR 8), some (pvI i1z55_), some (pvI i2z55_)], [pvI (M.1 (pvbs 10 + Int32.toNatClampNeg i2z55_) 5)], M)) rfl ⟨k63_, trivial⟩ ?_
        refine pw_ifn hT (c := (M.1 (pvbs 10 + Int32.toNatClampNeg i2z55_) 5) = 0) rfl rfl (fun c66_ => ?_) (fun c66_ => ?_)
        · have b67_ : 1 ≤ Int32.toInt (M.1 (pvbs 10 + Int32.toNatClampNeg i2z55_) 5) ∧ Int32.toInt (M.1 (pvbs 10 + Int32.toNatClampNeg i2z55_) 5) ≤ 1 := (by have u0 := b65_; have u1 := (not_congr (zi_eq _ _)).mp c66_; have u2 := (show 0 ≤ Int32.toInt 0 ∧ Int32.toInt 0 ≤ 0 from (by decide)); omega)
          obtain ⟨q69_, b68_⟩ : (Int32.toInt (i2z55_ + 1) = Int32.toInt i2z55_ + 1) ∧ (1 ≤ Int32.toInt (i2z55_ + 1) ∧ Int32.toInt (i2z55_ + 1) ≤ 7) := zadd_k i2z55_ 1 1 1 7 b60_ (by decide) (by decide) (by decide) (by decide) (by decide)
          refine pw_blk hT 2 (S' := (4, [some (pvR 8), some (pvI i1z55_), some (pvI (i2z55_ + 1))], [], M)) rfl ⟨trivial, trivial, trivial⟩ ?_
          have j70_ : yObI M i1z55_ (i2z55_ + 1) := (yObI_s j0z55_ (by have u := b60_; omega) (by omega) (by omega) (Or.inr ⟨c66_, rfl⟩))
          exact ihz55_ i1z55_ (i2z55_ + 1) (zr_wide b68_ (by decide) (by decide)) j70_ (zhid (pvms_up (zshow hmz55_) h2z55_ q69_ (by decide) (by decide)))
        · have b71_ : 0 ≤ Int32.toInt (M.1 (pvbs 10 + Int32.toNatClampNeg i2z55_) 5) ∧ Int32.toInt (M.1 (pvbs 10 + Int32.toNatClampNeg i2z55_) 5) ≤ 0 := (by have u0 := b65_; have u1 := (zi_eq _ _).mp c66_; have u2 := (show 0 ≤ Int32.toInt 0 ∧ Int32.toInt 0 ≤ 0 from (by decide)); omega)
          obtain ⟨q73_, b72_⟩ : (Int32.toInt (i2z55_ + 1) = Int32.toInt i2z55_ + 1) ∧ (1 ≤ Int32.toInt (i2z55_ + 1) ∧ Int32.toInt (i2z55_ + 1) ≤ 7) := zadd_k i2z55_ 1 1 1 7 b60_ (by decide) (by decide) (by decide) (by decide) (by decide)
          refine pw_blk hT 8 (S' := (4, [some (pvR 8), some (pvI (i1z55_ ||| (1 <<< (i2z55_ &&& 31)))), some (pvI (i2z55_ + 1))], [], M)) rfl ⟨trivial, trivial, trivial, trivial, trivial, trivial, trivial, trivial, trivial⟩ ?_
          have j74_ : yObI M (i1z55_ ||| (1 <<< (i2z55_ &&& 31))) (i2z55_ + 1) := (yObI_s j0z55_ (by have u := b60_; omega) (by omega) (by omega) (Or.inl ⟨c66_, rfl⟩))
          exact ihz55_ (i1z55_ ||| (1 <<< (i2z55_ &&& 31))) (i2z55_ + 1) (zr_wide b72_ (by decide) (by decide)) j74_ (zhid (pvms_up (zshow hmz55_) h2z55_ q73_ (by decide) (by decide)))
  have u75_ : Int32.toInt 0 = 0 := by decide
  have j76_ : yObI M 0 0 := (yObI_0 hok)
  exact hlz55_ _ 0 0 (zr_wide (show 0 ≤ Int32.toInt 0 ∧ Int32.toInt 0 ≤ 0 from (by decide)) (by decide) (by decide)) j76_ (zhid (Nat.lt_succ_self _))
def fpL_eX6_clear_106 : List (Nat × Nat × Nat) := [(0, 106, 1)]
def fp_eX6_clear_106 (q k : Nat) : Bool := pvfp fpL_eX6_clear_106 q k
set_option maxHeartbeats 4000000 in
set_option maxRecDepth 10000 in
theorem se_X6_clear_106 (M : pvM) (hok : pvOk M) (d : Nat) : PW 153 d (0, [some (pvR 106)], [], M) (fun r X => (∃ x : Int32, r = some (pvI x) ∧ (0 ≤ Int32.toInt x ∧ Int32.toInt x ≤ 0) ∧ x = 0) ∧ pvOk X ∧ pvFr fp_eX6_clear_106 M X ∧ X.1 106 0 = 0) := by
  have hT : pvdom 153 = pvD_153 := rfl
  refine pw_blkw hT 3 (pc := 5) (lo := [some (pvR 106)]) (st := []) (M := pvu M 106 0 0) rfl ⟨trivial, trivial, rfl, trivial⟩ (fun M1_ e2_ => ?_)
  have o3_ : pvOk M1_ := pvok_u2 e2_ hok rfl (zr_wide (show 0 ≤ Int32.toInt 0 ∧ Int32.toInt 0 ≤ 0 from (by decide)) (by decide) (by decide))
  have f4_ : pvFr fp_eX6_clear_106 M M1_ := pvfr_u e2_ pvfr_0 rfl
  refine pw_blk hT 1 (S' := (6, [some (pvR 106)], [pvI 0], M1_)) rfl ⟨trivial, trivial⟩ ?_
  exact pw_ret hT rfl (r := some (pvI 0)) (M' := M1_) ⟨rfl, rfl⟩ ⟨⟨_, rfl, (show 0 ≤ Int32.toInt 0 ∧ Int32.toInt 0 ≤ 0 from (by decide)), rfl⟩, o3_, f4_, (pvu_s e2_)⟩
def fpL_eX1_goAlong_5_106_x_x_x : List (Nat × Nat × Nat) := [(0, 12, 0)]
def fp_eX1_goAlong_5_106_x_x_x (q k : Nat) : Bool := pvfp fpL_eX1_goAlong_5_106_x_x_x q k
set_option maxHeartbeats 4000000 in
set_option maxRecDepth 10000 in
theorem se_X1_goAlong_5_106_x_x_x (M : pvM) (hok : pvOk M) (n2 : Int32) (n3 : Int32) (n4 : Int32) (hn2 : 0 ≤ Int32.toInt n2 ∧ Int32.toInt n2 ≤ 7) (hn3 : 0 ≤ Int32.toInt n3 ∧ Int32.toInt n3 ≤ 7) (hn4 : 0 ≤ Int32.toInt n4 ∧ Int32.toInt n4 ≤ 60000) (d : Nat) : PW 109 d (0, [some (pvR 5), some (pvR 106), some (pvI n2), some (pvI n3), some (pvI n4), none, none, none, none, none], [], M) (fun r X => (∃ x : Int32, r = some (pvI x) ∧ 0 ≤ Int32.toInt x ∧ Int32.toInt x ≤ 64000) ∧ pvOk X ∧ pvFr fp_eX1_goAlong_5_106_x_x_x M X ∧ yGA 106 n2 n3 n4 r M X) := by
  have hT : pvdom 109 = pvD_109 := rfl
  have b1_ : 0 ≤ Int32.toInt (M.1 8 6) ∧ Int32.toInt (M.1 8 6) ≤ 3 := pvok_r hok 8 6 rfl
  have b2_ : 0 ≤ Int32.toInt (M.1 8 7) ∧ Int32.toInt (M.1 8 7) ≤ 4 := pvok_r hok 8 7 rfl
  refine pw_blk hT 12 (S' := (25, [some (pvR 5), some (pvR 106), some (pvI n2), some (pvI n3), some (pvI n4), some (pvI n4), some (pvI (M.1 8 6)), some (pvI (M.1 8 7)), some (pvI n2), none], [], M)) rfl ⟨trivial, trivial, trivial, rfl, rfl, trivial, trivial, rfl, rfl, trivial, trivial, trivial, trivial⟩ ?_
  have hlz177_ : ∀ (nz177_ : Nat) (i5z177_ : Int32) (i6z177_ : Int32) (i7z177_ : Int32) (i8z177_ : Int32) (v9z177_ : Option pvV) (Mz177_ : pvM), (pvOk Mz177_) → (pvFr fp_eX1_goAlong_5_106_x_x_x M Mz177_) → (0 ≤ Int32.toInt i5z177_ ∧ Int32.toInt i5z177_ ≤ 64000) → (0 ≤ Int32.toInt i6z177_ ∧ Int32.toInt i6z177_ ≤ 3) → (0 ≤ Int32.toInt i7z177_ ∧ Int32.toInt i7z177_ ≤ 4) → (0 ≤ Int32.toInt i8z177_ ∧ Int32.toInt i8z177_ ≤ 7) → (Int32.toInt i5z177_ ≤ 60000 + 320 * Int32.toInt i8z177_) → (0 ≤ Int32.toInt i5z177_) → (yGI 12 (yP9 M) (yst9 M) (ypa M (106 + 8)) M Mz177_ (Int32.toNatClampNeg n2) (Int32.toInt n4, M.1 8 6, M.1 8 7, fun w => Int32.toInt (M.1 12 w)) i5z177_ i6z177_ i7z177_ i8z177_) → (Int32.toInt i8z177_ ≤ max (Int32.toInt n2) (min (Int32.toInt n3) (Int32.toInt (M.1 106 0)))) → (zhide ((8 - Int32.toInt i8z177_).toNat < nz177_)) → PW 109 d (25, [some (pvR 5), some (pvR 106), some (pvI n2), some (pvI n3), some (pvI n4), some (pvI i5z177_), some (pvI i6z177_), some (pvI i7z177_), some (pvI i8z177_), v9z177_], [], Mz177_) (fun r X => (∃ x : Int32, r = some (pvI x) ∧ 0 ≤ Int32.toInt x ∧ Int32.toInt x ≤ 64000) ∧ pvOk X ∧ pvFr fp_eX1_goAlong_5_106_x_x_x M X ∧ yGA 106 n2 n3 n4 r M X) := by
    intro nz177_
    induction nz177_ with
    | zero => intro i5z177_ i6z177_ i7z177_ i8z177_ v9z177_ Mz177_ oz177_ fz177_ h5z177_ h6z177_ h7z177_ h8z177_ j0z177_ j1z177_ j2z177_ j3z177_ hmz177_; exact absurd (zshow hmz177_) (Nat.not_lt_zero _)
    | succ nz177_ ihz177_ =>
      intro i5z177_ i6z177_ i7z177_ i8z177_ v9z177_ Mz177_ oz177_ fz177_ h5z177_ h6z177_ h7z177_ h8z177_ j0z177_ j1z177_ j2z177_ j3z177_ hmz177_
      refine pw_blk hT 2 (S' := (28, [some (pvR 5), some (pvR 106), some (pvI n2), some (pvI n3), some (pvI n4), some (pvI i5z177_), some (pvI i6z177_), some (pvI i7z177_), some (pvI i8z177_), v9z177_], [pvI n3, pvI i8z177_], Mz177_)) rfl ⟨trivial, trivial, trivial⟩ ?_
      refine pw_ic hT (c := n3 ≤ i8z177_) rfl rfl (fun c178_ => ?_) (fun c178_ => ?_)
      · have d179_ : Int32.toInt n3 ≤ Int32.toInt i8z177_ := (zi_le _ _).mp c178_
        refine pw_blk hT 1 (S' := (128, [some (pvR 5), some (pvR 106), some (pvI n2), some (pvI n3), some (pvI n4), some (pvI i5z177_), some (pvI i6z177_), some (pvI i7z177_), some (pvI i8z177_), v9z177_], [pvI i5z177_], Mz177_)) rfl ⟨trivial, trivial⟩ ?_
        exact pw_ret hT rfl (r := some (pvI i5z177_)) (M' := Mz177_) ⟨rfl, rfl⟩ ⟨⟨_, rfl, h5z177_⟩, oz177_, fz177_, (yGA_i j2z177_ hn2.1 (by have u := h8z177_; omega) (by omega) (Or.inl (by have v := (zi_le _ _).mp c178_; omega)) (by decide))⟩
      · have b180_ : 1 ≤ Int32.toInt n3 ∧ Int32.toInt n3 ≤ 7 := zr_nle_l 1 c178_ hn3 h8z177_ (by decide)
        have b181_ : 0 ≤ Int32.toInt i8z177_ ∧ Int32.toInt i8z177_ ≤ 6 := zr_nle_r 6 c178_ h8z177_ b180_ (by decide)
        have d182_ : Int32.toInt n3 > Int32.toInt i8z177_ := Int.not_le.mp ((not_congr (zi_le _ _)).mp c178_)
        have b183_ : 0 ≤ Int32.toInt (Mz177_.1 106 0) ∧ Int32.toInt (Mz177_.1 106 0) ≤ 7 := pvok_r oz177_ 106 0 rfl
        refine pw_blk hT 3 (S' := (37, [some (pvR 5), some (pvR 106), some (pvI n2), some (pvI n3), some (pvI n4), some (pvI i5z177_), some (pvI i6z177_), some (pvI i7z177_), some (pvI i8z177_), v9z177_], [pvI (Mz177_.1 106 0), pvI i8z177_], Mz177_)) rfl ⟨trivial, trivial, rfl, trivial⟩ ?_
        refine pw_ic hT (c := (Mz177_.1 106 0) ≤ i8z177_) rfl rfl (fun c184_ => ?_) (fun c184_ => ?_)
        · have b185_ : 0 ≤ Int32.toInt (Mz177_.1 106 0) ∧ Int32.toInt (Mz177_.1 106 0) ≤ 6 := zr_le_l 6 c184_ b183_ b181_ (by decide)
          have d186_ : Int32.toInt (Mz177_.1 106 0) ≤ Int32.toInt i8z177_ := (zi_le _ _).mp c184_
          refine pw_blk hT 1 (S' := (128, [some (pvR 5), some (pvR 106), some (pvI n2), some (pvI n3), some (pvI n4), some (pvI i5z177_), some (pvI i6z177_), some (pvI i7z177_), some (pvI i8z177_), v9z177_], [pvI i5z177_], Mz177_)) rfl ⟨trivial, trivial⟩ ?_
          exact pw_ret hT rfl (r := some (pvI i5z177_)) (M' := Mz177_) ⟨rfl, rfl⟩ ⟨⟨_, rfl, h5z177_⟩, oz177_, fz177_, (yGA_i j2z177_ hn2.1 (by have u := b181_; omega) (by omega) (Or.inr (by have v := (zi_le _ _).mp c184_; omega)) (by decide))⟩
        · have b187_ : 1 ≤ Int32.toInt (Mz177_.1 106 0) ∧ Int32.toInt (Mz177_.1 106 0) ≤ 7 := zr_nle_l 1 c184_ b183_ b181_ (by decide)
          have d188_ : Int32.toInt (Mz177_.1 106 0) > Int32.toInt i8z177_ := Int.not_le.mp ((not_congr (zi_le _ _)).mp c184_)
          have b189_ : 0 ≤ Int32.toInt (Mz177_.1 114 (Int32.toNatClampNeg i8z177_)) ∧ Int32.toInt (Mz177_.1 114 (Int32.toNatClampNeg i8z177_)) ≤ 6 := pvok_r oz177_ 114 (Int32.toNatClampNeg i8z177_) rfl
          refine pw_blkr hT 8 (pc := 55) (lo := [some (pvR 5), some (pvR 106), some (pvI n2), some (pvI n3), some (pvI n4), some (pvI i5z177_), some (pvI i6z177_), some (pvI i7z177_), some (pvI i8z177_), v9z177_]) (st := []) (M := Mz177_) (z := (pvbs 10 + Int32.toNatClampNeg (Mz177_.1 114 (Int32.toNatClampNeg i8z177_)))) rfl ⟨trivial, rfl, rfl, trivial, rfl, trivial, ⟨rfl, (zr_in (n := 7) b181_ (by decide) (by decide))⟩, ⟨rfl, (zr_in (n := 7) b189_ (by decide) (by decide))⟩, trivial⟩ (fun q190_ e192_ => ?_)
          have k191_ : pvkl q190_ = 3 := pvel_10 (zr_in (n := 7) b189_ (by decide) (by decide)) e192_
          subst e192_
          have b193_ : 0 ≤ Int32.toInt (Mz177_.1 (pvbs 10 + Int32.toNatClampNeg (Mz177_.1 114 (Int32.toNatClampNeg i8z177_))) 5) ∧ Int32.toInt (Mz177_.1 (pvbs 10 + Int32.toNatClampNeg (Mz177_.1 114 (Int32.toNatClampNeg i8z177_))) 5) ≤ 1 := pvok_r oz177_ (pvbs 10 + Int32.toNatClampNeg (Mz177_.1 114 (Int32.toNatClampNeg i8z177_))) 5 ((pvrg_o 5 k191_ (by decide) (by decide)).trans rfl)
          refine pw_blk hT 3 (S' := (62, [some (pvR 5), some (pvR 106), some (pvI n2), some (pvI n3), some (pvI n4), some (pvI i5z177_), some (pvI i6z177_), some (pvI i7z177_), some (pvI i8z177_), some (pvR (pvbs 10 + Int32.toNatClampNeg (Mz177_.1 114 (Int32.toNatClampNeg i8z177_))))], [pvI (Mz177_.1 (pvbs 10 + Int32.toNatClampNeg (Mz177_.1 114 (Int32.toNatClampNeg i8z177_))) 5)], Mz177_)) rfl ⟨trivial, trivial, k191_, trivial⟩ ?_
          refine pw_if hT (c := (Mz177_.1 (pvbs 10 + Int32.toNatClampNeg (Mz177_.1 114 (Int32.toNatClampNeg i8z177_))) 5) = 0) rfl rfl (fun c194_ => ?_) (fun c194_ => ?_)
          · have b195_ : 0 ≤ Int32.toInt (Mz177_.1 (pvbs 10 + Int32.toNatClampNeg (Mz177_.1 114 (Int32.toNatClampNeg i8z177_))) 5) ∧ Int32.toInt (Mz177_.1 (pvbs 10 + Int32.toNatClampNeg (Mz177_.1 114 (Int32.toNatClampNeg i8z177_))) 5) ≤ 0 := (by have u0 := b193_; have u1 := (zi_eq _ _).mp c194_; have u2 := (show 0 ≤ Int32.toInt 0 ∧ Int32.toInt 0 ≤ 0 from (by decide)); omega)
            have b196_ : 15 ≤ Int32.toInt (Mz177_.1 8 8) ∧ Int32.toInt (Mz177_.1 8 8) ≤ 23 := pvok_r oz177_ 8 8 rfl
            refine pw_blkr hT 7 (pc := 83) (lo := [some (pvR 5), some (pvR 106), some (pvI n2), some (pvI n3), some (pvI n4), some (pvI i5z177_), some (pvI i6z177_), some (pvI i7z177_), some (pvI i8z177_), some (pvR (pvbs 10 + Int32.toNatClampNeg (Mz177_.1 114 (Int32.toNatClampNeg i8z177_))))]) (st := [pvI i7z177_, pvI i6z177_, pvR (pvbs 10 + Int32.toNatClampNeg (Mz177_.1 114 (Int32.toNatClampNeg i8z177_))), pvI i5z177_]) (M := Mz177_) (z := (pvhp (Mz177_.1 8 8))) rfl ⟨trivial, trivial, trivial, trivial, trivial, rfl, rfl, trivial⟩ (fun q197_ e199_ => ?_)
            have k198_ : pvkl q197_ = 2 := pvhp_k b196_ e199_
            subst e199_
            have b200_ : 0 ≤ Int32.toInt (Mz177_.1 (pvhp (Mz177_.1 8 8)) 0) ∧ Int32.toInt (Mz177_.1 (pvhp (Mz177_.1 8 8)) 0) ≤ 99 := pvok_r oz177_ (pvhp (Mz177_.1 8 8)) 0 ((pvrg_o 0 k198_ (by decide) (by decide)).trans rfl)
            refine pw_blk hT 1 (S' := (86, [some (pvR 5), some (pvR 106), some (pvI n2), some (pvI n3), some (pvI n4), some (pvI i5z177_), some (pvI i6z177_), some (pvI i7z177_), some (pvI i8z177_), some (pvR (pvbs 10 + Int32.toNatClampNeg (Mz177_.1 114 (Int32.toNatClampNeg i8z177_))))], [pvI (Mz177_.1 (pvhp (Mz177_.1 8 8)) 0), pvI i7z177_, pvI i6z177_, pvR (pvbs 10 + Int32.toNatClampNeg (Mz177_.1 114 (Int32.toNatClampNeg i8z177_))), pvI i5z177_], Mz177_)) rfl ⟨k198_, trivial⟩ ?_
            refine pw_callGp hT (as := [pvR (pvbs 10 + Int32.toNatClampNeg (Mz177_.1 114 (Int32.toNatClampNeg i8z177_))), pvI i6z177_, pvI i7z177_, pvI (Mz177_.1 (pvhp (Mz177_.1 8 8)) 0)]) (lo1 := [some (pvR (pvbs 10 + Int32.toNatClampNeg (Mz177_.1 114 (Int32.toNatClampNeg i8z177_)))), some (pvI i6z177_), some (pvI i7z177_), some (pvI (Mz177_.1 (pvhp (Mz177_.1 8 8)) 0)), none]) (d1 := d) (rest := [pvI i5z177_]) rfl rfl rfl rfl rfl (fun _ => k191_) (Nat.zero_le _) rfl rfl rfl (se_X4_minutesFrom_x_x_x_x Mz177_ oz177_ (pvbs 10 + Int32.toNatClampNeg (Mz177_.1 114 (Int32.toNatClampNeg i8z177_))) i6z177_ i7z177_ (Mz177_.1 (pvhp (Mz177_.1 8 8)) 0) k191_ h6z177_ h7z177_ b200_ d) (fun x201_ b203_ => ?_)
            obtain ⟨b206_, d207_⟩ := b203_
            obtain ⟨q209_, b208_⟩ : (Int32.toInt (i5z177_ + x201_) = Int32.toInt i5z177_ + Int32.toInt x201_) ∧ (0 ≤ Int32.toInt (i5z177_ + x201_) ∧ Int32.toInt (i5z177_ + x201_) ≤ 64319) := zadd_r i5z177_ x201_ 0 64319 h5z177_ b206_ (by decide) (by decide) (by decide) (by decide)
            refine pw_blkw hT 10 (pc := 106) (lo := [some (pvR 5), some (pvR 106), some (pvI n2), some (pvI n3), some (pvI n4), some (pvI (i5z177_ + x201_)), some (pvI i6z177_), some (pvI i7z177_), some (pvI i8z177_), some (pvR (pvbs 10 + Int32.toNatClampNeg (Mz177_.1 114 (Int32.toNatClampNeg i8z177_))))]) (st := []) (M := pvu Mz177_ 12 (Int32.toNatClampNeg (Mz177_.1 114 (Int32.toNatClampNeg i8z177_))) (i5z177_ + x201_)) rfl ⟨trivial, trivial, trivial, rfl, trivial, rfl, trivial, ⟨rfl, (zr_in (n := 7) b181_ (by decide) (by decide))⟩, trivial, ⟨rfl, (zr_in (n := 7) b189_ (by decide) (by decide))⟩, trivial⟩ (fun M210_ e211_ => ?_)
            have o212_ : pvOk M210_ := pvok_u2 e211_ oz177_ rfl (zr_wide b208_ (by decide) (by decide))
            have f213_ : pvFr fp_eX1_goAlong_5_106_x_x_x M M210_ := pvfr_u e211_ fz177_ rfl
            have b214_ : 0 ≤ Int32.toInt (M210_.1 (pvbs 10 + Int32.toNatClampNeg (Mz177_.1 114 (Int32.toNatClampNeg i8z177_))) 2) ∧ Int32.toInt (M210_.1 (pvbs 10 + Int32.toNatClampNeg (Mz177_.1 114 (Int32.toNatClampNeg i8z177_))) 2) ≤ 3 := pvok_r o212_ (pvbs 10 + Int32.toNatClampNeg (Mz177_.1 114 (Int32.toNatClampNeg i8z177_))) 2 ((pvrg_o 2 k191_ (by decide) (by decide)).trans rfl)
            have b215_ : 0 ≤ Int32.toInt (M210_.1 (pvbs 10 + Int32.toNatClampNeg (Mz177_.1 114 (Int32.toNatClampNeg i8z177_))) 3) ∧ Int32.toInt (M210_.1 (pvbs 10 + Int32.toNatClampNeg (Mz177_.1 114 (Int32.toNatClampNeg i8z177_))) 3) ≤ 4 := pvok_r o212_ (pvbs 10 + Int32.toNatClampNeg (Mz177_.1 114 (Int32.toNatClampNeg i8z177_))) 3 ((pvrg_o 3 k191_ (by decide) (by decide)).trans rfl)
            obtain ⟨q217_, b216_⟩ : (Int32.toInt (i8z177_ + 1) = Int32.toInt i8z177_ + 1) ∧ (1 ≤ Int32.toInt (i8z177_ + 1) ∧ Int32.toInt (i8z177_ + 1) ≤ 7) := zadd_k i8z177_ 1 1 1 7 b181_ (by decide) (by decide) (by decide) (by decide) (by decide)
            refine pw_blk hT 8 (S' := (25, [some (pvR 5), some (pvR 106), some (pvI n2), some (pvI n3), some (pvI n4), some (pvI (i5z177_ + x201_)), some (pvI (M210_.1 (pvbs 10 + Int32.toNatClampNeg (Mz177_.1 114 (Int32.toNatClampNeg i8z177_))) 2)), some (pvI (M210_.1 (pvbs 10 + Int32.toNatClampNeg (Mz177_.1 114 (Int32.toNatClampNeg i8z177_))) 3)), some (pvI (i8z177_ + 1)), some (pvR (pvbs 10 + Int32.toNatClampNeg (Mz177_.1 114 (Int32.toNatClampNeg i8z177_))))], [], M210_)) rfl ⟨trivial, k191_, trivial, trivial, k191_, trivial, trivial, trivial, trivial⟩ ?_
            have j218_ : Int32.toInt (i5z177_ + x201_) ≤ 60000 + 320 * Int32.toInt (i8z177_ + 1) := by omega
            have j219_ : 0 ≤ Int32.toInt (i5z177_ + x201_) := by omega
            have j220_ : yGI 12 (yP9 M) (yst9 M) (ypa M (106 + 8)) M M210_ (Int32.toNatClampNeg n2) (Int32.toInt n4, M.1 8 6, M.1 8 7, fun w => Int32.toInt (M.1 12 w)) (i5z177_ + x201_) (M210_.1 (pvbs 10 + Int32.toNatClampNeg (Mz177_.1 114 (Int32.toNatClampNeg i8z177_))) 2) (M210_.1 (pvbs 10 + Int32.toNatClampNeg (Mz177_.1 114 (Int32.toNatClampNeg i8z177_))) 3) (i8z177_ + 1) := (y9_y (Q := 106 + 8) hok (by decide) j2z177_ (by have u := b181_; omega) (by omega) c194_ e211_ d207_ (by omega))
            have j221_ : Int32.toInt (i8z177_ + 1) ≤ max (Int32.toInt n2) (min (Int32.toInt n3) (Int32.toInt (M.1 106 0))) := (by have e : Int32.toInt (Mz177_.1 106 0) = Int32.toInt (M.1 106 0) := congrArg Int32.toInt (congrFun (j2z177_.1 106 (by decide)) 0); omega)
            exact ihz177_ (i5z177_ + x201_) (M210_.1 (pvbs 10 + Int32.toNatClampNeg (Mz177_.1 114 (Int32.toNatClampNeg i8z177_))) 2) (M210_.1 (pvbs 10 + Int32.toNatClampNeg (Mz177_.1 114 (Int32.toNatClampNeg i8z177_))) 3) (i8z177_ + 1) (some (pvR (pvbs 10 + Int32.toNatClampNeg (Mz177_.1 114 (Int32.toNatClampNeg i8z177_))))) M210_ o212_ f213_ (by have u0 := b208_; omega) b214_ b215_ (zr_wide b216_ (by decide) (by decide)) j218_ j219_ j220_ j221_ (zhid (pvms_up (zshow hmz177_) h8z177_ q217_ (by decide) (by decide)))
          · have b222_ : 1 ≤ Int32.toInt (Mz177_.1 (pvbs 10 + Int32.toNatClampNeg (Mz177_.1 114 (Int32.toNatClampNeg i8z177_))) 5) ∧ Int32.toInt (Mz177_.1 (pvbs 10 + Int32.toNatClampNeg (Mz177_.1 114 (Int32.toNatClampNeg i8z177_))) 5) ≤ 1 := (by have u0 := b193_; have u1 := (not_congr (zi_eq _ _)).mp c194_; have u2 := (show 0 ≤ Int32.toInt 0 ∧ Int32.toInt 0 ≤ 0 from (by decide)); omega)
            obtain ⟨q224_, b223_⟩ : (Int32.toInt (i8z177_ + 1) = Int32.toInt i8z177_ + 1) ∧ (1 ≤ Int32.toInt (i8z177_ + 1) ∧ Int32.toInt (i8z177_ + 1) ≤ 7) := zadd_k i8z177_ 1 1 1 7 b181_ (by decide) (by decide) (by decide) (by decide) (by decide)
            refine pw_blk hT 3 (S' := (25, [some (pvR 5), some (pvR 106), some (pvI n2), some (pvI n3), some (pvI n4), some (pvI i5z177_), some (pvI i6z177_), some (pvI i7z177_), some (pvI (i8z177_ + 1)), some (pvR (pvbs 10 + Int32.toNatClampNeg (Mz177_.1 114 (Int32.toNatClampNeg i8z177_))))], [], Mz177_)) rfl ⟨trivial, trivial, trivial, trivial⟩ ?_
            have j225_ : Int32.toInt i5z177_ ≤ 60000 + 320 * Int32.toInt (i8z177_ + 1) := by omega
            have j226_ : 0 ≤ Int32.toInt i5z177_ := by omega
            have j227_ : yGI 12 (yP9 M) (yst9 M) (ypa M (106 + 8)) M Mz177_ (Int32.toNatClampNeg n2) (Int32.toInt n4, M.1 8 6, M.1 8 7, fun w => Int32.toInt (M.1 12 w)) i5z177_ i6z177_ i7z177_ (i8z177_ + 1) := (y9_n (Q := 106 + 8) (by decide) j2z177_ (by have u := b181_; omega) (by omega) c194_)
            have j228_ : Int32.toInt (i8z177_ + 1) ≤ max (Int32.toInt n2) (min (Int32.toInt n3) (Int32.toInt (M.1 106 0))) := (by have e : Int32.toInt (Mz177_.1 106 0) = Int32.toInt (M.1 106 0) := congrArg Int32.toInt (congrFun (j2z177_.1 106 (by decide)) 0); omega)
            exact ihz177_ i5z177_ i6z177_ i7z177_ (i8z177_ + 1) (some (pvR (pvbs 10 + Int32.toNatClampNeg (Mz177_.1 114 (Int32.toNatClampNeg i8z177_))))) Mz177_ oz177_ fz177_ h5z177_ h6z177_ h7z177_ (zr_wide b223_ (by decide) (by decide)) j225_ j226_ j227_ j228_ (zhid (pvms_up (zshow hmz177_) h8z177_ q224_ (by decide) (by decide)))
  have j229_ : Int32.toInt n4 ≤ 60000 + 320 * Int32.toInt n2 := by omega
  have j230_ : 0 ≤ Int32.toInt n4 := by omega
  have j231_ : yGI 12 (yP9 M) (yst9 M) (ypa M (106 + 8)) M M (Int32.toNatClampNeg n2) (Int32.toInt n4, M.1 8 6, M.1 8 7, fun w => Int32.toInt (M.1 12 w)) n4 (M.1 8 6) (M.1 8 7) n2 := yGI_0
  have j232_ : Int32.toInt n2 ≤ max (Int32.toInt n2) (min (Int32.toInt n3) (Int32.toInt (M.1 106 0))) := (by omega)
  exact hlz177_ _ n4 (M.1 8 6) (M.1 8 7) n2 none M hok pvfr_0 (zr_wide hn4 (by decide) (by decide)) b1_ b2_ hn2 j229_ j230_ j231_ j232_ (zhid (Nat.lt_succ_self _))
def fpL_eX1_costOfTried_5 : List (Nat × Nat × Nat) := [(0, 12, 0)]
def fp_eX1_costOfTried_5 (q k : Nat) : Bool := pvfp fpL_eX1_costOfTried_5 q k
theorem fp_eX1_costOfTried_5_fp_eX1_goAlong_5_106_x_x_x (a b : Nat) (h : fp_eX1_goAlong_5_106_x_x_x a b = true) : fp_eX1_costOfTried_5 a b = true := pvfp_sub (l1 := fpL_eX1_goAlong_5_106_x_x_x) (l2 := fpL_eX1_costOfTried_5) (by decide) a b h
theorem fp_eX1_costOfTried_5_fp_eX1_nobodyShuts_5 (a b : Nat) (h : fp_eX1_nobodyShuts_5 a b = true) : fp_eX1_costOfTried_5 a b = true := pvfp_sub (l1 := fpL_eX1_nobodyShuts_5) (l2 := fpL_eX1_costOfTried_5) (by decide) a b h
set_option maxHeartbeats 4000000 in
set_option maxRecDepth 10000 in
theorem se_X1_costOfTried_5 (M : pvM) (hok : pvOk M) (d : Nat) : PW 106 d (0, [some (pvR 5)], [], M) (fun r X => (∃ x : Int32, r = some (pvI x) ∧ True) ∧ pvOk X ∧ pvFr fp_eX1_costOfTried_5 M X ∧ yRw M X (ypa M 114) (Int32.toInt (M.1 8 4)) (Int32.toNatClampNeg (M.1 106 0)) r) := by
  have hT : pvdom 106 = pvD_106 := rfl
  refine pw_blk hT 1 (S' := (1, [some (pvR 5)], [pvR 5], M)) rfl ⟨trivial, trivial⟩ ?_
  refine pw_callVd hT (as := [pvR 5]) (lo1 := [some (pvR 5), none]) (d1 := d) (rest := []) rfl rfl rfl rfl rfl (fun _ => rfl) (Nat.zero_le _) rfl rfl rfl (se_X1_nobodyShuts_5 M hok d) (fun M3_ o5_ g6_ d1_ => ?_)
  have f7_ : pvFr fp_eX1_costOfTried_5 M M3_ := pvfr_t g6_ pvfr_0 fp_eX1_costOfTried_5_fp_eX1_nobodyShuts_5
  have b8_ : 0 ≤ Int32.toInt (M3_.1 106 0) ∧ Int32.toInt (M3_.1 106 0) ≤ 7 := pvok_r o5_ 106 0 rfl
  have b9_ : 0 ≤ Int32.toInt (M3_.1 8 4) ∧ Int32.toInt (M3_.1 8 4) ≤ 9999 := pvok_r o5_ 8 4 rfl
  refine pw_blk hT 10 (S' := (24, [some (pvR 5)], [pvI (M3_.1 8 4), pvI (M3_.1 106 0), pvI 0, pvR 106, pvR 5], M3_)) rfl ⟨trivial, trivial, rfl, trivial, trivial, rfl, rfl, trivial, rfl, rfl, trivial⟩ ?_
  refine pw_callGd hT (as := [pvR 5, pvR 106, pvI 0, pvI (M3_.1 106 0), pvI (M3_.1 8 4)]) (lo1 := [some (pvR 5), some (pvR 106), some (pvI 0), some (pvI (M3_.1 106 0)), some (pvI (M3_.1 8 4)), none, none, none, none, none]) (d1 := d) (rest := []) rfl rfl rfl rfl rfl (fun _ => rfl) (Nat.zero_le _) rfl rfl rfl (se_X1_goAlong_5_106_x_x_x M3_ o5_ 0 (M3_.1 106 0) (M3_.1 8 4) (zr_wide (show 0 ≤ Int32.toInt 0 ∧ Int32.toInt 0 ≤ 0 from (by decide)) (by decide) (by decide)) b8_ (zr_wide b9_ (by decide) (by decide)) d) (fun x11_ M12_ b13_ o14_ g15_ d10_ => ?_)
  have f16_ : pvFr fp_eX1_costOfTried_5 M M12_ := pvfr_t g15_ f7_ fp_eX1_costOfTried_5_fp_eX1_goAlong_5_106_x_x_x
  refine pw_blk hT 2 (S' := (29, [some (pvR 5)], [pvR 5], M12_)) rfl ⟨trivial, trivial, trivial⟩ ?_
  refine pw_callGp hT (as := [pvR 5]) (lo1 := [some (pvR 5)]) (d1 := d) (rest := []) rfl rfl rfl rfl rfl (fun _ => rfl) (Nat.zero_le _) rfl rfl rfl (se_X1_cost_5 M12_ o14_ d) (fun x17_ b19_ => ?_)
  obtain ⟨b22_, d23_⟩ := b19_
  exact pw_ret hT rfl (r := some (pvI x17_)) (M' := M12_) ⟨rfl, rfl⟩ ⟨⟨_, rfl, trivial⟩, o14_, f16_, (yRw_T hok d1_ d10_ d23_)⟩
def fpL_eX6_clear_107 : List (Nat × Nat × Nat) := [(0, 107, 1)]
def fp_eX6_clear_107 (q k : Nat) : Bool := pvfp fpL_eX6_clear_107 q k
set_option maxHeartbeats 4000000 in
set_option maxRecDepth 10000 in
theorem se_X6_clear_107 (M : pvM) (hok : pvOk M) (d : Nat) : PW 153 d (0, [some (pvR 107)], [], M) (fun r X => (∃ x : Int32, r = some (pvI x) ∧ (0 ≤ Int32.toInt x ∧ Int32.toInt x ≤ 0) ∧ x = 0) ∧ pvOk X ∧ pvFr fp_eX6_clear_107 M X ∧ X.1 107 0 = 0) := by
  have hT : pvdom 153 = pvD_153 := rfl
  refine pw_blkw hT 3 (pc := 5) (lo := [some (pvR 107)]) (st := []) (M := pvu M 107 0 0) rfl ⟨trivial, trivial, rfl, trivial⟩ (fun M1_ e2_ => ?_)
  have o3_ : pvOk M1_ := pvok_u2 e2_ hok rfl (zr_wide (show 0 ≤ Int32.toInt 0 ∧ Int32.toInt 0 ≤ 0 from (by decide)) (by decide) (by decide))
  have f4_ : pvFr fp_eX6_clear_107 M M1_ := pvfr_u e2_ pvfr_0 rfl
  refine pw_blk hT 1 (S' := (6, [some (pvR 107)], [pvI 0], M1_)) rfl ⟨trivial, trivial⟩ ?_
  exact pw_ret hT rfl (r := some (pvI 0)) (M' := M1_) ⟨rfl, rfl⟩ ⟨⟨_, rfl, (show 0 ≤ Int32.toInt 0 ∧ Int32.toInt 0 ≤ 0 from (by decide)), rfl⟩, o3_, f4_, (pvu_s e2_)⟩
def fpL_eX6_append_107_x_x : List (Nat × Nat × Nat) := [(0, 107, 1), (0, 115, 0), (0, 123, 0)]
def fp_eX6_append_107_x_x (q k : Nat) : Bool := pvfp fpL_eX6_append_107_x_x q k
set_option maxHeartbeats 4000000 in
set_option maxRecDepth 10000 in
theorem se_X6_append_107_x_x (M : pvM) (hok : pvOk M) (n1 : Int32) (n2 : Int32) (hn1 : 0 ≤ Int32.toInt n1 ∧ Int32.toInt n1 ≤ 6) (hn2 : 0 ≤ Int32.toInt n2 ∧ Int32.toInt n2 ≤ 9999) (d : Nat) : PW 151 d (0, [some (pvR 107), some (pvI n1), some (pvI n2)], [], M) (fun r X => (∃ x : Int32, r = some (pvI x) ∧ (1 ≤ Int32.toInt x ∧ Int32.toInt x ≤ 7) ∧ x = (if (M.1 107 0) < (Int32.ofNat 7) then ((M.1 107 0) + 1) else (M.1 107 0))) ∧ pvOk X ∧ pvFr fp_eX6_append_107_x_x M X ∧ zAp 107 115 123 7 n1 n2 M X ∧ X.1 107 0 = (if (M.1 107 0) < (Int32.ofNat 7) then ((M.1 107 0) + 1) else (M.1 107 0))) := by
  have hT : pvdom 151 = pvD_151 := rfl
  refine pw_blk hT 1 (S' := (1, [some (pvR 107), some (pvI n1), some (pvI n2)], [pvR 107], M)) rfl ⟨trivial, trivial⟩ ?_
  refine pw_callT hT (as := [pvR 107]) (lo1 := [some (pvR 107)]) (d1 := d) (rest := []) rfl rfl rfl rfl rfl (fun _ => rfl) (Nat.zero_le _) rfl rfl rfl (sf_X6_isFull_107 M hok d) ?_
  have b6_ : 0 ≤ Int32.toInt (M.1 107 0) ∧ Int32.toInt (M.1 107 0) ≤ 7 := pvok_r hok 107 0 rfl
  by_cases c7_ : (M.1 107 0) < (Int32.ofNat 7)
  · refine pw_eqI (if_pos c7_) ?_
    have b8_ : 0 ≤ Int32.toInt (M.1 107 0) ∧ Int32.toInt (M.1 107 0) ≤ 6 := zr_lt_l 6 c7_ b6_ (show 7 ≤ Int32.toInt (Int32.ofNat 7) ∧ Int32.toInt (Int32.ofNat 7) ≤ 7 from (by decide)) (by decide)
    show PW 151 d (4, [some (pvR 107), some (pvI n1), some (pvI n2)], [pvI 0], M) _
    refine pw_if hT (c := 0 = 0) rfl rfl (fun c9_ => ?_) (fun c9_ => absurd (by decide) c9_)
    refine pw_blkw hT 6 (pc := 22) (lo := [some (pvR 107), some (pvI n1), some (pvI n2)]) (st := []) (M := pvu M 115 (Int32.toNatClampNeg (M.1 107 0)) n1) rfl ⟨trivial, rfl, trivial, rfl, trivial, ⟨rfl, (zr_in (n := 7) b8_ (by decide) (by decide))⟩, trivial⟩ (fun M10_ e11_ => ?_)
    have o12_ : pvOk M10_ := pvok_u2 e11_ hok rfl hn1
    have f13_ : pvFr fp_eX6_append_107_x_x M M10_ := pvfr_u e11_ pvfr_0 rfl
    have e14_ : (M10_.1 107 0) = (M.1 107 0) := (pvu_n e11_ 107 0 (Or.inl (by decide)))
    have b15_ : 0 ≤ Int32.toInt (M10_.1 107 0) ∧ Int32.toInt (M10_.1 107 0) ≤ 6 := (by rw [e14_]; exact b8_)
    refine pw_blkw hT 6 (pc := 32) (lo := [some (pvR 107), some (pvI n1), some (pvI n2)]) (st := []) (M := pvu M10_ 123 (Int32.toNatClampNeg (M10_.1 107 0)) n2) rfl ⟨trivial, rfl, trivial, rfl, trivial, ⟨rfl, (zr_in (n := 7) b15_ (by decide) (by decide))⟩, trivial⟩ (fun M16_ e17_ => ?_)
    have o18_ : pvOk M16_ := pvok_u2 e17_ o12_ rfl hn2
    have f19_ : pvFr fp_eX6_append_107_x_x M M16_ := pvfr_u e17_ f13_ rfl
    have e20_ : (M16_.1 107 0) = (M10_.1 107 0) := (pvu_n e17_ 107 0 (Or.inl (by decide)))
    have b21_ : 0 ≤ Int32.toInt (M16_.1 107 0) ∧ Int32.toInt (M16_.1 107 0) ≤ 6 := (by rw [e20_]; exact b15_)
    obtain ⟨q23_, b22_⟩ : (Int32.toInt ((M16_.1 107 0) + 1) = Int32.toInt (M16_.1 107 0) + 1) ∧ (1 ≤ Int32.toInt ((M16_.1 107 0) + 1) ∧ Int32.toInt ((M16_.1 107 0) + 1) ≤ 7) := zadd_k (M16_.1 107 0) 1 1 1 7 b21_ (by decide) (by decide) (by decide) (by decide) (by decide)
    refine pw_blkw hT 6 (pc := 42) (lo := [some (pvR 107), some (pvI n1), some (pvI n2)]) (st := []) (M := pvu M16_ 107 0 ((M16_.1 107 0) + 1)) rfl ⟨trivial, trivial, rfl, trivial, trivial, rfl, trivial⟩ (fun M24_ e25_ => ?_)
    have o26_ : pvOk M24_ := pvok_u2 e25_ o18_ rfl (zr_wide b22_ (by decide) (by decide))
    have f27_ : pvFr fp_eX6_append_107_x_x M M24_ := pvfr_u e25_ f19_ rfl
    have e28_ : (M24_.1 107 0) = ((M16_.1 107 0) + 1) := (pvu_s e25_)
    have b29_ : 1 ≤ Int32.toInt (M24_.1 107 0) ∧ Int32.toInt (M24_.1 107 0) ≤ 7 := (by rw [e28_]; exact b22_)
    refine pw_blk hT 2 (S' := (46, [some (pvR 107), some (pvI n1), some (pvI n2)], [pvI (M24_.1 107 0)], M24_)) rfl ⟨trivial, rfl, trivial⟩ ?_
    exact pw_ret hT rfl (r := some (pvI (M24_.1 107 0))) (M' := M24_) ⟨rfl, rfl⟩ ⟨⟨_, rfl, b29_, (by rw [if_pos c7_]; first | done | exact (show (M24_.1 107 0) = ((M.1 107 0) + 1) from by rw [((pvu_s e25_).trans (show ((M16_.1 107 0) + 1) = ((M.1 107 0) + 1) from by rw [((pvu_n e17_ 107 0 (Or.inl (by decide))).trans (pvu_n e11_ 107 0 (Or.inl (by decide))))]))]) | (rw [if_pos c7_]; exact (show (M24_.1 107 0) = ((M.1 107 0) + 1) from by rw [((pvu_s e25_).trans (show ((M16_.1 107 0) + 1) = ((M.1 107 0) + 1) from by rw [((pvu_n e17_ 107 0 (Or.inl (by decide))).trans (pvu_n e11_ 107 0 (Or.inl (by decide))))]))])))⟩, o26_, f27_, (zAp_y (by decide) (by decide) (by decide) (by have u := b8_; omega) e11_ e17_ e25_), (by rw [if_pos c7_]; first | done | exact ((pvu_s e25_).trans (show ((M16_.1 107 0) + 1) = ((M.1 107 0) + 1) from by rw [((pvu_n e17_ 107 0 (Or.inl (by decide))).trans (pvu_n e11_ 107 0 (Or.inl (by decide))))])) | (rw [if_pos c7_]; done) | (rw [if_pos c7_]; exact ((pvu_s e25_).trans (show ((M16_.1 107 0) + 1) = ((M.1 107 0) + 1) from by rw [((pvu_n e17_ 107 0 (Or.inl (by decide))).trans (pvu_n e11_ 107 0 (Or.inl (by decide))))]))))⟩
  · refine pw_eqI (if_neg c7_) ?_
    have b30_ : 7 ≤ Int32.toInt (M.1 107 0) ∧ Int32.toInt (M.1 107 0) ≤ 7 := zr_nlt_l 7 c7_ b6_ (show 7 ≤ Int32.toInt (Int32.ofNat 7) ∧ Int32.toInt (Int32.ofNat 7) ≤ 7 from (by decide)) (by decide)
    show PW 151 d (4, [some (pvR 107), some (pvI n1), some (pvI n2)], [pvI 1], M) _
    refine pw_if hT (c := 1 = 0) rfl rfl (fun c31_ => absurd c31_ (by decide)) (fun c31_ => ?_)
    refine pw_blk hT 2 (S' := (11, [some (pvR 107), some (pvI n1), some (pvI n2)], [pvI (M.1 107 0)], M)) rfl ⟨trivial, rfl, trivial⟩ ?_
    exact pw_ret hT rfl (r := some (pvI (M.1 107 0))) (M' := M) ⟨rfl, rfl⟩ ⟨⟨_, rfl, (zr_wide b30_ (by decide) (by decide)), (by rw [if_neg c7_]; first | done | (rw [if_neg c7_]; done))⟩, hok, pvfr_0, (zAp_n (by have u := b30_; omega)), (by rw [if_neg c7_]; first | done | exact rfl | (rw [if_neg c7_]; done) | (rw [if_neg c7_]; exact rfl))⟩
def fpL_eX6_becomeAs_107_106 : List (Nat × Nat × Nat) := [(0, 107, 1), (0, 115, 0), (0, 123, 0)]
def fp_eX6_becomeAs_107_106 (q k : Nat) : Bool := pvfp fpL_eX6_becomeAs_107_106 q k
theorem fp_eX6_becomeAs_107_106_fp_eX6_append_107_x_x (a b : Nat) (h : fp_eX6_append_107_x_x a b = true) : fp_eX6_becomeAs_107_106 a b = true := pvfp_sub (l1 := fpL_eX6_append_107_x_x) (l2 := fpL_eX6_becomeAs_107_106) (by decide) a b h
theorem fp_eX6_becomeAs_107_106_fp_eX6_clear_107 (a b : Nat) (h : fp_eX6_clear_107 a b = true) : fp_eX6_becomeAs_107_106 a b = true := pvfp_sub (l1 := fpL_eX6_clear_107) (l2 := fpL_eX6_becomeAs_107_106) (by decide) a b h
set_option maxHeartbeats 4000000 in
set_option maxRecDepth 10000 in
theorem se_X6_becomeAs_107_106 (M : pvM) (hok : pvOk M) (d : Nat) : PW 152 d (0, [some (pvR 107), some (pvR 106), none], [], M) (fun r X => r = none ∧ pvOk X ∧ pvFr fp_eX6_becomeAs_107_106 M X ∧ X.1 107 0 = (M.1 106 0) ∧ zC1 115 114 (Int32.toNatClampNeg (M.1 106 0)) M X ∧ zC1 123 122 (Int32.toNatClampNeg (M.1 106 0)) M X) := by
  have hT : pvdom 152 = pvD_152 := rfl
  refine pw_blk hT 1 (S' := (1, [some (pvR 107), some (pvR 106), none], [pvR 107], M)) rfl ⟨trivial, trivial⟩ ?_
  refine pw_callGd hT (as := [pvR 107]) (lo1 := [some (pvR 107)]) (d1 := d) (rest := []) rfl rfl rfl rfl rfl (fun _ => rfl) (Nat.zero_le _) rfl rfl rfl (se_X6_clear_107 M hok d) (fun x2_ M3_ b4_ o5_ g6_ d1_ => ?_)
  have f7_ : pvFr fp_eX6_becomeAs_107_106 M M3_ := pvfr_t g6_ pvfr_0 fp_eX6_becomeAs_107_106_fp_eX6_clear_107
  obtain ⟨b8_, d9_⟩ := b4_
  subst d9_
  refine pw_blk hT 3 (S' := (7, [some (pvR 107), some (pvR 106), some (pvI 0)], [], M3_)) rfl ⟨trivial, trivial, trivial, trivial⟩ ?_
  have hlz90_ : ∀ (nz90_ : Nat) (i2z90_ : Int32) (Mz90_ : pvM), (pvOk Mz90_) → (pvFr fp_eX6_becomeAs_107_106 M Mz90_) → (0 ≤ Int32.toInt i2z90_ ∧ Int32.toInt i2z90_ ≤ 7) → (Mz90_.1 107 0 = i2z90_) → (Int32.toInt i2z90_ ≤ Int32.toInt (M.1 106 0)) → (zC1 115 114 (Int32.toNatClampNeg i2z90_) M Mz90_) → (zC1 123 122 (Int32.toNatClampNeg i2z90_) M Mz90_) → (zhide ((8 - Int32.toInt i2z90_).toNat < nz90_)) → PW 152 d (7, [some (pvR 107), some (pvR 106), some (pvI i2z90_)], [], Mz90_) (fun r X => r = none ∧ pvOk X ∧ pvFr fp_eX6_becomeAs_107_106 M X ∧ X.1 107 0 = (M.1 106 0) ∧ zC1 115 114 (Int32.toNatClampNeg (M.1 106 0)) M X ∧ zC1 123 122 (Int32.toNatClampNeg (M.1 106 0)) M X) := by
    intro nz90_
    induction nz90_ with
    | zero => intro i2z90_ Mz90_ oz90_ fz90_ h2z90_ j0z90_ j1z90_ j2z90_ j3z90_ hmz90_; exact absurd (zshow hmz90_) (Nat.not_lt_zero _)
    | succ nz90_ ihz90_ =>
      intro i2z90_ Mz90_ oz90_ fz90_ h2z90_ j0z90_ j1z90_ j2z90_ j3z90_ hmz90_
      have b91_ : 0 ≤ Int32.toInt (Mz90_.1 106 0) ∧ Int32.toInt (Mz90_.1 106 0) ≤ 7 := pvok_r oz90_ 106 0 rfl
      refine pw_blk hT 3 (S' := (12, [some (pvR 107), some (pvR 106), some (pvI i2z90_)], [pvI (Mz90_.1 106 0), pvI i2z90_], Mz90_)) rfl ⟨trivial, trivial, rfl, trivial⟩ ?_
      refine pw_ic hT (c := (Mz90_.1 106 0) ≤ i2z90_) rfl rfl (fun c92_ => ?_) (fun c92_ => ?_)
      · have d93_ : Int32.toInt (Mz90_.1 106 0) ≤ Int32.toInt i2z90_ := (zi_le _ _).mp c92_
        exact pw_ret hT rfl (r := none) (M' := Mz90_) ⟨rfl, rfl⟩ ⟨rfl, oz90_, fz90_, (Int32.toInt_inj.mp (by have z3 : Mz90_.1 106 0 = M.1 106 0 := fz90_ 106 0 rfl; have z4 := congrArg Int32.toInt z3; have z5 := congrArg Int32.toInt j0z90_; omega)), (zC1_n (show Int32.toNatClampNeg (M.1 106 0) = Int32.toNatClampNeg i2z90_ from by have z3 : Mz90_.1 106 0 = M.1 106 0 := fz90_ 106 0 rfl; have z4 := congrArg Int32.toInt z3; show (M.1 106 0).toInt.toNat = i2z90_.toInt.toNat; omega) j2z90_), (zC1_n (show Int32.toNatClampNeg (M.1 106 0) = Int32.toNatClampNeg i2z90_ from by have z3 : Mz90_.1 106 0 = M.1 106 0 := fz90_ 106 0 rfl; have z4 := congrArg Int32.toInt z3; show (M.1 106 0).toInt.toNat = i2z90_.toInt.toNat; omega) j3z90_)⟩
      · have b94_ : 1 ≤ Int32.toInt (Mz90_.1 106 0) ∧ Int32.toInt (Mz90_.1 106 0) ≤ 7 := zr_nle_l 1 c92_ b91_ h2z90_ (by decide)
        have b95_ : 0 ≤ Int32.toInt i2z90_ ∧ Int32.toInt i2z90_ ≤ 6 := zr_nle_r 6 c92_ h2z90_ b94_ (by decide)
        have d96_ : Int32.toInt (Mz90_.1 106 0) > Int32.toInt i2z90_ := Int.not_le.mp ((not_congr (zi_le _ _)).mp c92_)
        have b97_ : 0 ≤ Int32.toInt (Mz90_.1 114 (Int32.toNatClampNeg i2z90_)) ∧ Int32.toInt (Mz90_.1 114 (Int32.toNatClampNeg i2z90_)) ≤ 6 := pvok_r oz90_ 114 (Int32.toNatClampNeg i2z90_) rfl
        have b98_ : 0 ≤ Int32.toInt (Mz90_.1 122 (Int32.toNatClampNeg i2z90_)) ∧ Int32.toInt (Mz90_.1 122 (Int32.toNatClampNeg i2z90_)) ≤ 9999 := pvok_r oz90_ 122 (Int32.toNatClampNeg i2z90_) rfl
        refine pw_blk hT 9 (S' := (28, [some (pvR 107), some (pvR 106), some (pvI i2z90_)], [pvI (Mz90_.1 122 (Int32.toNatClampNeg i2z90_)), pvI (Mz90_.1 114 (Int32.toNatClampNeg i2z90_)), pvR 107], Mz90_)) rfl ⟨trivial, trivial, rfl, trivial, ⟨rfl, (zr_in (n := 7) b95_ (by decide) (by decide))⟩, trivial, rfl, trivial, ⟨rfl, (zr_in (n := 7) b95_ (by decide) (by decide))⟩, trivial⟩ ?_
        refine pw_callGd hT (as := [pvR 107, pvI (Mz90_.1 114 (Int32.toNatClampNeg i2z90_)), pvI (Mz90_.1 122 (Int32.toNatClampNeg i2z90_))]) (lo1 := [some (pvR 107), some (pvI (Mz90_.1 114 (Int32.toNatClampNeg i2z90_))), some (pvI (Mz90_.1 122 (Int32.toNatClampNeg i2z90_)))]) (d1 := d) (rest := []) rfl rfl rfl rfl rfl (fun _ => rfl) (Nat.zero_le _) rfl rfl rfl (se_X6_append_107_x_x Mz90_ oz90_ (Mz90_.1 114 (Int32.toNatClampNeg i2z90_)) (Mz90_.1 122 (Int32.toNatClampNeg i2z90_)) b97_ b98_ d) (fun x100_ M101_ b102_ o103_ g104_ d99_ => ?_)
        have f105_ : pvFr fp_eX6_becomeAs_107_106 M M101_ := pvfr_t g104_ fz90_ fp_eX6_becomeAs_107_106_fp_eX6_append_107_x_x
        obtain ⟨b106_, d107_⟩ := b102_
        subst d107_
        obtain ⟨q109_, b108_⟩ : (Int32.toInt (i2z90_ + 1) = Int32.toInt i2z90_ + 1) ∧ (1 ≤ Int32.toInt (i2z90_ + 1) ∧ Int32.toInt (i2z90_ + 1) ≤ 7) := zadd_k i2z90_ 1 1 1 7 b95_ (by decide) (by decide) (by decide) (by decide) (by decide)
        refine pw_blk hT 3 (S' := (7, [some (pvR 107), some (pvR 106), some (pvI (i2z90_ + 1))], [], M101_)) rfl ⟨trivial, trivial, trivial, trivial⟩ ?_
        have j110_ : M101_.1 107 0 = (i2z90_ + 1) := (by have z1 : Int32.toInt (Int32.ofNat 7) = 7 := (by decide); have z2 := pvok_r oz90_ 106 0 rfl; have z3 : Mz90_.1 106 0 = M.1 106 0 := fz90_ 106 0 rfl; have z4 := congrArg Int32.toInt z3; rw [d99_.2, j0z90_, if_pos ((zi_lt _ _).mpr (by omega))])
        have j111_ : Int32.toInt (i2z90_ + 1) ≤ Int32.toInt (M.1 106 0) := (by have z3 : Mz90_.1 106 0 = M.1 106 0 := fz90_ 106 0 rfl; have z4 := congrArg Int32.toInt z3; omega)
        have j112_ : zC1 115 114 (Int32.toNatClampNeg (i2z90_ + 1)) M M101_ := (zC1_n (znp1 b95_ (by decide) (by decide)) (zC1_ap j2z90_ d99_.1 j0z90_ (by have u := b95_; omega) (fz90_ 114 (Int32.toNatClampNeg i2z90_) rfl)))
        have j113_ : zC1 123 122 (Int32.toNatClampNeg (i2z90_ + 1)) M M101_ := (zC1_n (znp1 b95_ (by decide) (by decide)) (zC1_bp j3z90_ d99_.1 j0z90_ (by have u := b95_; omega) (fz90_ 122 (Int32.toNatClampNeg i2z90_) rfl)))
        exact ihz90_ (i2z90_ + 1) M101_ o103_ f105_ (zr_wide b108_ (by decide) (by decide)) j110_ j111_ j112_ j113_ (zhid (pvms_up (zshow hmz90_) h2z90_ q109_ (by decide) (by decide)))
  have u114_ : Int32.toInt 0 = 0 := by decide
  have j115_ : M3_.1 107 0 = 0 := d1_
  have j116_ : Int32.toInt 0 ≤ Int32.toInt (M.1 106 0) := (by have z := pvok_r hok 106 0 rfl; have u : Int32.toInt 0 = 0 := (by decide); omega)
  have j117_ : zC1 115 114 (Int32.toNatClampNeg 0) M M3_ := (zC1_0 115 114 M M3_)
  have j118_ : zC1 123 122 (Int32.toNatClampNeg 0) M M3_ := (zC1_0 123 122 M M3_)
  exact hlz90_ _ 0 M3_ o5_ f7_ (zr_wide (show 0 ≤ Int32.toInt 0 ∧ Int32.toInt 0 ≤ 0 from (by decide)) (by decide) (by decide)) j115_ j116_ j117_ j118_ (zhid (Nat.lt_succ_self _))
def fpL_eX6_swap_106_x_x : List (Nat × Nat × Nat) := [(0, 114, 0)]
def fp_eX6_swap_106_x_x (q k : Nat) : Bool := pvfp fpL_eX6_swap_106_x_x q k
set_option maxHeartbeats 4000000 in
set_option maxRecDepth 10000 in
theorem se_X6_swap_106_x_x (M : pvM) (hok : pvOk M) (n1 : Int32) (n2 : Int32) (hn1 : 0 ≤ Int32.toInt n1 ∧ Int32.toInt n1 ≤ 6) (hn2 : 0 ≤ Int32.toInt n2 ∧ Int32.toInt n2 ≤ 6) (d : Nat) : PW 157 d (0, [some (pvR 106), some (pvI n1), some (pvI n2), none], [], M) (fun r X => r = none ∧ pvOk X ∧ pvFr fp_eX6_swap_106_x_x M X ∧ ySwp n1 n2 M X) := by
  have hT : pvdom 157 = pvD_157 := rfl
  have b1_ : 0 ≤ Int32.toInt (M.1 114 (Int32.toNatClampNeg n1)) ∧ Int32.toInt (M.1 114 (Int32.toNatClampNeg n1)) ≤ 6 := pvok_r hok 114 (Int32.toNatClampNeg n1) rfl
  have b2_ : 0 ≤ Int32.toInt (M.1 114 (Int32.toNatClampNeg n2)) ∧ Int32.toInt (M.1 114 (Int32.toNatClampNeg n2)) ≤ 6 := pvok_r hok 114 (Int32.toNatClampNeg n2) rfl
  refine pw_blkw hT 13 (pc := 19) (lo := [some (pvR 106), some (pvI n1), some (pvI n2), some (pvI (M.1 114 (Int32.toNatClampNeg n1)))]) (st := []) (M := pvu M 114 (Int32.toNatClampNeg n1) (M.1 114 (Int32.toNatClampNeg n2))) rfl ⟨trivial, rfl, trivial, ⟨rfl, (zr_in (n := 7) hn1 (by decide) (by decide))⟩, trivial, trivial, rfl, trivial, trivial, rfl, trivial, ⟨rfl, (zr_in (n := 7) hn2 (by decide) (by decide))⟩, ⟨rfl, (zr_in (n := 7) hn1 (by decide) (by decide))⟩, trivial⟩ (fun M3_ e4_ => ?_)
  have o5_ : pvOk M3_ := pvok_u2 e4_ hok rfl b2_
  have f6_ : pvFr fp_eX6_swap_106_x_x M M3_ := pvfr_u e4_ pvfr_0 rfl
  refine pw_blkw hT 5 (pc := 26) (lo := [some (pvR 106), some (pvI n1), some (pvI n2), some (pvI (M.1 114 (Int32.toNatClampNeg n1)))]) (st := []) (M := pvu M3_ 114 (Int32.toNatClampNeg n2) (M.1 114 (Int32.toNatClampNeg n1))) rfl ⟨trivial, rfl, trivial, trivial, ⟨rfl, (zr_in (n := 7) hn2 (by decide) (by decide))⟩, trivial⟩ (fun M7_ e8_ => ?_)
  have o9_ : pvOk M7_ := pvok_u2 e8_ o5_ rfl b1_
  have f10_ : pvFr fp_eX6_swap_106_x_x M M7_ := pvfr_u e8_ f6_ rfl
  exact pw_ret hT rfl (r := none) (M' := M7_) ⟨rfl, rfl⟩ ⟨rfl, o9_, f10_, (ySwp_i e4_ rfl e8_ rfl)⟩
def fpL_eX6_permute_106 : List (Nat × Nat × Nat) := [(0, 114, 0)]
def fp_eX6_permute_106 (q k : Nat) : Bool := pvfp fpL_eX6_permute_106 q k
theorem fp_eX6_permute_106_fp_eX6_swap_106_x_x (a b : Nat) (h : fp_eX6_swap_106_x_x a b = true) : fp_eX6_permute_106 a b = true := pvfp_sub (l1 := fpL_eX6_swap_106_x_x) (l2 := fpL_eX6_permute_106) (by decide) a b h
set_option maxHeartbeats 4000000 in
set_option maxRecDepth 10000 in
theorem se_X6_permute_106 (M : pvM) (hok : pvOk M) (d : Nat) : PW 156 d (0, [some (pvR 106), none, none, none, none], [], M) (fun r X => (∃ x : Int32, r = some (pvI x) ∧ 0 ≤ Int32.toInt x ∧ Int32.toInt x ≤ 1) ∧ pvOk X ∧ pvFr fp_eX6_permute_106 M X ∧ yPm r M X) := by
  have hT : pvdom 156 = pvD_156 := rfl
  have b1_ : 0 ≤ Int32.toInt (M.1 106 0) ∧ Int32.toInt (M.1 106 0) ≤ 7 := pvok_r hok 106 0 rfl
  obtain ⟨q3_, b2_⟩ : (Int32.toInt ((M.1 106 0) - 2) = Int32.toInt (M.1 106 0) - 2) ∧ ((-2) ≤ Int32.toInt ((M.1 106 0) - 2) ∧ Int32.toInt ((M.1 106 0) - 2) ≤ 5) := zsub_k (M.1 106 0) 2 2 (-2) 5 b1_ (by decide) (by decide) (by decide) (by decide) (by decide)
  refine pw_blk hT 5 (S' := (7, [some (pvR 106), some (pvI ((M.1 106 0) - 2)), none, none, none], [], M)) rfl ⟨trivial, rfl, trivial, trivial, trivial, trivial⟩ ?_
  have hlz439_ : ∀ (nz439_ : Nat) (i1z439_ : Int32), ((-2) ≤ Int32.toInt i1z439_ ∧ Int32.toInt i1z439_ ≤ 5) → (Int32.toInt i1z439_ ≤ Int32.toInt (M.1 106 0) - 2) → (yPr M i1z439_) → (zhide ((Int32.toInt i1z439_ + 3).toNat < nz439_)) → PW 156 d (7, [some (pvR 106), some (pvI i1z439_), none, none, none], [], M) (fun r X => (∃ x : Int32, r = some (pvI x) ∧ 0 ≤ Int32.toInt x ∧ Int32.toInt x ≤ 1) ∧ pvOk X ∧ pvFr fp_eX6_permute_106 M X ∧ yPm r M X) := by
    intro nz439_
    induction nz439_ with
    | zero => intro i1z439_ h1z439_ j0z439_ j1z439_ hmz439_; exact absurd (zshow hmz439_) (Nat.not_lt_zero _)
    | succ nz439_ ihz439_ =>
      intro i1z439_ h1z439_ j0z439_ j1z439_ hmz439_
      refine pw_blk hT 1 (S' := (8, [some (pvR 106), some (pvI i1z439_), none, none, none], [pvI i1z439_], M)) rfl ⟨trivial, trivial⟩ ?_
      refine pw_if hT (c := i1z439_ < 0) rfl rfl (fun c440_ => ?_) (fun c440_ => ?_)
      · have b441_ : (-2) ≤ Int32.toInt i1z439_ ∧ Int32.toInt i1z439_ ≤ (-1) := zr_lt_l (-1) c440_ h1z439_ (show 0 ≤ Int32.toInt 0 ∧ Int32.toInt 0 ≤ 0 from (by decide)) (by decide)
        refine pw_blk hT 1 (S' := (35, [some (pvR 106), some (pvI i1z439_), none, none, none], [pvI i1z439_], M)) rfl ⟨trivial, trivial⟩ ?_
        refine pw_if hT (c := 0 ≤ i1z439_) rfl rfl (fun c442_ => absurd c442_ (by have z0 := (show 0 ≤ Int32.toInt 0 ∧ Int32.toInt 0 ≤ 0 from (by decide)); have z1 := b441_; rw [zi_le]; omega)) (fun c442_ => ?_)
        refine pw_blk hT 1 (S' := (39, [some (pvR 106), some (pvI i1z439_), none, none, none], [pvI 0], M)) rfl ⟨trivial, trivial⟩ ?_
        exact pw_ret hT rfl (r := some (pvI 0)) (M' := M) ⟨Or.inl rfl, rfl, rfl⟩ ⟨⟨_, rfl, (zr_wide (show 0 ≤ Int32.toInt 0 ∧ Int32.toInt 0 ≤ 0 from (by decide)) (by decide) (by decide))⟩, hok, pvfr_0, (yPm_n j1z439_ (by have u := b441_; omega))⟩
      · have b443_ : 0 ≤ Int32.toInt i1z439_ ∧ Int32.toInt i1z439_ ≤ 5 := zr_nlt_l 0 c440_ h1z439_ (show 0 ≤ Int32.toInt 0 ∧ Int32.toInt 0 ≤ 0 from (by decide)) (by decide)
        have b444_ : 0 ≤ Int32.toInt (M.1 114 (Int32.toNatClampNeg i1z439_)) ∧ Int32.toInt (M.1 114 (Int32.toNatClampNeg i1z439_)) ≤ 6 := pvok_r hok 114 (Int32.toNatClampNeg i1z439_) rfl
        obtain ⟨q446_, b445_⟩ : (Int32.toInt (i1z439_ + 1) = Int32.toInt i1z439_ + 1) ∧ (1 ≤ Int32.toInt (i1z439_ + 1) ∧ Int32.toInt (i1z439_ + 1) ≤ 6) := zadd_k i1z439_ 1 1 1 6 b443_ (by decide) (by decide) (by decide) (by decide) (by decide)
        have b447_ : 0 ≤ Int32.toInt (M.1 114 (Int32.toNatClampNeg (i1z439_ + 1))) ∧ Int32.toInt (M.1 114 (Int32.toNatClampNeg (i1z439_ + 1))) ≤ 6 := pvok_r hok 114 (Int32.toNatClampNeg (i1z439_ + 1)) rfl
        refine pw_blk hT 10 (S' := (25, [some (pvR 106), some (pvI i1z439_), none, none, none], [pvI (M.1 114 (Int32.toNatClampNeg (i1z439_ + 1))), pvI (M.1 114 (Int32.toNatClampNeg i1z439_))], M)) rfl ⟨trivial, rfl, trivial, ⟨rfl, (zr_in (n := 7) b443_ (by decide) (by decide))⟩, trivial, rfl, trivial, trivial, trivial, ⟨rfl, (zr_in (n := 7) b445_ (by decide) (by decide))⟩, trivial⟩ ?_
        refine pw_ic hT (c := (M.1 114 (Int32.toNatClampNeg i1z439_)) < (M.1 114 (Int32.toNatClampNeg (i1z439_ + 1)))) rfl rfl (fun c448_ => ?_) (fun c448_ => ?_)
        · have b449_ : 0 ≤ Int32.toInt (M.1 114 (Int32.toNatClampNeg i1z439_)) ∧ Int32.toInt (M.1 114 (Int32.toNatClampNeg i1z439_)) ≤ 5 := zr_lt_l 5 c448_ b444_ b447_ (by decide)
          have b450_ : 1 ≤ Int32.toInt (M.1 114 (Int32.toNatClampNeg (i1z439_ + 1))) ∧ Int32.toInt (M.1 114 (Int32.toNatClampNeg (i1z439_ + 1))) ≤ 6 := zr_lt_r 1 c448_ b447_ b449_ (by decide)
          have d451_ : Int32.toInt (M.1 114 (Int32.toNatClampNeg i1z439_)) < Int32.toInt (M.1 114 (Int32.toNatClampNeg (i1z439_ + 1))) := (zi_lt _ _).mp c448_
          refine pw_blk hT 1 (S' := (35, [some (pvR 106), some (pvI i1z439_), none, none, none], [pvI i1z439_], M)) rfl ⟨trivial, trivial⟩ ?_
          refine pw_if hT (c := 0 ≤ i1z439_) rfl rfl (fun c452_ => ?_) (fun c452_ => absurd (by have z0 := (show 0 ≤ Int32.toInt 0 ∧ Int32.toInt 0 ≤ 0 from (by decide)); have z1 := b443_; rw [zi_le]; omega) c452_)
          obtain ⟨q454_, b453_⟩ : (Int32.toInt ((M.1 106 0) - 1) = Int32.toInt (M.1 106 0) - 1) ∧ ((-1) ≤ Int32.toInt ((M.1 106 0) - 1) ∧ Int32.toInt ((M.1 106 0) - 1) ≤ 6) := zsub_k (M.1 106 0) 1 1 (-1) 6 b1_ (by decide) (by decide) (by decide) (by decide) (by decide)
          refine pw_blk hT 5 (S' := (47, [some (pvR 106), some (pvI i1z439_), some (pvI ((M.1 106 0) - 1)), none, none], [], M)) rfl ⟨trivial, rfl, trivial, trivial, trivial, trivial⟩ ?_
          have hlz731_ : ∀ (nz731_ : Nat) (i2z731_ : Int32), (0 ≤ Int32.toInt i2z731_ ∧ Int32.toInt i2z731_ ≤ 6) → (Int32.toInt i1z439_ ≤ Int32.toInt i2z731_) → (yPh1 M i1z439_ i2z731_) → (zhide ((Int32.toInt i2z731_ + 1).toNat < nz731_)) → PW 156 d (47, [some (pvR 106), some (pvI i1z439_), some (pvI i2z731_), none, none], [], M) (fun r X => (∃ x : Int32, r = some (pvI x) ∧ 0 ≤ Int32.toInt x ∧ Int32.toInt x ≤ 1) ∧ pvOk X ∧ pvFr fp_eX6_permute_106 M X ∧ yPm r M X) := by
            intro nz731_
            induction nz731_ with
            | zero => intro i2z731_ h2z731_ j0z731_ j1z731_ hmz731_; exact absurd (zshow hmz731_) (Nat.not_lt_zero _)
            | succ nz731_ ihz731_ =>
              intro i2z731_ h2z731_ j0z731_ j1z731_ hmz731_
              refine pw_blk hT 2 (S' := (49, [some (pvR 106), some (pvI i1z439_), some (pvI i2z731_), none, none], [pvI i1z439_, pvI i2z731_], M)) rfl ⟨trivial, trivial, trivial⟩ ?_
              refine pw_ic hT (c := i2z731_ ≤ i1z439_) rfl rfl (fun c732_ => ?_) (fun c732_ => ?_)
              · have b733_ : 0 ≤ Int32.toInt i2z731_ ∧ Int32.toInt i2z731_ ≤ 5 := zr_le_l 5 c732_ h2z731_ b443_ (by decide)
                have d734_ : Int32.toInt i2z731_ ≤ Int32.toInt i1z439_ := (zi_le _ _).mp c732_
                refine pw_blk hT 3 (S' := (76, [some (pvR 106), some (pvI i1z439_), some (pvI i2z731_), none, none], [pvI i2z731_, pvI i1z439_, pvR 106], M)) rfl ⟨trivial, trivial, trivial, trivial⟩ ?_
                refine pw_callVd hT (as := [pvR 106, pvI i1z439_, pvI i2z731_]) (lo1 := [some (pvR 106), some (pvI i1z439_), some (pvI i2z731_), none]) (d1 := d) (rest := []) rfl rfl rfl rfl rfl (fun _ => rfl) (Nat.zero_le _) rfl rfl rfl (se_X6_swap_106_x_x M hok i1z439_ i2z731_ (zr_wide b443_ (by decide) (by decide)) (zr_wide b733_ (by decide) (by decide)) d) (fun M737_ o739_ g740_ d735_ => ?_)
                have f741_ : pvFr fp_eX6_permute_106 M M737_ := pvfr_t g740_ pvfr_0 fp_eX6_permute_106_fp_eX6_swap_106_x_x
                have b742_ : 0 ≤ Int32.toInt (M737_.1 106 0) ∧ Int32.toInt (M737_.1 106 0) ≤ 7 := pvok_r o739_ 106 0 rfl
                obtain ⟨q744_, b743_⟩ : (Int32.toInt ((M737_.1 106 0) - 1) = Int32.toInt (M737_.1 106 0) - 1) ∧ ((-1) ≤ Int32.toInt ((M737_.1 106 0) - 1) ∧ Int32.toInt ((M737_.1 106 0) - 1) ≤ 6) := zsub_k (M737_.1 106 0) 1 1 (-1) 6 b742_ (by decide) (by decide) (by decide) (by decide) (by decide)
                refine pw_blk hT 9 (S' := (91, [some (pvR 106), some (pvI i1z439_), some (pvI i2z731_), some (pvI (i1z439_ + 1)), some (pvI ((M737_.1 106 0) - 1))], [], M737_)) rfl ⟨trivial, trivial, trivial, trivial, trivial, rfl, trivial, trivial, trivial, trivial⟩ ?_
                have hlz779_ : ∀ (nz779_ : Nat) (i3z779_ : Int32) (i4z779_ : Int32) (Mz779_ : pvM), (pvOk Mz779_) → (pvFr fp_eX6_permute_106 M Mz779_) → (1 ≤ Int32.toInt i3z779_ ∧ Int32.toInt i3z779_ ≤ 6) → ((-1) ≤ Int32.toInt i4z779_ ∧ Int32.toInt i4z779_ ≤ 6) → (yPv M Mz779_ i1z439_ i2z731_ i3z779_ i4z779_) → (zhide ((7 - Int32.toInt i3z779_).toNat < nz779_)) → PW 156 d (91, [some (pvR 106), some (pvI i1z439_), some (pvI i2z731_), some (pvI i3z779_), some (pvI i4z779_)], [], Mz779_) (fun r X => (∃ x : Int32, r = some (pvI x) ∧ 0 ≤ Int32.toInt x ∧ Int32.toInt x ≤ 1) ∧ pvOk X ∧ pvFr fp_eX6_permute_106 M X ∧ yPm r M X) := by
                  intro nz779_
                  induction nz779_ with
                  | zero => intro i3z779_ i4z779_ Mz779_ oz779_ fz779_ h3z779_ h4z779_ j0z779_ hmz779_; exact absurd (zshow hmz779_) (Nat.not_lt_zero _)
                  | succ nz779_ ihz779_ =>
                    intro i3z779_ i4z779_ Mz779_ oz779_ fz779_ h3z779_ h4z779_ j0z779_ hmz779_
                    refine pw_blk hT 2 (S' := (94, [some (pvR 106), some (pvI i1z439_), some (pvI i2z731_), some (pvI i3z779_), some (pvI i4z779_)], [pvI i4z779_, pvI i3z779_], Mz779_)) rfl ⟨trivial, trivial, trivial⟩ ?_
                    refine pw_ic hT (c := i4z779_ ≤ i3z779_) rfl rfl (fun c780_ => ?_) (fun c780_ => ?_)
                    · have d781_ : Int32.toInt i4z779_ ≤ Int32.toInt i3z779_ := (zi_le _ _).mp c780_
                      refine pw_blk hT 1 (S' := (114, [some (pvR 106), some (pvI i1z439_), some (pvI i2z731_), some (pvI i3z779_), some (pvI i4z779_)], [pvI 1], Mz779_)) rfl ⟨trivial, trivial⟩ ?_
                      exact pw_ret hT rfl (r := some (pvI 1)) (M' := Mz779_) ⟨Or.inr rfl, rfl, rfl⟩ ⟨⟨_, rfl, (zr_wide (show 1 ≤ Int32.toInt 1 ∧ Int32.toInt 1 ≤ 1 from (by decide)) (by decide) (by decide))⟩, oz779_, fz779_, (yPm_y hok (yPr_y (r1 := i1z439_ + 1) hok j1z439_ (by have u := b443_; omega) (by omega) (Int32.not_le.mpr c448_)) (yPh1_e hok j1z731_ (by have u := b443_; omega) (by have u := b733_; omega) (Or.inl (by have v := (zi_le _ _).mp c732_; omega))) j0z779_ (by have u := h3z779_; omega) (by have v := (zi_le _ _).mp c780_; omega))⟩
                    · have b782_ : 2 ≤ Int32.toInt i4z779_ ∧ Int32.toInt i4z779_ ≤ 6 := zr_nle_l 2 c780_ h4z779_ h3z779_ (by decide)
                      have b783_ : 1 ≤ Int32.toInt i3z779_ ∧ Int32.toInt i3z779_ ≤ 5 := zr_nle_r 5 c780_ h3z779_ b782_ (by decide)
                      have d784_ : Int32.toInt i4z779_ > Int32.toInt i3z779_ := Int.not_le.mp ((not_congr (zi_le _ _)).mp c780_)
                      refine pw_blk hT 3 (S' := (101, [some (pvR 106), some (pvI i1z439_), some (pvI i2z731_), some (pvI i3z779_), some (pvI i4z779_)], [pvI i4z779_, pvI i3z779_, pvR 106], Mz779_)) rfl ⟨trivial, trivial, trivial, trivial⟩ ?_
                      refine pw_callVd hT (as := [pvR 106, pvI i3z779_, pvI i4z779_]) (lo1 := [some (pvR 106), some (pvI i3z779_), some (pvI i4z779_), none]) (d1 := d) (rest := []) rfl rfl rfl rfl rfl (fun _ => rfl) (Nat.zero_le _) rfl rfl rfl (se_X6_swap_106_x_x Mz779_ oz779_ i3z779_ i4z779_ (zr_wide b783_ (by decide) (by decide)) (zr_wide b782_ (by decide) (by decide)) d) (fun M787_ o789_ g790_ d785_ => ?_)
                      have f791_ : pvFr fp_eX6_permute_106 M M787_ := pvfr_t g790_ fz779_ fp_eX6_permute_106_fp_eX6_swap_106_x_x
                      obtain ⟨q793_, b792_⟩ : (Int32.toInt (i3z779_ + 1) = Int32.toInt i3z779_ + 1) ∧ (2 ≤ Int32.toInt (i3z779_ + 1) ∧ Int32.toInt (i3z779_ + 1) ≤ 6) := zadd_k i3z779_ 1 1 2 6 b783_ (by decide) (by decide) (by decide) (by decide) (by decide)
                      obtain ⟨q795_, b794_⟩ : (Int32.toInt (i4z779_ + (-1)) = Int32.toInt i4z779_ + (-1)) ∧ (1 ≤ Int32.toInt (i4z779_ + (-1)) ∧ Int32.toInt (i4z779_ + (-1)) ≤ 5) := zadd_k i4z779_ (-1) (-1) 1 5 b782_ (by decide) (by decide) (by decide) (by decide) (by decide)
                      refine pw_blk hT 3 (S' := (91, [some (pvR 106), some (pvI i1z439_), some (pvI i2z731_), some (pvI (i3z779_ + 1)), some (pvI (i4z779_ + (-1)))], [], M787_)) rfl ⟨trivial, trivial, trivial, trivial⟩ ?_
                      have j796_ : yPv M M787_ i1z439_ i2z731_ (i3z779_ + 1) (i4z779_ + (-1)) := (yPv_s hok oz779_ j0z779_ (by have u := b783_; omega) (by have v := (not_congr (zi_le _ _)).mp c780_; omega) d785_ rfl rfl)
                      exact ihz779_ (i3z779_ + 1) (i4z779_ + (-1)) M787_ o789_ f791_ (zr_wide b792_ (by decide) (by decide)) (zr_wide b794_ (by decide) (by decide)) j796_ (zhid (pvms_up (zshow hmz779_) h3z779_ q793_ (by decide) (by decide)))
                have j797_ : yPv M M737_ i1z439_ i2z731_ (i1z439_ + 1) ((M737_.1 106 0) - 1) := (yPv_0 hok d735_ (by have u := b443_; omega) (by omega) (by have e := congrArg Int32.toInt (congrFun (d735_.1 106 (by decide)) 0); omega) ⟨(by have u := b445_; omega), (by have e := congrArg Int32.toInt (congrFun (d735_.1 106 (by decide)) 0); omega)⟩)
                exact hlz779_ _ (i1z439_ + 1) ((M737_.1 106 0) - 1) M737_ o739_ f741_ b445_ b743_ j797_ (zhid (Nat.lt_succ_self _))
              · have b798_ : 1 ≤ Int32.toInt i2z731_ ∧ Int32.toInt i2z731_ ≤ 6 := zr_nle_l 1 c732_ h2z731_ b443_ (by decide)
                have d799_ : Int32.toInt i2z731_ > Int32.toInt i1z439_ := Int.not_le.mp ((not_congr (zi_le _ _)).mp c732_)
                have b800_ : 0 ≤ Int32.toInt (M.1 114 (Int32.toNatClampNeg i2z731_)) ∧ Int32.toInt (M.1 114 (Int32.toNatClampNeg i2z731_)) ≤ 6 := pvok_r hok 114 (Int32.toNatClampNeg i2z731_) rfl
                refine pw_blk hT 8 (S' := (64, [some (pvR 106), some (pvI i1z439_), some (pvI i2z731_), none, none], [pvI (M.1 114 (Int32.toNatClampNeg i1z439_)), pvI (M.1 114 (Int32.toNatClampNeg i2z731_))], M)) rfl ⟨trivial, rfl, trivial, ⟨rfl, (zr_in (n := 7) b798_ (by decide) (by decide))⟩, trivial, rfl, trivial, ⟨rfl, (zr_in (n := 7) b443_ (by decide) (by decide))⟩, trivial⟩ ?_
                refine pw_ic hT (c := (M.1 114 (Int32.toNatClampNeg i1z439_)) < (M.1 114 (Int32.toNatClampNeg i2z731_))) rfl rfl (fun c801_ => ?_) (fun c801_ => ?_)
                · have b802_ : 1 ≤ Int32.toInt (M.1 114 (Int32.toNatClampNeg i2z731_)) ∧ Int32.toInt (M.1 114 (Int32.toNatClampNeg i2z731_)) ≤ 6 := zr_lt_r 1 c801_ b800_ b449_ (by decide)
                  have d803_ : Int32.toInt (M.1 114 (Int32.toNatClampNeg i1z439_)) < Int32.toInt (M.1 114 (Int32.toNatClampNeg i2z731_)) := (zi_lt _ _).mp c801_
                  refine pw_blk hT 3 (S' := (76, [some (pvR 106), some (pvI i1z439_), some (pvI i2z731_), none, none], [pvI i2z731_, pvI i1z439_, pvR 106], M)) rfl ⟨trivial, trivial, trivial, trivial⟩ ?_
                  refine pw_callVd hT (as := [pvR 106, pvI i1z439_, pvI i2z731_]) (lo1 := [some (pvR 106), some (pvI i1z439_), some (pvI i2z731_), none]) (d1 := d) (rest := []) rfl rfl rfl rfl rfl (fun _ => rfl) (Nat.zero_le _) rfl rfl rfl (se_X6_swap_106_x_x M hok i1z439_ i2z731_ (zr_wide b443_ (by decide) (by decide)) (zr_wide b798_ (by decide) (by decide)) d) (fun M806_ o808_ g809_ d804_ => ?_)
                  have f810_ : pvFr fp_eX6_permute_106 M M806_ := pvfr_t g809_ pvfr_0 fp_eX6_permute_106_fp_eX6_swap_106_x_x
                  have b811_ : 0 ≤ Int32.toInt (M806_.1 106 0) ∧ Int32.toInt (M806_.1 106 0) ≤ 7 := pvok_r o808_ 106 0 rfl
                  obtain ⟨q813_, b812_⟩ : (Int32.toInt ((M806_.1 106 0) - 1) = Int32.toInt (M806_.1 106 0) - 1) ∧ ((-1) ≤ Int32.toInt ((M806_.1 106 0) - 1) ∧ Int32.toInt ((M806_.1 106 0) - 1) ≤ 6) := zsub_k (M806_.1 106 0) 1 1 (-1) 6 b811_ (by decide) (by decide) (by decide) (by decide) (by decide)
                  refine pw_blk hT 9 (S' := (91, [some (pvR 106), some (pvI i1z439_), some (pvI i2z731_), some (pvI (i1z439_ + 1)), some (pvI ((M806_.1 106 0) - 1))], [], M806_)) rfl ⟨trivial, trivial, trivial, trivial, trivial, rfl, trivial, trivial, trivial, trivial⟩ ?_
                  have hlz848_ : ∀ (nz848_ : Nat) (i3z848_ : Int32) (i4z848_ : Int32) (Mz848_ : pvM), (pvOk Mz848_) → (pvFr fp_eX6_permute_106 M Mz848_) → (1 ≤ Int32.toInt i3z848_ ∧ Int32.toInt i3z848_ ≤ 6) → ((-1) ≤ Int32.toInt i4z848_ ∧ Int32.toInt i4z848_ ≤ 6) → (yPv M Mz848_ i1z439_ i2z731_ i3z848_ i4z848_) → (zhide ((7 - Int32.toInt i3z848_).toNat < nz848_)) → PW 156 d (91, [some (pvR 106), some (pvI i1z439_), some (pvI i2z731_), some (pvI i3z848_), some (pvI i4z848_)], [], Mz848_) (fun r X => (∃ x : Int32, r = some (pvI x) ∧ 0 ≤ Int32.toInt x ∧ Int32.toInt x ≤ 1) ∧ pvOk X ∧ pvFr fp_eX6_permute_106 M X ∧ yPm r M X) := by
                    intro nz848_
                    induction nz848_ with
                    | zero => intro i3z848_ i4z848_ Mz848_ oz848_ fz848_ h3z848_ h4z848_ j0z848_ hmz848_; exact absurd (zshow hmz848_) (Nat.not_lt_zero _)
                    | succ nz848_ ihz848_ =>
                      intro i3z848_ i4z848_ Mz848_ oz848_ fz848_ h3z848_ h4z848_ j0z848_ hmz848_
                      refine pw_blk hT 2 (S' := (94, [some (pvR 106), some (pvI i1z439_), some (pvI i2z731_), some (pvI i3z848_), some (pvI i4z848_)], [pvI i4z848_, pvI i3z848_], Mz848_)) rfl ⟨trivial, trivial, trivial⟩ ?_
                      refine pw_ic hT (c := i4z848_ ≤ i3z848_) rfl rfl (fun c849_ => ?_) (fun c849_ => ?_)
                      · have d850_ : Int32.toInt i4z848_ ≤ Int32.toInt i3z848_ := (zi_le _ _).mp c849_
                        refine pw_blk hT 1 (S' := (114, [some (pvR 106), some (pvI i1z439_), some (pvI i2z731_), some (pvI i3z848_), some (pvI i4z848_)], [pvI 1], Mz848_)) rfl ⟨trivial, trivial⟩ ?_
                        exact pw_ret hT rfl (r := some (pvI 1)) (M' := Mz848_) ⟨Or.inr rfl, rfl, rfl⟩ ⟨⟨_, rfl, (zr_wide (show 1 ≤ Int32.toInt 1 ∧ Int32.toInt 1 ≤ 1 from (by decide)) (by decide) (by decide))⟩, oz848_, fz848_, (yPm_y hok (yPr_y (r1 := i1z439_ + 1) hok j1z439_ (by have u := b443_; omega) (by omega) (Int32.not_le.mpr c448_)) (yPh1_e hok j1z731_ (by have u := b443_; omega) (by have u := b798_; omega) (Or.inr (Int32.not_le.mpr c801_))) j0z848_ (by have u := h3z848_; omega) (by have v := (zi_le _ _).mp c849_; omega))⟩
                      · have b851_ : 2 ≤ Int32.toInt i4z848_ ∧ Int32.toInt i4z848_ ≤ 6 := zr_nle_l 2 c849_ h4z848_ h3z848_ (by decide)
                        have b852_ : 1 ≤ Int32.toInt i3z848_ ∧ Int32.toInt i3z848_ ≤ 5 := zr_nle_r 5 c849_ h3z848_ b851_ (by decide)
                        have d853_ : Int32.toInt i4z848_ > Int32.toInt i3z848_ := Int.not_le.mp ((not_congr (zi_le _ _)).mp c849_)
                        refine pw_blk hT 3 (S' := (101, [some (pvR 106), some (pvI i1z439_), some (pvI i2z731_), some (pvI i3z848_), some (pvI i4z848_)], [pvI i4z848_, pvI i3z848_, pvR 106], Mz848_)) rfl ⟨trivial, trivial, trivial, trivial⟩ ?_
                        refine pw_callVd hT (as := [pvR 106, pvI i3z848_, pvI i4z848_]) (lo1 := [some (pvR 106), some (pvI i3z848_), some (pvI i4z848_), none]) (d1 := d) (rest := []) rfl rfl rfl rfl rfl (fun _ => rfl) (Nat.zero_le _) rfl rfl rfl (se_X6_swap_106_x_x Mz848_ oz848_ i3z848_ i4z848_ (zr_wide b852_ (by decide) (by decide)) (zr_wide b851_ (by decide) (by decide)) d) (fun M856_ o858_ g859_ d854_ => ?_)
                        have f860_ : pvFr fp_eX6_permute_106 M M856_ := pvfr_t g859_ fz848_ fp_eX6_permute_106_fp_eX6_swap_106_x_x
                        obtain ⟨q862_, b861_⟩ : (Int32.toInt (i3z848_ + 1) = Int32.toInt i3z848_ + 1) ∧ (2 ≤ Int32.toInt (i3z848_ + 1) ∧ Int32.toInt (i3z848_ + 1) ≤ 6) := zadd_k i3z848_ 1 1 2 6 b852_ (by decide) (by decide) (by decide) (by decide) (by decide)
                        obtain ⟨q864_, b863_⟩ : (Int32.toInt (i4z848_ + (-1)) = Int32.toInt i4z848_ + (-1)) ∧ (1 ≤ Int32.toInt (i4z848_ + (-1)) ∧ Int32.toInt (i4z848_ + (-1)) ≤ 5) := zadd_k i4z848_ (-1) (-1) 1 5 b851_ (by decide) (by decide) (by decide) (by decide) (by decide)
                        refine pw_blk hT 3 (S' := (91, [some (pvR 106), some (pvI i1z439_), some (pvI i2z731_), some (pvI (i3z848_ + 1)), some (pvI (i4z848_ + (-1)))], [], M856_)) rfl ⟨trivial, trivial, trivial, trivial⟩ ?_
                        have j865_ : yPv M M856_ i1z439_ i2z731_ (i3z848_ + 1) (i4z848_ + (-1)) := (yPv_s hok oz848_ j0z848_ (by have u := b852_; omega) (by have v := (not_congr (zi_le _ _)).mp c849_; omega) d854_ rfl rfl)
                        exact ihz848_ (i3z848_ + 1) (i4z848_ + (-1)) M856_ o858_ f860_ (zr_wide b861_ (by decide) (by decide)) (zr_wide b863_ (by decide) (by decide)) j865_ (zhid (pvms_up (zshow hmz848_) h3z848_ q862_ (by decide) (by decide)))
                  have j866_ : yPv M M806_ i1z439_ i2z731_ (i1z439_ + 1) ((M806_.1 106 0) - 1) := (yPv_0 hok d804_ (by have u := b443_; omega) (by omega) (by have e := congrArg Int32.toInt (congrFun (d804_.1 106 (by decide)) 0); omega) ⟨(by have u := b445_; omega), (by have e := congrArg Int32.toInt (congrFun (d804_.1 106 (by decide)) 0); omega)⟩)
                  exact hlz848_ _ (i1z439_ + 1) ((M806_.1 106 0) - 1) M806_ o808_ f810_ b445_ b812_ j866_ (zhid (Nat.lt_succ_self _))
                · have b867_ : 0 ≤ Int32.toInt (M.1 114 (Int32.toNatClampNeg i2z731_)) ∧ Int32.toInt (M.1 114 (Int32.toNatClampNeg i2z731_)) ≤ 5 := zr_nlt_r 5 c801_ b800_ b449_ (by decide)
                  have d868_ : Int32.toInt (M.1 114 (Int32.toNatClampNeg i1z439_)) ≥ Int32.toInt (M.1 114 (Int32.toNatClampNeg i2z731_)) := Int.not_lt.mp ((not_congr (zi_lt _ _)).mp c801_)
                  obtain ⟨q870_, b869_⟩ : (Int32.toInt (i2z731_ + (-1)) = Int32.toInt i2z731_ + (-1)) ∧ (0 ≤ Int32.toInt (i2z731_ + (-1)) ∧ Int32.toInt (i2z731_ + (-1)) ≤ 5) := zadd_k i2z731_ (-1) (-1) 0 5 b798_ (by decide) (by decide) (by decide) (by decide) (by decide)
                  refine pw_blk hT 2 (S' := (47, [some (pvR 106), some (pvI i1z439_), some (pvI (i2z731_ + (-1))), none, none], [], M)) rfl ⟨trivial, trivial, trivial⟩ ?_
                  have j871_ : Int32.toInt i1z439_ ≤ Int32.toInt (i2z731_ + (-1)) := by omega
                  have j872_ : yPh1 M i1z439_ (i2z731_ + (-1)) := (yPh1_s hok j1z731_ (by have u := b443_; omega) (by have v := (not_congr (zi_le _ _)).mp c732_; omega) (Int32.not_lt.mp c801_) (by omega))
                  exact ihz731_ (i2z731_ + (-1)) (zr_wide b869_ (by decide) (by decide)) j871_ j872_ (zhid (pvms_dn (zshow hmz731_) h2z731_ q870_ (by decide) (by decide)))
          have j873_ : Int32.toInt i1z439_ ≤ Int32.toInt ((M.1 106 0) - 1) := by omega
          have j874_ : yPh1 M i1z439_ ((M.1 106 0) - 1) := (yPh1_0 hok (by omega) (by have u := b453_; omega))
          exact hlz731_ _ ((M.1 106 0) - 1) (by have u0 := b453_; omega) j873_ j874_ (zhid (Nat.lt_succ_self _))
        · have d875_ : Int32.toInt (M.1 114 (Int32.toNatClampNeg i1z439_)) ≥ Int32.toInt (M.1 114 (Int32.toNatClampNeg (i1z439_ + 1))) := Int.not_lt.mp ((not_congr (zi_lt _ _)).mp c448_)
          obtain ⟨q877_, b876_⟩ : (Int32.toInt (i1z439_ + (-1)) = Int32.toInt i1z439_ + (-1)) ∧ ((-1) ≤ Int32.toInt (i1z439_ + (-1)) ∧ Int32.toInt (i1z439_ + (-1)) ≤ 4) := zadd_k i1z439_ (-1) (-1) (-1) 4 b443_ (by decide) (by decide) (by decide) (by decide) (by decide)
          refine pw_blk hT 2 (S' := (7, [some (pvR 106), some (pvI (i1z439_ + (-1))), none, none, none], [], M)) rfl ⟨trivial, trivial, trivial⟩ ?_
          have j878_ : Int32.toInt (i1z439_ + (-1)) ≤ Int32.toInt (M.1 106 0) - 2 := by omega
          have j879_ : yPr M (i1z439_ + (-1)) := (yPr_s (r1 := i1z439_ + 1) hok j1z439_ (by have u := b443_; omega) (by omega) (Int32.not_lt.mp c448_) (by omega))
          exact ihz439_ (i1z439_ + (-1)) (zr_wide b876_ (by decide) (by decide)) j878_ j879_ (zhid (pvms_dn (zshow hmz439_) h1z439_ q877_ (by decide) (by decide)))
  have j880_ : Int32.toInt ((M.1 106 0) - 2) ≤ Int32.toInt (M.1 106 0) - 2 := by omega
  have j881_ : yPr M ((M.1 106 0) - 2) := (yPr_0 hok (by omega))
  exact hlz439_ _ ((M.1 106 0) - 2) b2_ j880_ j881_ (zhid (Nat.lt_succ_self _))
def fpL_eX6_append_106_x_x : List (Nat × Nat × Nat) := [(0, 106, 1), (0, 114, 0), (0, 122, 0)]
def fp_eX6_append_106_x_x (q k : Nat) : Bool := pvfp fpL_eX6_append_106_x_x q k
set_option maxHeartbeats 4000000 in
set_option maxRecDepth 10000 in
theorem se_X6_append_106_x_x (M : pvM) (hok : pvOk M) (n1 : Int32) (n2 : Int32) (hn1 : 0 ≤ Int32.toInt n1 ∧ Int32.toInt n1 ≤ 6) (hn2 : 0 ≤ Int32.toInt n2 ∧ Int32.toInt n2 ≤ 9999) (d : Nat) : PW 151 d (0, [some (pvR 106), some (pvI n1), some (pvI n2)], [], M) (fun r X => (∃ x : Int32, r = some (pvI x) ∧ (1 ≤ Int32.toInt x ∧ Int32.toInt x ≤ 7) ∧ x = (if (M.1 106 0) < (Int32.ofNat 7) then ((M.1 106 0) + 1) else (M.1 106 0))) ∧ pvOk X ∧ pvFr fp_eX6_append_106_x_x M X ∧ zAp 106 114 122 7 n1 n2 M X ∧ X.1 106 0 = (if (M.1 106 0) < (Int32.ofNat 7) then ((M.1 106 0) + 1) else (M.1 106 0))) := by
  have hT : pvdom 151 = pvD_151 := rfl
  refine pw_blk hT 1 (S' := (1, [some (pvR 106), some (pvI n1), some (pvI n2)], [pvR 106], M)) rfl ⟨trivial, trivial⟩ ?_
  refine pw_callT hT (as := [pvR 106]) (lo1 := [some (pvR 106)]) (d1 := d) (rest := []) rfl rfl rfl rfl rfl (fun _ => rfl) (Nat.zero_le _) rfl rfl rfl (sf_X6_isFull_106 M hok d) ?_
  have b6_ : 0 ≤ Int32.toInt (M.1 106 0) ∧ Int32.toInt (M.1 106 0) ≤ 7 := pvok_r hok 106 0 rfl
  by_cases c7_ : (M.1 106 0) < (Int32.ofNat 7)
  · refine pw_eqI (if_pos c7_) ?_
    have b8_ : 0 ≤ Int32.toInt (M.1 106 0) ∧ Int32.toInt (M.1 106 0) ≤ 6 := zr_lt_l 6 c7_ b6_ (show 7 ≤ Int32.toInt (Int32.ofNat 7) ∧ Int32.toInt (Int32.ofNat 7) ≤ 7 from (by decide)) (by decide)
    show PW 151 d (4, [some (pvR 106), some (pvI n1), some (pvI n2)], [pvI 0], M) _
    refine pw_if hT (c := 0 = 0) rfl rfl (fun c9_ => ?_) (fun c9_ => absurd (by decide) c9_)
    refine pw_blkw hT 6 (pc := 22) (lo := [some (pvR 106), some (pvI n1), some (pvI n2)]) (st := []) (M := pvu M 114 (Int32.toNatClampNeg (M.1 106 0)) n1) rfl ⟨trivial, rfl, trivial, rfl, trivial, ⟨rfl, (zr_in (n := 7) b8_ (by decide) (by decide))⟩, trivial⟩ (fun M10_ e11_ => ?_)
    have o12_ : pvOk M10_ := pvok_u2 e11_ hok rfl hn1
    have f13_ : pvFr fp_eX6_append_106_x_x M M10_ := pvfr_u e11_ pvfr_0 rfl
    have e14_ : (M10_.1 106 0) = (M.1 106 0) := (pvu_n e11_ 106 0 (Or.inl (by decide)))
    have b15_ : 0 ≤ Int32.toInt (M10_.1 106 0) ∧ Int32.toInt (M10_.1 106 0) ≤ 6 := (by rw [e14_]; exact b8_)
    refine pw_blkw hT 6 (pc := 32) (lo := [some (pvR 106), some (pvI n1), some (pvI n2)]) (st := []) (M := pvu M10_ 122 (Int32.toNatClampNeg (M10_.1 106 0)) n2) rfl ⟨trivial, rfl, trivial, rfl, trivial, ⟨rfl, (zr_in (n := 7) b15_ (by decide) (by decide))⟩, trivial⟩ (fun M16_ e17_ => ?_)
    have o18_ : pvOk M16_ := pvok_u2 e17_ o12_ rfl hn2
    have f19_ : pvFr fp_eX6_append_106_x_x M M16_ := pvfr_u e17_ f13_ rfl
    have e20_ : (M16_.1 106 0) = (M10_.1 106 0) := (pvu_n e17_ 106 0 (Or.inl (by decide)))
    have b21_ : 0 ≤ Int32.toInt (M16_.1 106 0) ∧ Int32.toInt (M16_.1 106 0) ≤ 6 := (by rw [e20_]; exact b15_)
    obtain ⟨q23_, b22_⟩ : (Int32.toInt ((M16_.1 106 0) + 1) = Int32.toInt (M16_.1 106 0) + 1) ∧ (1 ≤ Int32.toInt ((M16_.1 106 0) + 1) ∧ Int32.toInt ((M16_.1 106 0) + 1) ≤ 7) := zadd_k (M16_.1 106 0) 1 1 1 7 b21_ (by decide) (by decide) (by decide) (by decide) (by decide)
    refine pw_blkw hT 6 (pc := 42) (lo := [some (pvR 106), some (pvI n1), some (pvI n2)]) (st := []) (M := pvu M16_ 106 0 ((M16_.1 106 0) + 1)) rfl ⟨trivial, trivial, rfl, trivial, trivial, rfl, trivial⟩ (fun M24_ e25_ => ?_)
    have o26_ : pvOk M24_ := pvok_u2 e25_ o18_ rfl (zr_wide b22_ (by decide) (by decide))
    have f27_ : pvFr fp_eX6_append_106_x_x M M24_ := pvfr_u e25_ f19_ rfl
    have e28_ : (M24_.1 106 0) = ((M16_.1 106 0) + 1) := (pvu_s e25_)
    have b29_ : 1 ≤ Int32.toInt (M24_.1 106 0) ∧ Int32.toInt (M24_.1 106 0) ≤ 7 := (by rw [e28_]; exact b22_)
    refine pw_blk hT 2 (S' := (46, [some (pvR 106), some (pvI n1), some (pvI n2)], [pvI (M24_.1 106 0)], M24_)) rfl ⟨trivial, rfl, trivial⟩ ?_
    exact pw_ret hT rfl (r := some (pvI (M24_.1 106 0))) (M' := M24_) ⟨rfl, rfl⟩ ⟨⟨_, rfl, b29_, (by rw [if_pos c7_]; first | done | exact (show (M24_.1 106 0) = ((M.1 106 0) + 1) from by rw [((pvu_s e25_).trans (show ((M16_.1 106 0) + 1) = ((M.1 106 0) + 1) from by rw [((pvu_n e17_ 106 0 (Or.inl (by decide))).trans (pvu_n e11_ 106 0 (Or.inl (by decide))))]))]) | (rw [if_pos c7_]; exact (show (M24_.1 106 0) = ((M.1 106 0) + 1) from by rw [((pvu_s e25_).trans (show ((M16_.1 106 0) + 1) = ((M.1 106 0) + 1) from by rw [((pvu_n e17_ 106 0 (Or.inl (by decide))).trans (pvu_n e11_ 106 0 (Or.inl (by decide))))]))])))⟩, o26_, f27_, (zAp_y (by decide) (by decide) (by decide) (by have u := b8_; omega) e11_ e17_ e25_), (by rw [if_pos c7_]; first | done | exact ((pvu_s e25_).trans (show ((M16_.1 106 0) + 1) = ((M.1 106 0) + 1) from by rw [((pvu_n e17_ 106 0 (Or.inl (by decide))).trans (pvu_n e11_ 106 0 (Or.inl (by decide))))])) | (rw [if_pos c7_]; done) | (rw [if_pos c7_]; exact ((pvu_s e25_).trans (show ((M16_.1 106 0) + 1) = ((M.1 106 0) + 1) from by rw [((pvu_n e17_ 106 0 (Or.inl (by decide))).trans (pvu_n e11_ 106 0 (Or.inl (by decide))))]))))⟩
  · refine pw_eqI (if_neg c7_) ?_
    have b30_ : 7 ≤ Int32.toInt (M.1 106 0) ∧ Int32.toInt (M.1 106 0) ≤ 7 := zr_nlt_l 7 c7_ b6_ (show 7 ≤ Int32.toInt (Int32.ofNat 7) ∧ Int32.toInt (Int32.ofNat 7) ≤ 7 from (by decide)) (by decide)
    show PW 151 d (4, [some (pvR 106), some (pvI n1), some (pvI n2)], [pvI 1], M) _
    refine pw_if hT (c := 1 = 0) rfl rfl (fun c31_ => absurd c31_ (by decide)) (fun c31_ => ?_)
    refine pw_blk hT 2 (S' := (11, [some (pvR 106), some (pvI n1), some (pvI n2)], [pvI (M.1 106 0)], M)) rfl ⟨trivial, rfl, trivial⟩ ?_
    exact pw_ret hT rfl (r := some (pvI (M.1 106 0))) (M' := M) ⟨rfl, rfl⟩ ⟨⟨_, rfl, (zr_wide b30_ (by decide) (by decide)), (by rw [if_neg c7_]; first | done | (rw [if_neg c7_]; done))⟩, hok, pvfr_0, (zAp_n (by have u := b30_; omega)), (by rw [if_neg c7_]; first | done | exact rfl | (rw [if_neg c7_]; done) | (rw [if_neg c7_]; exact rfl))⟩
