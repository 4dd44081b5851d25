def fpL_X5_readClause_6 : List (Nat × Nat × Nat) := [(0, 6, 3), (0, 6, 4), (1, 109, 0), (1, 110, 0), (1, 111, 0), (1, 2, 1), (1, 2, 2), (1, 2, 3), (1, 2, 6)]
def fp_X5_readClause_6 (q k : Nat) : Bool := pvfp fpL_X5_readClause_6 q k
theorem fp_X5_readClause_6_fp_X2_endClause_x_x (a b : Nat) (h : fp_X2_endClause_x_x a b = true) : fp_X5_readClause_6 a b = true := pvfp_sub (l1 := fpL_X2_endClause_x_x) (l2 := fpL_X5_readClause_6) (by decide) a b h
theorem fp_X5_readClause_6_fp_X5_readAny_6_0 (a b : Nat) (h : fp_X5_readAny_6_0 a b = true) : fp_X5_readClause_6 a b = true := pvfp_sub (l1 := fpL_X5_readAny_6_0) (l2 := fpL_X5_readClause_6) (by decide) a b h
theorem fp_X5_readClause_6_fp_X5_readNumber_6 (a b : Nat) (h : fp_X5_readNumber_6 a b = true) : fp_X5_readClause_6 a b = true := pvfp_sub (l1 := fpL_X5_readNumber_6) (l2 := fpL_X5_readClause_6) (by decide) a b h
theorem fp_X5_readClause_6_fp_X5_readSign_6_x (a b : Nat) (h : fp_X5_readSign_6_x a b = true) : fp_X5_readClause_6 a b = true := pvfp_sub (l1 := fpL_X5_readSign_6_x) (l2 := fpL_X5_readClause_6) (by decide) a b h
theorem fp_X5_readClause_6_fp_X5_readWord_6_x (a b : Nat) (h : fp_X5_readWord_6_x a b = true) : fp_X5_readClause_6 a b = true := pvfp_sub (l1 := fpL_X5_readWord_6_x) (l2 := fpL_X5_readClause_6) (by decide) a b h
set_option maxHeartbeats 4000000 in
set_option maxRecDepth 10000 in
theorem sf_X5_readClause_6 (M : pvM) (hok : pvOk M) (hx0 : (Int32.toInt (M.1 6 3) ≤ -1 ∨ Int32.toInt (M.1 6 2) ≤ 99)) (d : Nat) (hd : 4 ≤ d) : PW 142 d (0, [some (pvR 6), none, none, none], [], M) (fun r X => (∃ x : Int32, r = some (pvI x) ∧ 0 ≤ Int32.toInt x ∧ Int32.toInt x ≤ 1) ∧ pvOk X ∧ pvFr fp_X5_readClause_6 M X ∧ (Int32.toInt (X.1 6 3) ≤ -1 ∨ Int32.toInt (X.1 6 2) ≤ 99)) := by
  have hT : pvdom 142 = pvD_142 := rfl
  have b1_ : (-1) ≤ Int32.toInt (M.1 6 2) ∧ Int32.toInt (M.1 6 2) ≤ 100 := pvok_r hok 6 2 rfl
  have b2_ : (-1) ≤ Int32.toInt (M.1 6 3) ∧ Int32.toInt (M.1 6 3) ≤ 127 := pvok_r hok 6 3 rfl
  refine pw_blk hT 4 (S' := (6, [some (pvR 6), some (pvI (M.1 6 3)), none, none], [pvI (M.1 6 3)], M)) rfl ⟨trivial, rfl, trivial, trivial, trivial⟩ ?_
  refine pw_callRp hT (as := [pvI (M.1 6 3)]) (lo1 := [some (pvI (M.1 6 3))]) (d1 := d) (rest := []) rfl rfl rfl rfl rfl (fun h => absurd h (by decide)) (Nat.zero_le _) rfl rfl rfl (sf_X5_wordFrom_x M hok (M.1 6 3) d) (fun x3_ b5_ => ?_)
  refine pw_blk hT 2 (S' := (11, [some (pvR 6), some (pvI (M.1 6 3)), some (pvR x3_), none], [pvR x3_], M)) rfl ⟨trivial, trivial, trivial⟩ ?_
  refine pw_sx hT rfl (S' := (14, [some (pvR 6), some (pvI (M.1 6 3)), some (pvR x3_), none], [pvI (if zsl.getD (x3_ - 1010) 0 = 0 then 1 else 0)], M)) (fun F hF => ⟨b5_.1, b5_.2, Nat.le_of_ble_eq_true rfl, hF⟩) ?_
  have b8_ : 0 ≤ Int32.toInt (if zsl.getD (x3_ - 1010) 0 = 0 then 1 else 0) ∧ Int32.toInt (if zsl.getD (x3_ - 1010) 0 = 0 then 1 else 0) ≤ 1 := (by split <;> decide)
  refine pw_ifn hT (c := (if zsl.getD (x3_ - 1010) 0 = 0 then 1 else 0) = 0) rfl rfl (fun c9_ => ?_) (fun c9_ => ?_)
  · have b10_ : 1 ≤ Int32.toInt (if zsl.getD (x3_ - 1010) 0 = 0 then 1 else 0) ∧ Int32.toInt (if zsl.getD (x3_ - 1010) 0 = 0 then 1 else 0) ≤ 1 := (by have u0 := b8_; have u1 := (not_congr (zi_eq _ _)).mp c9_; have u2 := (show 0 ≤ Int32.toInt 0 ∧ Int32.toInt 0 ≤ 0 from (by decide)); omega)
    refine pw_blk hT 1 (S' := (26, [some (pvR 6), some (pvI (M.1 6 3)), some (pvR x3_), none], [pvI 0], M)) rfl ⟨trivial, trivial⟩ ?_
    exact pw_ret hT rfl (r := some (pvI 0)) (M' := M) ⟨Or.inl rfl, rfl, rfl⟩ ⟨⟨_, rfl, (zr_wide (show 0 ≤ Int32.toInt 0 ∧ Int32.toInt 0 ≤ 0 from (by decide)) (by decide) (by decide))⟩, hok, pvfr_0, (by omega)⟩
  · have b11_ : 0 ≤ Int32.toInt (if zsl.getD (x3_ - 1010) 0 = 0 then 1 else 0) ∧ Int32.toInt (if zsl.getD (x3_ - 1010) 0 = 0 then 1 else 0) ≤ 0 := (by have u0 := b8_; have u1 := (zi_eq _ _).mp c9_; have u2 := (show 0 ≤ Int32.toInt 0 ∧ Int32.toInt 0 ≤ 0 from (by decide)); omega)
    refine pw_blk hT 2 (S' := (19, [some (pvR 6), some (pvI (M.1 6 3)), some (pvR x3_), none], [pvR x3_, pvR 6], M)) rfl ⟨trivial, trivial, trivial⟩ ?_
    refine pw_callGd hT (as := [pvR 6, pvR x3_]) (lo1 := [some (pvR 6), some (pvR x3_), none]) (d1 := d) (rest := []) rfl rfl rfl rfl rfl (fun _ => rfl) (Nat.zero_le _) rfl rfl rfl (sf_X5_readWord_6_x M hok x3_ b5_ (show (Int32.toInt (M.1 6 3) ≤ -1 ∨ Int32.toInt (M.1 6 2) ≤ 99) from (by omega)) d) (fun x13_ M14_ b15_ o16_ g17_ d12_ => ?_)
    have f18_ : pvFr fp_X5_readClause_6 M M14_ := pvfr_t g17_ pvfr_0 fp_X5_readClause_6_fp_X5_readWord_6_x
    refine pw_ifn hT (c := x13_ = 0) rfl rfl (fun c19_ => ?_) (fun c19_ => ?_)
    · have b20_ : 1 ≤ Int32.toInt x13_ ∧ Int32.toInt x13_ ≤ 1 := (by have u0 := b15_; have u1 := (not_congr (zi_eq _ _)).mp c19_; have u2 := (show 0 ≤ Int32.toInt 0 ∧ Int32.toInt 0 ≤ 0 from (by decide)); omega)
      refine pw_blk hT 1 (S' := (28, [some (pvR 6), some (pvI (M.1 6 3)), some (pvR x3_), none], [pvR 6], M14_)) rfl ⟨trivial, trivial⟩ ?_
      have b21_ : (-1) ≤ Int32.toInt (M14_.1 6 2) ∧ Int32.toInt (M14_.1 6 2) ≤ 100 := pvok_r o16_ 6 2 rfl
      have b22_ : (-1) ≤ Int32.toInt (M14_.1 6 3) ∧ Int32.toInt (M14_.1 6 3) ≤ 127 := pvok_r o16_ 6 3 rfl
      refine pw_callGd hT (as := [pvR 6]) (lo1 := [some (pvR 6), none]) (d1 := d) (rest := []) rfl rfl rfl rfl rfl (fun _ => rfl) (Nat.zero_le _) rfl rfl rfl (sf_X5_readNumber_6 M14_ o16_ (show (Int32.toInt (M14_.1 6 3) ≤ -1 ∨ Int32.toInt (M14_.1 6 2) ≤ 99) from (by omega)) d) (fun x24_ M25_ b26_ o27_ g28_ d23_ => ?_)
      have f29_ : pvFr fp_X5_readClause_6 M M25_ := pvfr_t g28_ f18_ fp_X5_readClause_6_fp_X5_readNumber_6
      refine pw_blk hT 2 (S' := (33, [some (pvR 6), some (pvI (M.1 6 3)), some (pvR x3_), some (pvI x24_)], [pvI x24_], M25_)) rfl ⟨trivial, trivial, trivial⟩ ?_
      refine pw_if hT (c := 0 ≤ x24_) rfl rfl (fun c30_ => ?_) (fun c30_ => ?_)
      · have b31_ : 0 ≤ Int32.toInt x24_ ∧ Int32.toInt x24_ ≤ 99 := zr_le_r 0 c30_ b26_ (show 0 ≤ Int32.toInt 0 ∧ Int32.toInt 0 ≤ 0 from (by decide)) (by decide)
        refine pw_blk hT 2 (S' := (41, [some (pvR 6), some (pvI (M.1 6 3)), some (pvR x3_), some (pvI x24_)], [pvI 115, pvI (M.1 6 3)], M25_)) rfl ⟨trivial, trivial, trivial⟩ ?_
        refine pw_icn hT (c := (M.1 6 3) = 115) rfl rfl (fun c32_ => ?_) (fun c32_ => ?_)
        · refine pw_blk hT 2 (S' := (55, [some (pvR 6), some (pvI (M.1 6 3)), some (pvR x3_), some (pvI x24_)], [pvI 108, pvI (M.1 6 3)], M25_)) rfl ⟨trivial, trivial, trivial⟩ ?_
          refine pw_icn hT (c := (M.1 6 3) = 108) rfl rfl (fun c33_ => ?_) (fun c33_ => ?_)
          · refine pw_blk hT 2 (S' := (69, [some (pvR 6), some (pvI (M.1 6 3)), some (pvR x3_), some (pvI x24_)], [pvI 115, pvI (M.1 6 3)], M25_)) rfl ⟨trivial, trivial, trivial⟩ ?_
            refine pw_ic hT (c := (M.1 6 3) = 115) rfl rfl (fun c34_ => absurd c34_ c32_) (fun c34_ => ?_)
            refine pw_blk hT 2 (S' := (75, [some (pvR 6), some (pvI (M.1 6 3)), some (pvR x3_), some (pvI x24_)], [pvI 108, pvI (M.1 6 3)], M25_)) rfl ⟨trivial, trivial, trivial⟩ ?_
            refine pw_icn hT (c := (M.1 6 3) = 108) rfl rfl (fun c35_ => ?_) (fun c35_ => absurd c35_ c33_)
            refine pw_blk hT 2 (S' := (83, [some (pvR 6), some (pvI (M.1 6 3)), some (pvR x3_), some (pvI x24_)], [pvI 32, pvR 6], M25_)) rfl ⟨trivial, trivial, trivial⟩ ?_
            have u36_ : Int32.toInt 32 = 32 := by decide
            have b37_ : (-1) ≤ Int32.toInt (M25_.1 6 2) ∧ Int32.toInt (M25_.1 6 2) ≤ 100 := pvok_r o27_ 6 2 rfl
            have b38_ : (-1) ≤ Int32.toInt (M25_.1 6 3) ∧ Int32.toInt (M25_.1 6 3) ≤ 127 := pvok_r o27_ 6 3 rfl
            refine pw_callGd hT (as := [pvR 6, pvI 32]) (lo1 := [some (pvR 6), some (pvI 32)]) (d1 := d) (rest := []) rfl rfl rfl rfl rfl (fun _ => rfl) (Nat.zero_le _) rfl rfl rfl (sf_X5_readSign_6_x M25_ o27_ 32 (zr_wide (show 32 ≤ Int32.toInt 32 ∧ Int32.toInt 32 ≤ 32 from (by decide)) (by decide) (by decide)) (show (Int32.toInt (M25_.1 6 3) ≤ -1 ∨ Int32.toInt (M25_.1 6 2) ≤ 99) from (by omega)) d) (fun x40_ M41_ b42_ o43_ g44_ d39_ => ?_)
            have f45_ : pvFr fp_X5_readClause_6 M M41_ := pvfr_t g44_ f29_ fp_X5_readClause_6_fp_X5_readSign_6_x
            refine pw_if hT (c := x40_ = 0) rfl rfl (fun c46_ => ?_) (fun c46_ => ?_)
            · have b47_ : 0 ≤ Int32.toInt x40_ ∧ Int32.toInt x40_ ≤ 0 := (by have u0 := b42_; have u1 := (zi_eq _ _).mp c46_; have u2 := (show 0 ≤ Int32.toInt 0 ∧ Int32.toInt 0 ≤ 0 from (by decide)); omega)
              refine pw_blk hT 1 (S' := (98, [some (pvR 6), some (pvI (M.1 6 3)), some (pvR x3_), some (pvI x24_)], [pvI 0], M41_)) rfl ⟨trivial, trivial⟩ ?_
              have b48_ : (-1) ≤ Int32.toInt (M41_.1 6 2) ∧ Int32.toInt (M41_.1 6 2) ≤ 100 := pvok_r o43_ 6 2 rfl
              have b49_ : (-1) ≤ Int32.toInt (M41_.1 6 3) ∧ Int32.toInt (M41_.1 6 3) ≤ 127 := pvok_r o43_ 6 3 rfl
              exact pw_ret hT rfl (r := some (pvI 0)) (M' := M41_) ⟨Or.inl rfl, rfl, rfl⟩ ⟨⟨_, rfl, (zr_wide (show 0 ≤ Int32.toInt 0 ∧ Int32.toInt 0 ≤ 0 from (by decide)) (by decide) (by decide))⟩, o43_, f45_, (by omega)⟩
            · have b50_ : 1 ≤ Int32.toInt x40_ ∧ Int32.toInt x40_ ≤ 1 := (by have u0 := b42_; have u1 := (not_congr (zi_eq _ _)).mp c46_; have u2 := (show 0 ≤ Int32.toInt 0 ∧ Int32.toInt 0 ≤ 0 from (by decide)); omega)
              refine pw_blk hT 2 (S' := (91, [some (pvR 6), some (pvI (M.1 6 3)), some (pvR x3_), some (pvI x24_)], [pvI 0, pvR 6], M41_)) rfl ⟨trivial, trivial, trivial⟩ ?_
              have u51_ : Int32.toInt 0 = 0 := by decide
              have b52_ : (-1) ≤ Int32.toInt (M41_.1 6 2) ∧ Int32.toInt (M41_.1 6 2) ≤ 100 := pvok_r o43_ 6 2 rfl
              have b53_ : (-1) ≤ Int32.toInt (M41_.1 6 3) ∧ Int32.toInt (M41_.1 6 3) ≤ 127 := pvok_r o43_ 6 3 rfl
              refine pw_callGd hT (as := [pvR 6, pvI 0]) (lo1 := [some (pvR 6), some (pvI 0), none]) (d1 := d) (rest := []) rfl rfl rfl rfl rfl (fun _ => rfl) (Nat.zero_le _) rfl rfl rfl (sf_X5_readAny_6_0 M41_ o43_ (show (Int32.toInt (M41_.1 6 3) ≤ -1 ∨ Int32.toInt (M41_.1 6 2) ≤ 99) from (by omega)) d (Nat.le_trans (by decide) hd)) (fun x55_ M56_ b57_ o58_ g59_ d54_ => ?_)
              have f60_ : pvFr fp_X5_readClause_6 M M56_ := pvfr_t g59_ f45_ fp_X5_readClause_6_fp_X5_readAny_6_0
              refine pw_ifn hT (c := x55_ = 0) rfl rfl (fun c61_ => ?_) (fun c61_ => ?_)
              · have b62_ : 1 ≤ Int32.toInt x55_ ∧ Int32.toInt x55_ ≤ 1 := (by have u0 := b57_; have u1 := (not_congr (zi_eq _ _)).mp c61_; have u2 := (show 0 ≤ Int32.toInt 0 ∧ Int32.toInt 0 ≤ 0 from (by decide)); omega)
                have b63_ : 15 ≤ Int32.toInt (M56_.1 6 4) ∧ Int32.toInt (M56_.1 6 4) ≤ 23 := pvok_r o58_ 6 4 rfl
                refine pw_blkr hT 2 (pc := 103) (lo := [some (pvR 6), some (pvI (M.1 6 3)), some (pvR x3_), some (pvI x24_)]) (st := []) (M := M56_) (z := (pvhp (M56_.1 6 4))) rfl ⟨trivial, rfl, trivial⟩ (fun q64_ e66_ => ?_)
                have k65_ : pvkl q64_ = 2 := pvhp_k b63_ e66_
                refine pw_blk hT 2 (S' := (106, [some (pvR 6), some (pvI (M.1 6 3)), some (pvR x3_), some (pvI x24_)], [pvI 119, pvI (M.1 6 3), pvR q64_], M56_)) rfl ⟨trivial, trivial, trivial⟩ ?_
                refine pw_icn hT (c := (M.1 6 3) = 119) rfl rfl (fun c67_ => ?_) (fun c67_ => ?_)
                · have b68_ : (-99) ≤ Int32.toInt (-x24_) ∧ Int32.toInt (-x24_) ≤ 0 := (by have u0 := b31_; have u := pvneg x24_ (by omega); omega)
                  refine pw_blk hT 2 (S' := (115, [some (pvR 6), some (pvI (M.1 6 3)), some (pvR x3_), some (pvI x24_)], [pvI (-x24_), pvR q64_], M56_)) rfl ⟨trivial, trivial, trivial⟩ ?_
                  refine pw_callV hT (as := [pvR q64_, pvI (-x24_)]) (lo1 := [some (pvR q64_), some (pvI (-x24_))]) (d1 := d) (rest := []) rfl rfl rfl rfl rfl (fun _ => k65_) (Nat.zero_le _) rfl rfl rfl (sf_X2_endClause_x_x M56_ o58_ q64_ (-x24_) k65_ (zr_wide b68_ (by decide) (by decide)) d) (fun M70_ o72_ g73_ => ?_)
                  have f74_ : pvFr fp_X5_readClause_6 M M70_ := pvfr_t g73_ f60_ fp_X5_readClause_6_fp_X2_endClause_x_x
                  refine pw_blk hT 1 (S' := (119, [some (pvR 6), some (pvI (M.1 6 3)), some (pvR x3_), some (pvI x24_)], [pvI 1], M70_)) rfl ⟨trivial, trivial⟩ ?_
                  have e75_ : (M70_.1 6 2) = (M56_.1 6 2) := (g73_ 6 2 rfl)
                  have b76_ : (-1) ≤ Int32.toInt (M70_.1 6 2) ∧ Int32.toInt (M70_.1 6 2) ≤ 100 := pvok_r o72_ 6 2 rfl
                  have d77_ : Int32.toInt (M70_.1 6 2) = Int32.toInt (M56_.1 6 2) := congrArg Int32.toInt e75_
                  have e78_ : (M70_.1 6 3) = (M56_.1 6 3) := (g73_ 6 3 rfl)
                  have b79_ : (-1) ≤ Int32.toInt (M70_.1 6 3) ∧ Int32.toInt (M70_.1 6 3) ≤ 127 := pvok_r o72_ 6 3 rfl
                  have d80_ : Int32.toInt (M70_.1 6 3) = Int32.toInt (M56_.1 6 3) := congrArg Int32.toInt e78_
                  exact pw_ret hT rfl (r := some (pvI 1)) (M' := M70_) ⟨Or.inr rfl, rfl, rfl⟩ ⟨⟨_, rfl, (zr_wide (show 1 ≤ Int32.toInt 1 ∧ Int32.toInt 1 ≤ 1 from (by decide)) (by decide) (by decide))⟩, o72_, f74_, (by omega)⟩
                · have b81_ : 119 ≤ Int32.toInt (M.1 6 3) ∧ Int32.toInt (M.1 6 3) ≤ 119 := (by have u0 := b2_; have u1 := (zi_eq _ _).mp c67_; have u2 := (show 119 ≤ Int32.toInt 119 ∧ Int32.toInt 119 ≤ 119 from (by decide)); omega)
                  refine pw_blk hT 2 (S' := (115, [some (pvR 6), some (pvI (M.1 6 3)), some (pvR x3_), some (pvI x24_)], [pvI x24_, pvR q64_], M56_)) rfl ⟨trivial, trivial, trivial⟩ ?_
                  refine pw_callV hT (as := [pvR q64_, pvI x24_]) (lo1 := [some (pvR q64_), some (pvI x24_)]) (d1 := d) (rest := []) rfl rfl rfl rfl rfl (fun _ => k65_) (Nat.zero_le _) rfl rfl rfl (sf_X2_endClause_x_x M56_ o58_ q64_ x24_ k65_ (zr_wide b31_ (by decide) (by decide)) d) (fun M83_ o85_ g86_ => ?_)
                  have f87_ : pvFr fp_X5_readClause_6 M M83_ := pvfr_t g86_ f60_ fp_X5_readClause_6_fp_X2_endClause_x_x
                  refine pw_blk hT 1 (S' := (119, [some (pvR 6), some (pvI (M.1 6 3)), some (pvR x3_), some (pvI x24_)], [pvI 1], M83_)) rfl ⟨trivial, trivial⟩ ?_
                  have e88_ : (M83_.1 6 2) = (M56_.1 6 2) := (g86_ 6 2 rfl)
                  have b89_ : (-1) ≤ Int32.toInt (M83_.1 6 2) ∧ Int32.toInt (M83_.1 6 2) ≤ 100 := pvok_r o85_ 6 2 rfl
                  have d90_ : Int32.toInt (M83_.1 6 2) = Int32.toInt (M56_.1 6 2) := congrArg Int32.toInt e88_
                  have e91_ : (M83_.1 6 3) = (M56_.1 6 3) := (g86_ 6 3 rfl)
                  have b92_ : (-1) ≤ Int32.toInt (M83_.1 6 3) ∧ Int32.toInt (M83_.1 6 3) ≤ 127 := pvok_r o85_ 6 3 rfl
                  have d93_ : Int32.toInt (M83_.1 6 3) = Int32.toInt (M56_.1 6 3) := congrArg Int32.toInt e91_
                  exact pw_ret hT rfl (r := some (pvI 1)) (M' := M83_) ⟨Or.inr rfl, rfl, rfl⟩ ⟨⟨_, rfl, (zr_wide (show 1 ≤ Int32.toInt 1 ∧ Int32.toInt 1 ≤ 1 from (by decide)) (by decide) (by decide))⟩, o85_, f87_, (by omega)⟩
              · have b94_ : 0 ≤ Int32.toInt x55_ ∧ Int32.toInt x55_ ≤ 0 := (by have u0 := b57_; have u1 := (zi_eq _ _).mp c61_; have u2 := (show 0 ≤ Int32.toInt 0 ∧ Int32.toInt 0 ≤ 0 from (by decide)); omega)
                refine pw_blk hT 1 (S' := (98, [some (pvR 6), some (pvI (M.1 6 3)), some (pvR x3_), some (pvI x24_)], [pvI 0], M56_)) rfl ⟨trivial, trivial⟩ ?_
                have b95_ : (-1) ≤ Int32.toInt (M56_.1 6 2) ∧ Int32.toInt (M56_.1 6 2) ≤ 100 := pvok_r o58_ 6 2 rfl
                have b96_ : (-1) ≤ Int32.toInt (M56_.1 6 3) ∧ Int32.toInt (M56_.1 6 3) ≤ 127 := pvok_r o58_ 6 3 rfl
                exact pw_ret hT rfl (r := some (pvI 0)) (M' := M56_) ⟨Or.inl rfl, rfl, rfl⟩ ⟨⟨_, rfl, (zr_wide (show 0 ≤ Int32.toInt 0 ∧ Int32.toInt 0 ≤ 0 from (by decide)) (by decide) (by decide))⟩, o58_, f60_, (by omega)⟩
          · have b97_ : 108 ≤ Int32.toInt (M.1 6 3) ∧ Int32.toInt (M.1 6 3) ≤ 108 := (by have u0 := b2_; have u1 := (zi_eq _ _).mp c33_; have u2 := (show 108 ≤ Int32.toInt 108 ∧ Int32.toInt 108 ≤ 108 from (by decide)); omega)
            have b98_ : 15 ≤ Int32.toInt (M25_.1 6 4) ∧ Int32.toInt (M25_.1 6 4) ≤ 23 := pvok_r o27_ 6 4 rfl
            refine pw_blkr hT 2 (pc := 62) (lo := [some (pvR 6), some (pvI (M.1 6 3)), some (pvR x3_), some (pvI x24_)]) (st := []) (M := M25_) (z := (pvhp (M25_.1 6 4))) rfl ⟨trivial, rfl, trivial⟩ (fun q99_ e101_ => ?_)
            have k100_ : pvkl q99_ = 2 := pvhp_k b98_ e101_
            refine pw_blkw hT 2 (pc := 66) (lo := [some (pvR 6), some (pvI (M.1 6 3)), some (pvR x3_), some (pvI x24_)]) (st := []) (M := pvu M25_ q99_ 1 x24_) rfl ⟨trivial, k100_, trivial⟩ (fun M102_ e103_ => ?_)
            have o104_ : pvOk M102_ := pvok_u2 e103_ o27_ ((pvrg_o 1 k100_ (by decide) (by decide)).trans rfl) b31_
            have f105_ : pvFr fp_X5_readClause_6 M M102_ := pvfr_u e103_ f29_ (pvfp_r (l := fpL_X5_readClause_6) (pvowr_2 k100_) (kk := 2) (by decide) (Or.inr rfl))
            refine pw_blk hT 2 (S' := (69, [some (pvR 6), some (pvI (M.1 6 3)), some (pvR x3_), some (pvI x24_)], [pvI 115, pvI (M.1 6 3)], M102_)) rfl ⟨trivial, trivial, trivial⟩ ?_
            refine pw_ic hT (c := (M.1 6 3) = 115) rfl rfl (fun c106_ => absurd c106_ c32_) (fun c106_ => ?_)
            refine pw_blk hT 2 (S' := (75, [some (pvR 6), some (pvI (M.1 6 3)), some (pvR x3_), some (pvI x24_)], [pvI 108, pvI (M.1 6 3)], M102_)) rfl ⟨trivial, trivial, trivial⟩ ?_
            refine pw_icn hT (c := (M.1 6 3) = 108) rfl rfl (fun c107_ => absurd c33_ c107_) (fun c107_ => ?_)
            refine pw_blk hT 1 (S' := (79, [some (pvR 6), some (pvI (M.1 6 3)), some (pvR x3_), some (pvI x24_)], [pvI 1], M102_)) rfl ⟨trivial, trivial⟩ ?_
            have e108_ : (M102_.1 6 2) = (M25_.1 6 2) := (pvu_n e103_ 6 2 (Or.inl (fun z => absurd (z ▸ k100_) (by decide))))
            have b109_ : (-1) ≤ Int32.toInt (M102_.1 6 2) ∧ Int32.toInt (M102_.1 6 2) ≤ 100 := pvok_r o104_ 6 2 rfl
            have d110_ : Int32.toInt (M102_.1 6 2) = Int32.toInt (M25_.1 6 2) := congrArg Int32.toInt e108_
            have e111_ : (M102_.1 6 3) = (M25_.1 6 3) := (pvu_n e103_ 6 3 (Or.inl (fun z => absurd (z ▸ k100_) (by decide))))
            have b112_ : (-1) ≤ Int32.toInt (M102_.1 6 3) ∧ Int32.toInt (M102_.1 6 3) ≤ 127 := pvok_r o104_ 6 3 rfl
            have d113_ : Int32.toInt (M102_.1 6 3) = Int32.toInt (M25_.1 6 3) := congrArg Int32.toInt e111_
            exact pw_ret hT rfl (r := some (pvI 1)) (M' := M102_) ⟨Or.inr rfl, rfl, rfl⟩ ⟨⟨_, rfl, (zr_wide (show 1 ≤ Int32.toInt 1 ∧ Int32.toInt 1 ≤ 1 from (by decide)) (by decide) (by decide))⟩, o104_, f105_, (by omega)⟩
        · have b114_ : 115 ≤ Int32.toInt (M.1 6 3) ∧ Int32.toInt (M.1 6 3) ≤ 115 := (by have u0 := b2_; have u1 := (zi_eq _ _).mp c32_; have u2 := (show 115 ≤ Int32.toInt 115 ∧ Int32.toInt 115 ≤ 115 from (by decide)); omega)
          have b115_ : 15 ≤ Int32.toInt (M25_.1 6 4) ∧ Int32.toInt (M25_.1 6 4) ≤ 23 := pvok_r o27_ 6 4 rfl
          refine pw_blkr hT 2 (pc := 48) (lo := [some (pvR 6), some (pvI (M.1 6 3)), some (pvR x3_), some (pvI x24_)]) (st := []) (M := M25_) (z := (pvhp (M25_.1 6 4))) rfl ⟨trivial, rfl, trivial⟩ (fun q116_ e118_ => ?_)
          have k117_ : pvkl q116_ = 2 := pvhp_k b115_ e118_
          refine pw_blkw hT 2 (pc := 52) (lo := [some (pvR 6), some (pvI (M.1 6 3)), some (pvR x3_), some (pvI x24_)]) (st := []) (M := pvu M25_ q116_ 0 x24_) rfl ⟨trivial, k117_, trivial⟩ (fun M119_ e120_ => ?_)
          have o121_ : pvOk M119_ := pvok_u2 e120_ o27_ ((pvrg_o 0 k117_ (by decide) (by decide)).trans rfl) b31_
          have f122_ : pvFr fp_X5_readClause_6 M M119_ := pvfr_u e120_ f29_ (pvfp_r (l := fpL_X5_readClause_6) (pvowr_2 k117_) (kk := 1) (by decide) (Or.inr rfl))
          refine pw_blk hT 2 (S' := (55, [some (pvR 6), some (pvI (M.1 6 3)), some (pvR x3_), some (pvI x24_)], [pvI 108, pvI (M.1 6 3)], M119_)) rfl ⟨trivial, trivial, trivial⟩ ?_
          refine pw_icn hT (c := (M.1 6 3) = 108) rfl rfl (fun c123_ => ?_) (fun c123_ => absurd c123_ (by have z0 := b114_; have z1 := (show 108 ≤ Int32.toInt 108 ∧ Int32.toInt 108 ≤ 108 from (by decide)); rw [zi_eq]; omega))
          refine pw_blk hT 2 (S' := (69, [some (pvR 6), some (pvI (M.1 6 3)), some (pvR x3_), some (pvI x24_)], [pvI 115, pvI (M.1 6 3)], M119_)) rfl ⟨trivial, trivial, trivial⟩ ?_
          refine pw_ic hT (c := (M.1 6 3) = 115) rfl rfl (fun c124_ => ?_) (fun c124_ => absurd c32_ c124_)
          refine pw_blk hT 1 (S' := (79, [some (pvR 6), some (pvI (M.1 6 3)), some (pvR x3_), some (pvI x24_)], [pvI 1], M119_)) rfl ⟨trivial, trivial⟩ ?_
          have e125_ : (M119_.1 6 2) = (M25_.1 6 2) := (pvu_n e120_ 6 2 (Or.inl (fun z => absurd (z ▸ k117_) (by decide))))
          have b126_ : (-1) ≤ Int32.toInt (M119_.1 6 2) ∧ Int32.toInt (M119_.1 6 2) ≤ 100 := pvok_r o121_ 6 2 rfl
          have d127_ : Int32.toInt (M119_.1 6 2) = Int32.toInt (M25_.1 6 2) := congrArg Int32.toInt e125_
          have e128_ : (M119_.1 6 3) = (M25_.1 6 3) := (pvu_n e120_ 6 3 (Or.inl (fun z => absurd (z ▸ k117_) (by decide))))
          have b129_ : (-1) ≤ Int32.toInt (M119_.1 6 3) ∧ Int32.toInt (M119_.1 6 3) ≤ 127 := pvok_r o121_ 6 3 rfl
          have d130_ : Int32.toInt (M119_.1 6 3) = Int32.toInt (M25_.1 6 3) := congrArg Int32.toInt e128_
          exact pw_ret hT rfl (r := some (pvI 1)) (M' := M119_) ⟨Or.inr rfl, rfl, rfl⟩ ⟨⟨_, rfl, (zr_wide (show 1 ≤ Int32.toInt 1 ∧ Int32.toInt 1 ≤ 1 from (by decide)) (by decide) (by decide))⟩, o121_, f122_, (by omega)⟩
      · have b131_ : (-1) ≤ Int32.toInt x24_ ∧ Int32.toInt x24_ ≤ (-1) := zr_nle_r (-1) c30_ b26_ (show 0 ≤ Int32.toInt 0 ∧ Int32.toInt 0 ≤ 0 from (by decide)) (by decide)
        refine pw_blk hT 1 (S' := (37, [some (pvR 6), some (pvI (M.1 6 3)), some (pvR x3_), some (pvI x24_)], [pvI 0], M25_)) rfl ⟨trivial, trivial⟩ ?_
        have b132_ : (-1) ≤ Int32.toInt (M25_.1 6 2) ∧ Int32.toInt (M25_.1 6 2) ≤ 100 := pvok_r o27_ 6 2 rfl
        have b133_ : (-1) ≤ Int32.toInt (M25_.1 6 3) ∧ Int32.toInt (M25_.1 6 3) ≤ 127 := pvok_r o27_ 6 3 rfl
        exact pw_ret hT rfl (r := some (pvI 0)) (M' := M25_) ⟨Or.inl rfl, rfl, rfl⟩ ⟨⟨_, rfl, (zr_wide (show 0 ≤ Int32.toInt 0 ∧ Int32.toInt 0 ≤ 0 from (by decide)) (by decide) (by decide))⟩, o27_, f29_, (by omega)⟩
    · have b134_ : 0 ≤ Int32.toInt x13_ ∧ Int32.toInt x13_ ≤ 0 := (by have u0 := b15_; have u1 := (zi_eq _ _).mp c19_; have u2 := (show 0 ≤ Int32.toInt 0 ∧ Int32.toInt 0 ≤ 0 from (by decide)); omega)
      refine pw_blk hT 1 (S' := (26, [some (pvR 6), some (pvI (M.1 6 3)), some (pvR x3_), none], [pvI 0], M14_)) rfl ⟨trivial, trivial⟩ ?_
      have b135_ : (-1) ≤ Int32.toInt (M14_.1 6 2) ∧ Int32.toInt (M14_.1 6 2) ≤ 100 := pvok_r o16_ 6 2 rfl
      have b136_ : (-1) ≤ Int32.toInt (M14_.1 6 3) ∧ Int32.toInt (M14_.1 6 3) ≤ 127 := pvok_r o16_ 6 3 rfl
      exact pw_ret hT rfl (r := some (pvI 0)) (M' := M14_) ⟨Or.inl rfl, rfl, rfl⟩ ⟨⟨_, rfl, (zr_wide (show 0 ≤ Int32.toInt 0 ∧ Int32.toInt 0 ≤ 0 from (by decide)) (by decide) (by decide))⟩, o16_, f18_, (by omega)⟩
def fpL_X5_readInto_6_x : List (Nat × Nat × Nat) := [(0, 6, 3), (0, 6, 4), (0, 6, 5), (1, 109, 0), (1, 110, 0), (1, 111, 0), (1, 2, 1), (1, 2, 2), (1, 2, 3), (1, 2, 6)]
def fp_X5_readInto_6_x (q k : Nat) : Bool := pvfp fpL_X5_readInto_6_x q k
theorem fp_X5_readInto_6_x_fp_X2_becomeBare_x (a b : Nat) (h : fp_X2_becomeBare_x a b = true) : fp_X5_readInto_6_x a b = true := pvfp_sub (l1 := fpL_X2_becomeBare_x) (l2 := fpL_X5_readInto_6_x) (by decide) a b h
theorem fp_X5_readInto_6_x_fp_X5_goOn_6 (a b : Nat) (h : fp_X5_goOn_6 a b = true) : fp_X5_readInto_6_x a b = true := pvfp_sub (l1 := fpL_X5_goOn_6) (l2 := fpL_X5_readInto_6_x) (by decide) a b h
theorem fp_X5_readInto_6_x_fp_X5_readClause_6 (a b : Nat) (h : fp_X5_readClause_6 a b = true) : fp_X5_readInto_6_x a b = true := pvfp_sub (l1 := fpL_X5_readClause_6) (l2 := fpL_X5_readInto_6_x) (by decide) a b h
theorem fp_X5_readInto_6_x_fp_X5_readSign_6_x (a b : Nat) (h : fp_X5_readSign_6_x a b = true) : fp_X5_readInto_6_x a b = true := pvfp_sub (l1 := fpL_X5_readSign_6_x) (l2 := fpL_X5_readInto_6_x) (by decide) a b h
set_option maxHeartbeats 4000000 in
set_option maxRecDepth 10000 in
theorem sf_X5_readInto_6_x (M : pvM) (hok : pvOk M) (q1 : Nat) (hq1 : pvkl q1 = 2) (d : Nat) (hd : 4 ≤ d) : PW 143 d (0, [some (pvR 6), some (pvR q1), none], [], M) (fun r X => (∃ x : Int32, r = some (pvI x) ∧ 0 ≤ Int32.toInt x ∧ Int32.toInt x ≤ 1) ∧ pvOk X ∧ pvFr fp_X5_readInto_6_x M X) := by
  have hT : pvdom 143 = pvD_143 := rfl
  have b1_ : (-1) ≤ Int32.toInt (M.1 6 2) ∧ Int32.toInt (M.1 6 2) ≤ 100 := pvok_r hok 6 2 rfl
  have b2_ : (-1) ≤ Int32.toInt (M.1 6 3) ∧ Int32.toInt (M.1 6 3) ≤ 127 := pvok_r hok 6 3 rfl
  refine pw_blkw hT 3 (pc := 5) (lo := [some (pvR 6), some (pvR q1), none]) (st := []) (M := pvu M 6 4 (nI q1)) rfl ⟨trivial, trivial, ⟨rfl, hq1⟩, trivial⟩ (fun M3_ e4_ => ?_)
  have o5_ : pvOk M3_ := pvok_u2 e4_ hok rfl (pvhp_r hq1)
  have f6_ : pvFr fp_X5_readInto_6_x M M3_ := pvfr_u e4_ pvfr_0 rfl
  refine pw_blk hT 1 (S' := (6, [some (pvR 6), some (pvR q1), none], [pvR q1], M3_)) rfl ⟨trivial, trivial⟩ ?_
  refine pw_callV hT (as := [pvR q1]) (lo1 := [some (pvR q1)]) (d1 := d) (rest := []) rfl rfl rfl rfl rfl (fun _ => hq1) (Nat.zero_le _) rfl rfl rfl (sf_X2_becomeBare_x M3_ o5_ q1 hq1 d) (fun M8_ o10_ g11_ => ?_)
  have f12_ : pvFr fp_X5_readInto_6_x M M8_ := pvfr_t g11_ f6_ fp_X5_readInto_6_x_fp_X2_becomeBare_x
  refine pw_blkw hT 3 (pc := 14) (lo := [some (pvR 6), some (pvR q1), none]) (st := []) (M := pvu M8_ 6 2 (-1)) rfl ⟨trivial, trivial, rfl, trivial⟩ (fun M13_ e14_ => ?_)
  have o15_ : pvOk M13_ := pvok_u2 e14_ o10_ rfl (zr_wide (show (-1) ≤ Int32.toInt (-1) ∧ Int32.toInt (-1) ≤ (-1) from (by decide)) (by decide) (by decide))
  have f16_ : pvFr fp_X5_readInto_6_x M M13_ := pvfr_u e14_ f12_ rfl
  refine pw_blk hT 1 (S' := (15, [some (pvR 6), some (pvR q1), none], [pvR 6], M13_)) rfl ⟨trivial, trivial⟩ ?_
  have e17_ : (M13_.1 6 2) = (-1) := (pvu_s e14_)
  have b18_ : (-1) ≤ Int32.toInt (M13_.1 6 2) ∧ Int32.toInt (M13_.1 6 2) ≤ (-1) := (by rw [e17_]; exact (show (-1) ≤ Int32.toInt (-1) ∧ Int32.toInt (-1) ≤ (-1) from (by decide)))
  have u19_ : Int32.toInt (-1) = (-1) := by decide
  have d20_ : Int32.toInt (M13_.1 6 2) = Int32.toInt (-1) := congrArg Int32.toInt e17_
  refine pw_callVd hT (as := [pvR 6]) (lo1 := [some (pvR 6)]) (d1 := d) (rest := []) rfl rfl rfl rfl rfl (fun _ => rfl) (Nat.zero_le _) rfl rfl rfl (sf_X5_goOn_6 M13_ o15_ (zr_wide b18_ (by decide) (by decide)) d) (fun M23_ o25_ g26_ d21_ => ?_)
  have f27_ : pvFr fp_X5_readInto_6_x M M23_ := pvfr_t g26_ f16_ fp_X5_readInto_6_x_fp_X5_goOn_6
  refine pw_blk hT 2 (S' := (20, [some (pvR 6), some (pvR q1), some (pvI 1)], [], M23_)) rfl ⟨trivial, trivial, trivial⟩ ?_
  have b28_ : (-1) ≤ Int32.toInt (M23_.1 6 2) ∧ Int32.toInt (M23_.1 6 2) ≤ 100 := pvok_r o25_ 6 2 rfl
  have hlz166_ : ∀ (nz166_ : Nat) (i2z166_ : Int32) (Mz166_ : pvM), (pvOk Mz166_) → (pvFr fp_X5_readInto_6_x M Mz166_) → (1 ≤ Int32.toInt i2z166_ ∧ Int32.toInt i2z166_ ≤ 10) → ((Int32.toInt (Mz166_.1 6 3) ≤ -1 ∨ Int32.toInt (Mz166_.1 6 2) ≤ 99)) → (zhide ((11 - Int32.toInt i2z166_).toNat < nz166_)) → PW 143 d (20, [some (pvR 6), some (pvR q1), some (pvI i2z166_)], [], Mz166_) (fun r X => (∃ x : Int32, r = some (pvI x) ∧ 0 ≤ Int32.toInt x ∧ Int32.toInt x ≤ 1) ∧ pvOk X ∧ pvFr fp_X5_readInto_6_x M X) := by
    intro nz166_
    induction nz166_ with
    | zero => intro i2z166_ Mz166_ oz166_ fz166_ h2z166_ j0z166_ hmz166_; exact absurd (zshow hmz166_) (Nat.not_lt_zero _)
    | succ nz166_ ihz166_ =>
      intro i2z166_ Mz166_ oz166_ fz166_ h2z166_ j0z166_ hmz166_
      have b167_ : (-1) ≤ Int32.toInt (Mz166_.1 6 2) ∧ Int32.toInt (Mz166_.1 6 2) ≤ 100 := pvok_r oz166_ 6 2 rfl
      have b168_ : (-1) ≤ Int32.toInt (Mz166_.1 6 3) ∧ Int32.toInt (Mz166_.1 6 3) ≤ 127 := pvok_r oz166_ 6 3 rfl
      refine pw_blk hT 2 (S' := (23, [some (pvR 6), some (pvR q1), some (pvI i2z166_)], [pvI 10, pvI i2z166_], Mz166_)) rfl ⟨trivial, trivial, trivial⟩ ?_
      refine pw_ic hT (c := 10 < i2z166_) rfl rfl (fun c169_ => absurd c169_ (by have z0 := (show 10 ≤ Int32.toInt 10 ∧ Int32.toInt 10 ≤ 10 from (by decide)); have z1 := h2z166_; rw [zi_lt]; omega)) (fun c169_ => ?_)
      refine pw_blk hT 1 (S' := (27, [some (pvR 6), some (pvR q1), some (pvI i2z166_)], [pvR 6], Mz166_)) rfl ⟨trivial, trivial⟩ ?_
      refine pw_callGd hT (as := [pvR 6]) (lo1 := [some (pvR 6), none, none, none]) (d1 := d) (rest := []) rfl rfl rfl rfl rfl (fun _ => rfl) (Nat.zero_le _) rfl rfl rfl (sf_X5_readClause_6 Mz166_ oz166_ (show (Int32.toInt (Mz166_.1 6 3) ≤ -1 ∨ Int32.toInt (Mz166_.1 6 2) ≤ 99) from (by omega)) d (Nat.le_trans (by decide) hd)) (fun x171_ M172_ b173_ o174_ g175_ d170_ => ?_)
      have f176_ : pvFr fp_X5_readInto_6_x M M172_ := pvfr_t g175_ fz166_ fp_X5_readInto_6_x_fp_X5_readClause_6
      refine pw_ifn hT (c := x171_ = 0) rfl rfl (fun c177_ => ?_) (fun c177_ => ?_)
      · have b178_ : 1 ≤ Int32.toInt x171_ ∧ Int32.toInt x171_ ≤ 1 := (by have u0 := b173_; have u1 := (not_congr (zi_eq _ _)).mp c177_; have u2 := (show 0 ≤ Int32.toInt 0 ∧ Int32.toInt 0 ≤ 0 from (by decide)); omega)
        have b179_ : (-1) ≤ Int32.toInt (M172_.1 6 3) ∧ Int32.toInt (M172_.1 6 3) ≤ 127 := pvok_r o174_ 6 3 rfl
        refine pw_blk hT 3 (S' := (40, [some (pvR 6), some (pvR q1), some (pvI i2z166_)], [pvI (-1), pvI (M172_.1 6 3)], M172_)) rfl ⟨trivial, rfl, trivial, trivial⟩ ?_
        refine pw_icn hT (c := (M172_.1 6 3) = (-1)) rfl rfl (fun c180_ => ?_) (fun c180_ => ?_)
        · have b181_ : 0 ≤ Int32.toInt (M172_.1 6 3) ∧ Int32.toInt (M172_.1 6 3) ≤ 127 := (by have u0 := b179_; have u1 := (not_congr (zi_eq _ _)).mp c180_; have u2 := (show (-1) ≤ Int32.toInt (-1) ∧ Int32.toInt (-1) ≤ (-1) from (by decide)); omega)
          refine pw_blk hT 2 (S' := (48, [some (pvR 6), some (pvR q1), some (pvI i2z166_)], [pvI 10, pvI i2z166_], M172_)) rfl ⟨trivial, trivial, trivial⟩ ?_
          refine pw_ic hT (c := i2z166_ = 10) rfl rfl (fun c182_ => ?_) (fun c182_ => ?_)
          · have b183_ : 10 ≤ Int32.toInt i2z166_ ∧ Int32.toInt i2z166_ ≤ 10 := (by have u0 := h2z166_; have u1 := (zi_eq _ _).mp c182_; have u2 := (show 10 ≤ Int32.toInt 10 ∧ Int32.toInt 10 ≤ 10 from (by decide)); omega)
            refine pw_blk hT 1 (S' := (61, [some (pvR 6), some (pvR q1), some (pvI i2z166_)], [pvI 0], M172_)) rfl ⟨trivial, trivial⟩ ?_
            exact pw_ret hT rfl (r := some (pvI 0)) (M' := M172_) ⟨Or.inl rfl, rfl, rfl⟩ ⟨⟨_, rfl, (zr_wide (show 0 ≤ Int32.toInt 0 ∧ Int32.toInt 0 ≤ 0 from (by decide)) (by decide) (by decide))⟩, o174_, f176_⟩
          · have b184_ : 1 ≤ Int32.toInt i2z166_ ∧ Int32.toInt i2z166_ ≤ 9 := (by have u0 := h2z166_; have u1 := (not_congr (zi_eq _ _)).mp c182_; have u2 := (show 10 ≤ Int32.toInt 10 ∧ Int32.toInt 10 ≤ 10 from (by decide)); omega)
            refine pw_blk hT 2 (S' := (54, [some (pvR 6), some (pvR q1), some (pvI i2z166_)], [pvI 59, pvR 6], M172_)) rfl ⟨trivial, trivial, trivial⟩ ?_
            have u185_ : Int32.toInt 59 = 59 := by decide
            have b186_ : (-1) ≤ Int32.toInt (M172_.1 6 2) ∧ Int32.toInt (M172_.1 6 2) ≤ 100 := pvok_r o174_ 6 2 rfl
            refine pw_callGd hT (as := [pvR 6, pvI 59]) (lo1 := [some (pvR 6), some (pvI 59)]) (d1 := d) (rest := []) rfl rfl rfl rfl rfl (fun _ => rfl) (Nat.zero_le _) rfl rfl rfl (sf_X5_readSign_6_x M172_ o174_ 59 (zr_wide (show 59 ≤ Int32.toInt 59 ∧ Int32.toInt 59 ≤ 59 from (by decide)) (by decide) (by decide)) (show (Int32.toInt (M172_.1 6 3) ≤ -1 ∨ Int32.toInt (M172_.1 6 2) ≤ 99) from (by omega)) d) (fun x188_ M189_ b190_ o191_ g192_ d187_ => ?_)
            have f193_ : pvFr fp_X5_readInto_6_x M M189_ := pvfr_t g192_ f176_ fp_X5_readInto_6_x_fp_X5_readSign_6_x
            refine pw_ifn hT (c := x188_ = 0) rfl rfl (fun c194_ => ?_) (fun c194_ => ?_)
            · have b195_ : 1 ≤ Int32.toInt x188_ ∧ Int32.toInt x188_ ≤ 1 := (by have u0 := b190_; have u1 := (not_congr (zi_eq _ _)).mp c194_; have u2 := (show 0 ≤ Int32.toInt 0 ∧ Int32.toInt 0 ≤ 0 from (by decide)); omega)
              obtain ⟨q197_, b196_⟩ : (Int32.toInt (i2z166_ + 1) = Int32.toInt i2z166_ + 1) ∧ (2 ≤ Int32.toInt (i2z166_ + 1) ∧ Int32.toInt (i2z166_ + 1) ≤ 10) := zadd_k i2z166_ 1 1 2 10 b184_ (by decide) (by decide) (by decide) (by decide) (by decide)
              refine pw_blk hT 2 (S' := (20, [some (pvR 6), some (pvR q1), some (pvI (i2z166_ + 1))], [], M189_)) rfl ⟨trivial, trivial, trivial⟩ ?_
              have b198_ : (-1) ≤ Int32.toInt (M189_.1 6 2) ∧ Int32.toInt (M189_.1 6 2) ≤ 100 := pvok_r o191_ 6 2 rfl
              have b199_ : (-1) ≤ Int32.toInt (M189_.1 6 3) ∧ Int32.toInt (M189_.1 6 3) ≤ 127 := pvok_r o191_ 6 3 rfl
              have j200_ : (Int32.toInt (M189_.1 6 3) ≤ -1 ∨ Int32.toInt (M189_.1 6 2) ≤ 99) := by omega
              exact ihz166_ (i2z166_ + 1) M189_ o191_ f193_ (zr_wide b196_ (by decide) (by decide)) j200_ (zhid (pvms_up (zshow hmz166_) h2z166_ q197_ (by decide) (by decide)))
            · have b201_ : 0 ≤ Int32.toInt x188_ ∧ Int32.toInt x188_ ≤ 0 := (by have u0 := b190_; have u1 := (zi_eq _ _).mp c194_; have u2 := (show 0 ≤ Int32.toInt 0 ∧ Int32.toInt 0 ≤ 0 from (by decide)); omega)
              refine pw_blk hT 1 (S' := (61, [some (pvR 6), some (pvR q1), some (pvI i2z166_)], [pvI 0], M189_)) rfl ⟨trivial, trivial⟩ ?_
              exact pw_ret hT rfl (r := some (pvI 0)) (M' := M189_) ⟨Or.inl rfl, rfl, rfl⟩ ⟨⟨_, rfl, (zr_wide (show 0 ≤ Int32.toInt 0 ∧ Int32.toInt 0 ≤ 0 from (by decide)) (by decide) (by decide))⟩, o191_, f193_⟩
        · have b202_ : (-1) ≤ Int32.toInt (M172_.1 6 3) ∧ Int32.toInt (M172_.1 6 3) ≤ (-1) := (by have u0 := b179_; have u1 := (zi_eq _ _).mp c180_; have u2 := (show (-1) ≤ Int32.toInt (-1) ∧ Int32.toInt (-1) ≤ (-1) from (by decide)); omega)
          refine pw_blk hT 1 (S' := (44, [some (pvR 6), some (pvR q1), some (pvI i2z166_)], [pvI 1], M172_)) rfl ⟨trivial, trivial⟩ ?_
          exact pw_ret hT rfl (r := some (pvI 1)) (M' := M172_) ⟨Or.inr rfl, rfl, rfl⟩ ⟨⟨_, rfl, (zr_wide (show 1 ≤ Int32.toInt 1 ∧ Int32.toInt 1 ≤ 1 from (by decide)) (by decide) (by decide))⟩, o174_, f176_⟩
      · have b203_ : 0 ≤ Int32.toInt x171_ ∧ Int32.toInt x171_ ≤ 0 := (by have u0 := b173_; have u1 := (zi_eq _ _).mp c177_; have u2 := (show 0 ≤ Int32.toInt 0 ∧ Int32.toInt 0 ≤ 0 from (by decide)); omega)
        refine pw_blk hT 1 (S' := (34, [some (pvR 6), some (pvR q1), some (pvI i2z166_)], [pvI 0], M172_)) rfl ⟨trivial, trivial⟩ ?_
        exact pw_ret hT rfl (r := some (pvI 0)) (M' := M172_) ⟨Or.inl rfl, rfl, rfl⟩ ⟨⟨_, rfl, (zr_wide (show 0 ≤ Int32.toInt 0 ∧ Int32.toInt 0 ≤ 0 from (by decide)) (by decide) (by decide))⟩, o174_, f176_⟩
  have u204_ : Int32.toInt 1 = 1 := by decide
  have b205_ : (-1) ≤ Int32.toInt (M23_.1 6 3) ∧ Int32.toInt (M23_.1 6 3) ≤ 127 := pvok_r o25_ 6 3 rfl
  have j206_ : (Int32.toInt (M23_.1 6 3) ≤ -1 ∨ Int32.toInt (M23_.1 6 2) ≤ 99) := by omega
  exact hlz166_ _ 1 M23_ o25_ f27_ (zr_wide (show 1 ≤ Int32.toInt 1 ∧ Int32.toInt 1 ≤ 1 from (by decide)) (by decide) (by decide)) j206_ (zhid (Nat.lt_succ_self _))
def fpL_X1_forget_5 : List (Nat × Nat × Nat) := [(0, 14, 0)]
def fp_X1_forget_5 (q k : Nat) : Bool := pvfp fpL_X1_forget_5 q k
set_option maxHeartbeats 4000000 in
set_option maxRecDepth 10000 in
theorem sf_X1_forget_5 (M : pvM) (hok : pvOk M) (d : Nat) : PW 108 d (0, [some (pvR 5), none], [], M) (fun r X => r = none ∧ pvOk X ∧ pvFr fp_X1_forget_5 M X) := by
  have hT : pvdom 108 = pvD_108 := rfl
  refine pw_blk hT 2 (S' := (2, [some (pvR 5), some (pvI 0)], [], M)) rfl ⟨trivial, trivial, trivial⟩ ?_
  have hlz39_ : ∀ (nz39_ : Nat) (i1z39_ : Int32) (Mz39_ : pvM), (pvOk Mz39_) → (pvFr fp_X1_forget_5 M Mz39_) → (0 ≤ Int32.toInt i1z39_ ∧ Int32.toInt i1z39_ ≤ 4) → (zhide ((5 - Int32.toInt i1z39_).toNat < nz39_)) → PW 108 d (2, [some (pvR 5), some (pvI i1z39_)], [], Mz39_) (fun r X => r = none ∧ pvOk X ∧ pvFr fp_X1_forget_5 M X) := by
    intro nz39_
    induction nz39_ with
    | zero => intro i1z39_ Mz39_ oz39_ fz39_ h1z39_ hmz39_; exact absurd (zshow hmz39_) (Nat.not_lt_zero _)
    | succ nz39_ ihz39_ =>
      intro i1z39_ Mz39_ oz39_ fz39_ h1z39_ hmz39_
      refine pw_blk hT 2 (S' := (4, [some (pvR 5), some (pvI i1z39_)], [pvI 4, pvI i1z39_], Mz39_)) rfl ⟨trivial, trivial, trivial⟩ ?_
      refine pw_ic hT (c := 4 ≤ i1z39_) rfl rfl (fun c40_ => ?_) (fun c40_ => ?_)
      · have b41_ : 4 ≤ Int32.toInt i1z39_ ∧ Int32.toInt i1z39_ ≤ 4 := zr_le_r 4 c40_ h1z39_ (show 4 ≤ Int32.toInt 4 ∧ Int32.toInt 4 ≤ 4 from (by decide)) (by decide)
        exact pw_ret hT rfl (r := none) (M' := Mz39_) ⟨rfl, rfl⟩ ⟨rfl, oz39_, fz39_⟩
      · have b42_ : 0 ≤ Int32.toInt i1z39_ ∧ Int32.toInt i1z39_ ≤ 3 := zr_nle_r 3 c40_ h1z39_ (show 4 ≤ Int32.toInt 4 ∧ Int32.toInt 4 ≤ 4 from (by decide)) (by decide)
        refine pw_blkw hT 5 (pc := 14) (lo := [some (pvR 5), some (pvI i1z39_)]) (st := []) (M := pvu Mz39_ 14 (Int32.toNatClampNeg i1z39_) (vp_nar .boolean 0)) rfl ⟨trivial, rfl, trivial, trivial, ⟨rfl, (zr_in (n := 4) b42_ (by decide) (by decide))⟩, trivial⟩ (fun M43_ e44_ => ?_)
        have o45_ : pvOk M43_ := pvok_u2 e44_ oz39_ rfl (zboolr 0)
        have f46_ : pvFr fp_X1_forget_5 M M43_ := pvfr_u e44_ fz39_ rfl
        obtain ⟨q48_, b47_⟩ : (Int32.toInt (i1z39_ + 1) = Int32.toInt i1z39_ + 1) ∧ (1 ≤ Int32.toInt (i1z39_ + 1) ∧ Int32.toInt (i1z39_ + 1) ≤ 4) := zadd_k i1z39_ 1 1 1 4 b42_ (by decide) (by decide) (by decide) (by decide) (by decide)
        refine pw_blk hT 2 (S' := (2, [some (pvR 5), some (pvI (i1z39_ + 1))], [], M43_)) rfl ⟨trivial, trivial, trivial⟩ ?_
        exact ihz39_ (i1z39_ + 1) M43_ o45_ f46_ (zr_wide b47_ (by decide) (by decide)) (zhid (pvms_up (zshow hmz39_) h1z39_ q48_ (by decide) (by decide)))
  exact hlz39_ _ 0 M hok pvfr_0 (zr_wide (show 0 ≤ Int32.toInt 0 ∧ Int32.toInt 0 ≤ 0 from (by decide)) (by decide) (by decide)) (zhid (Nat.lt_succ_self _))
def fpL_X9_house_0 : List (Nat × Nat × Nat) := [(0, 0, 2), (0, 14, 0), (0, 6, 2), (0, 6, 3), (0, 6, 4), (0, 6, 5), (0, 8, 9), (1, 109, 0), (1, 110, 0), (1, 111, 0), (1, 2, 1), (1, 2, 2), (1, 2, 3), (1, 2, 6)]
def fp_X9_house_0 (q k : Nat) : Bool := pvfp fpL_X9_house_0 q k
theorem fp_X9_house_0_fp_X1_forget_5 (a b : Nat) (h : fp_X1_forget_5 a b = true) : fp_X9_house_0 a b = true := pvfp_sub (l1 := fpL_X1_forget_5) (l2 := fpL_X9_house_0) (by decide) a b h
theorem fp_X9_house_0_fp_X5_readInto_6_x (a b : Nat) (h : fp_X5_readInto_6_x a b = true) : fp_X9_house_0 a b = true := pvfp_sub (l1 := fpL_X5_readInto_6_x) (l2 := fpL_X9_house_0) (by decide) a b h
set_option maxHeartbeats 4000000 in
set_option maxRecDepth 10000 in
theorem sf_X9_house_0 (M : pvM) (hok : pvOk M) (d : Nat) (hd : 4 ≤ d) : PW 177 d (0, [some (pvR 0), none, none], [], M) (fun r X => (∃ x : Int32, r = some (pvI x) ∧ (-110) ≤ Int32.toInt x ∧ Int32.toInt x ≤ 5) ∧ pvOk X ∧ pvFr fp_X9_house_0 M X) := by
  have hT : pvdom 177 = pvD_177 := rfl
  have b1_ : 0 ≤ Int32.toInt (M.1 0 1) ∧ Int32.toInt (M.1 0 1) ≤ 6 := pvok_r hok 0 1 rfl
  refine pw_blk hT 3 (S' := (6, [some (pvR 0), none, none], [pvI 6, pvI (M.1 0 1)], M)) rfl ⟨trivial, rfl, trivial, trivial⟩ ?_
  refine pw_ic hT (c := (M.1 0 1) < 6) rfl rfl (fun c2_ => ?_) (fun c2_ => ?_)
  · have b3_ : 0 ≤ Int32.toInt (M.1 0 1) ∧ Int32.toInt (M.1 0 1) ≤ 5 := zr_lt_l 5 c2_ b1_ (show 6 ≤ Int32.toInt 6 ∧ Int32.toInt 6 ≤ 6 from (by decide)) (by decide)
    refine pw_blkr hT 7 (pc := 25) (lo := [some (pvR 0), none, none]) (st := [pvR 6]) (M := M) (z := (pvbs 1 + Int32.toNatClampNeg (M.1 0 1))) rfl ⟨trivial, rfl, trivial, rfl, trivial, rfl, ⟨rfl, (zr_in (n := 6) b3_ (by decide) (by decide))⟩, trivial⟩ (fun q4_ e6_ => ?_)
    have k5_ : pvkl q4_ = 2 := pvel_1 (zr_in (n := 6) b3_ (by decide) (by decide)) e6_
    refine pw_callG hT (as := [pvR 6, pvR q4_]) (lo1 := [some (pvR 6), some (pvR q4_), none]) (d1 := d) (rest := []) rfl rfl rfl rfl rfl (fun _ => rfl) (Nat.zero_le _) rfl rfl rfl (sf_X5_readInto_6_x M hok q4_ k5_ d (Nat.le_trans (by decide) hd)) (fun x7_ M8_ b9_ o10_ g11_ => ?_)
    have f12_ : pvFr fp_X9_house_0 M M8_ := pvfr_t g11_ pvfr_0 fp_X9_house_0_fp_X5_readInto_6_x
    refine pw_blkw hT 5 (pc := 37) (lo := [some (pvR 0), some (pvI x7_), none]) (st := []) (M := pvu M8_ 6 1 0) rfl ⟨trivial, trivial, rfl, trivial, rfl, trivial⟩ (fun M13_ e14_ => ?_)
    have o15_ : pvOk M13_ := pvok_u2 e14_ o10_ rfl (zr_wide (show 0 ≤ Int32.toInt 0 ∧ Int32.toInt 0 ≤ 0 from (by decide)) (by decide) (by decide))
    have f16_ : pvFr fp_X9_house_0 M M13_ := pvfr_u e14_ f12_ rfl
    refine pw_blk hT 1 (S' := (38, [some (pvR 0), some (pvI x7_), none], [pvI x7_], M13_)) rfl ⟨trivial, trivial⟩ ?_
    refine pw_ifn hT (c := x7_ = 0) rfl rfl (fun c17_ => ?_) (fun c17_ => ?_)
    · have b18_ : 1 ≤ Int32.toInt x7_ ∧ Int32.toInt x7_ ≤ 1 := (by have u0 := b9_; have u1 := (not_congr (zi_eq _ _)).mp c17_; have u2 := (show 0 ≤ Int32.toInt 0 ∧ Int32.toInt 0 ≤ 0 from (by decide)); omega)
      have e19_ : (M13_.1 0 1) = (M.1 0 1) := ((pvu_n e14_ 0 1 (Or.inl (by decide))).trans (g11_ 0 1 rfl))
      have b20_ : 0 ≤ Int32.toInt (M13_.1 0 1) ∧ Int32.toInt (M13_.1 0 1) ≤ 5 := (by rw [e19_]; exact b3_)
      obtain ⟨q22_, b21_⟩ : (Int32.toInt ((M13_.1 0 1) + 1) = Int32.toInt (M13_.1 0 1) + 1) ∧ (1 ≤ Int32.toInt ((M13_.1 0 1) + 1) ∧ Int32.toInt ((M13_.1 0 1) + 1) ≤ 6) := zadd_k (M13_.1 0 1) 1 1 1 6 b20_ (by decide) (by decide) (by decide) (by decide) (by decide)
      refine pw_blkw hT 7 (pc := 63) (lo := [some (pvR 0), some (pvI x7_), none]) (st := [pvI (M13_.1 0 1)]) (M := pvu M13_ 0 1 ((M13_.1 0 1) + 1)) rfl ⟨trivial, trivial, rfl, trivial, trivial, trivial, rfl, trivial⟩ (fun M23_ e24_ => ?_)
      have o25_ : pvOk M23_ := pvok_u2 e24_ o15_ rfl (zr_wide b21_ (by decide) (by decide))
      have f26_ : pvFr fp_X9_house_0 M M23_ := pvfr_u e24_ f16_ rfl
      refine pw_blkr hT 7 (pc := 74) (lo := [some (pvR 0), some (pvI x7_), some (pvI (M13_.1 0 1))]) (st := [pvR 8]) (M := M23_) (z := (pvbs 1 + Int32.toNatClampNeg (M13_.1 0 1))) rfl ⟨trivial, trivial, rfl, trivial, rfl, trivial, ⟨rfl, (zr_in (n := 6) b20_ (by decide) (by decide))⟩, trivial⟩ (fun q27_ e29_ => ?_)
      have k28_ : pvkl q27_ = 2 := pvel_1 (zr_in (n := 6) b20_ (by decide) (by decide)) e29_
      refine pw_blkw hT 1 (pc := 77) (lo := [some (pvR 0), some (pvI x7_), some (pvI (M13_.1 0 1))]) (st := []) (M := pvu M23_ 8 8 (nI q27_)) rfl ⟨⟨rfl, k28_⟩, trivial⟩ (fun M30_ e31_ => ?_)
      have o32_ : pvOk M30_ := pvok_u2 e31_ o25_ rfl (pvhp_r k28_)
      have f33_ : pvFr fp_X9_house_0 M M30_ := pvfr_u e31_ f26_ rfl
      refine pw_blk hT 2 (S' := (81, [some (pvR 0), some (pvI x7_), some (pvI (M13_.1 0 1))], [pvR 5], M30_)) rfl ⟨trivial, rfl, trivial⟩ ?_
      refine pw_callV hT (as := [pvR 5]) (lo1 := [some (pvR 5), none]) (d1 := d) (rest := []) rfl rfl rfl rfl rfl (fun _ => rfl) (Nat.zero_le _) rfl rfl rfl (sf_X1_forget_5 M30_ o32_ d) (fun M35_ o37_ g38_ => ?_)
      have f39_ : pvFr fp_X9_house_0 M M35_ := pvfr_t g38_ f33_ fp_X9_house_0_fp_X1_forget_5
      refine pw_blk hT 1 (S' := (85, [some (pvR 0), some (pvI x7_), some (pvI (M13_.1 0 1))], [pvI (M13_.1 0 1)], M35_)) rfl ⟨trivial, trivial⟩ ?_
      exact pw_ret hT rfl (r := some (pvI (M13_.1 0 1))) (M' := M35_) ⟨rfl, rfl⟩ ⟨⟨_, rfl, (zr_wide b20_ (by decide) (by decide))⟩, o37_, f39_⟩
    · have b40_ : 0 ≤ Int32.toInt x7_ ∧ Int32.toInt x7_ ≤ 0 := (by have u0 := b9_; have u1 := (zi_eq _ _).mp c17_; have u2 := (show 0 ≤ Int32.toInt 0 ∧ Int32.toInt 0 ≤ 0 from (by decide)); omega)
      have b41_ : (-1) ≤ Int32.toInt (M13_.1 6 2) ∧ Int32.toInt (M13_.1 6 2) ≤ 100 := pvok_r o15_ 6 2 rfl
      obtain ⟨q43_, b42_⟩ : (Int32.toInt ((-10) - (M13_.1 6 2)) = (-10) - Int32.toInt (M13_.1 6 2)) ∧ ((-110) ≤ Int32.toInt ((-10) - (M13_.1 6 2)) ∧ Int32.toInt ((-10) - (M13_.1 6 2)) ≤ (-9)) := zsub_q (-10) (M13_.1 6 2) (-10) (-110) (-9) b41_ (by decide) (by decide) (by decide) (by decide) (by decide)
      refine pw_blk hT 5 (S' := (51, [some (pvR 0), some (pvI x7_), none], [pvI ((-10) - (M13_.1 6 2))], M13_)) rfl ⟨trivial, trivial, rfl, rfl, trivial, trivial⟩ ?_
      exact pw_ret hT rfl (r := some (pvI ((-10) - (M13_.1 6 2)))) (M' := M13_) ⟨rfl, rfl⟩ ⟨⟨_, rfl, (zr_wide b42_ (by decide) (by decide))⟩, o15_, f16_⟩
  · have b44_ : 6 ≤ Int32.toInt (M.1 0 1) ∧ Int32.toInt (M.1 0 1) ≤ 6 := zr_nlt_l 6 c2_ b1_ (show 6 ≤ Int32.toInt 6 ∧ Int32.toInt 6 ≤ 6 from (by decide)) (by decide)
    refine pw_blk hT 1 (S' := (11, [some (pvR 0), none, none], [pvI (-4)], M)) rfl ⟨trivial, trivial⟩ ?_
    exact pw_ret hT rfl (r := some (pvI (-4))) (M' := M) ⟨rfl, rfl⟩ ⟨⟨_, rfl, (zr_wide (show (-4) ≤ Int32.toInt (-4) ∧ Int32.toInt (-4) ≤ (-4) from (by decide)) (by decide) (by decide))⟩, hok, pvfr_0⟩
def fpL_X6_clear_101 : List (Nat × Nat × Nat) := [(0, 101, 1)]
def fp_X6_clear_101 (q k : Nat) : Bool := pvfp fpL_X6_clear_101 q k
set_option maxHeartbeats 4000000 in
set_option maxRecDepth 10000 in
theorem sf_X6_clear_101 (M : pvM) (hok : pvOk M) (d : Nat) : PW 153 d (0, [some (pvR 101)], [], M) (fun r X => (∃ x : Int32, r = some (pvI x) ∧ 0 ≤ Int32.toInt x ∧ Int32.toInt x ≤ 0) ∧ pvOk X ∧ pvFr fp_X6_clear_101 M X) := by
  have hT : pvdom 153 = pvD_153 := rfl
  refine pw_blkw hT 3 (pc := 5) (lo := [some (pvR 101)]) (st := []) (M := pvu M 101 0 0) rfl ⟨trivial, trivial, rfl, trivial⟩ (fun M1_ e2_ => ?_)
  have o3_ : pvOk M1_ := pvok_u2 e2_ hok rfl (zr_wide (show 0 ≤ Int32.toInt 0 ∧ Int32.toInt 0 ≤ 0 from (by decide)) (by decide) (by decide))
  have f4_ : pvFr fp_X6_clear_101 M M1_ := pvfr_u e2_ pvfr_0 rfl
  refine pw_blk hT 1 (S' := (6, [some (pvR 101)], [pvI 0], M1_)) rfl ⟨trivial, trivial⟩ ?_
  exact pw_ret hT rfl (r := some (pvI 0)) (M' := M1_) ⟨rfl, rfl⟩ ⟨⟨_, rfl, (show 0 ≤ Int32.toInt 0 ∧ Int32.toInt 0 ≤ 0 from (by decide))⟩, o3_, f4_⟩
set_option maxHeartbeats 4000000 in
set_option maxRecDepth 10000 in
theorem sf_X6_isFull_101 (M : pvM) (hok : pvOk M) (d : Nat) : PW 154 d (0, [some (pvR 101)], [], M) (fun r X => r = some (pvI ((if (M.1 101 0) < (Int32.ofNat 7) then 0 else 1))) ∧ X = M) := by
  have hT : pvdom 154 = pvD_154 := rfl
  have b1_ : 0 ≤ Int32.toInt (M.1 101 0) ∧ Int32.toInt (M.1 101 0) ≤ 7 := pvok_r hok 101 0 rfl
  refine pw_blk hT 5 (S' := (9, [some (pvR 101)], [pvI (Int32.ofNat 7), pvI (M.1 101 0)], M)) rfl ⟨trivial, rfl, trivial, rfl, rfl, trivial⟩ ?_
  refine pw_ic hT (c := (M.1 101 0) < (Int32.ofNat 7)) rfl rfl (fun c2_ => ?_) (fun c2_ => ?_)
  · have b3_ : 0 ≤ Int32.toInt (M.1 101 0) ∧ Int32.toInt (M.1 101 0) ≤ 6 := zr_lt_l 6 c2_ b1_ (show 7 ≤ Int32.toInt (Int32.ofNat 7) ∧ Int32.toInt (Int32.ofNat 7) ≤ 7 from (by decide)) (by decide)
    refine pw_blk hT 1 (S' := (17, [some (pvR 101)], [pvI 0], M)) rfl ⟨trivial, trivial⟩ ?_
    exact pw_ret hT rfl (r := some (pvI 0)) (M' := M) ⟨Or.inl rfl, rfl, rfl⟩ ⟨(by rw [if_pos c2_]), rfl⟩
  · have b4_ : 7 ≤ Int32.toInt (M.1 101 0) ∧ Int32.toInt (M.1 101 0) ≤ 7 := zr_nlt_l 7 c2_ b1_ (show 7 ≤ Int32.toInt (Int32.ofNat 7) ∧ Int32.toInt (Int32.ofNat 7) ≤ 7 from (by decide)) (by decide)
    refine pw_blk hT 2 (S' := (17, [some (pvR 101)], [pvI 1], M)) rfl ⟨trivial, trivial, trivial⟩ ?_
    exact pw_ret hT rfl (r := some (pvI 1)) (M' := M) ⟨Or.inr rfl, rfl, rfl⟩ ⟨(by rw [if_neg c2_]), rfl⟩
def fpL_X6_append_101_x_x : List (Nat × Nat × Nat) := [(0, 101, 1), (0, 109, 0), (0, 117, 0)]
def fp_X6_append_101_x_x (q k : Nat) : Bool := pvfp fpL_X6_append_101_x_x q k
set_option maxHeartbeats 4000000 in
set_option maxRecDepth 10000 in
theorem sf_X6_append_101_x_x (M : pvM) (hok : pvOk M) (n1 : Int32) (n2 : Int32) (hn1 : 0 ≤ Int32.toInt n1 ∧ Int32.toInt n1 ≤ 6) (hn2 : 0 ≤ Int32.toInt n2 ∧ Int32.toInt n2 ≤ 9999) (d : Nat) : PW 151 d (0, [some (pvR 101), some (pvI n1), some (pvI n2)], [], M) (fun r X => (∃ x : Int32, r = some (pvI x) ∧ 1 ≤ Int32.toInt x ∧ Int32.toInt x ≤ 7) ∧ pvOk X ∧ pvFr fp_X6_append_101_x_x M X) := by
  have hT : pvdom 151 = pvD_151 := rfl
  refine pw_blk hT 1 (S' := (1, [some (pvR 101), some (pvI n1), some (pvI n2)], [pvR 101], M)) rfl ⟨trivial, trivial⟩ ?_
  refine pw_callT hT (as := [pvR 101]) (lo1 := [some (pvR 101)]) (d1 := d) (rest := []) rfl rfl rfl rfl rfl (fun _ => rfl) (Nat.zero_le _) rfl rfl rfl (sf_X6_isFull_101 M hok d) ?_
  have b6_ : 0 ≤ Int32.toInt (M.1 101 0) ∧ Int32.toInt (M.1 101 0) ≤ 7 := pvok_r hok 101 0 rfl
  by_cases c7_ : (M.1 101 0) < (Int32.ofNat 7)
  · refine pw_eqI (if_pos c7_) ?_
    have b8_ : 0 ≤ Int32.toInt (M.1 101 0) ∧ Int32.toInt (M.1 101 0) ≤ 6 := zr_lt_l 6 c7_ b6_ (show 7 ≤ Int32.toInt (Int32.ofNat 7) ∧ Int32.toInt (Int32.ofNat 7) ≤ 7 from (by decide)) (by decide)
    show PW 151 d (4, [some (pvR 101), some (pvI n1), some (pvI n2)], [pvI 0], M) _
    refine pw_if hT (c := 0 = 0) rfl rfl (fun c9_ => ?_) (fun c9_ => absurd (by decide) c9_)
    refine pw_blkw hT 6 (pc := 22) (lo := [some (pvR 101), some (pvI n1), some (pvI n2)]) (st := []) (M := pvu M 109 (Int32.toNatClampNeg (M.1 101 0)) n1) rfl ⟨trivial, rfl, trivial, rfl, trivial, ⟨rfl, (zr_in (n := 7) b8_ (by decide) (by decide))⟩, trivial⟩ (fun M10_ e11_ => ?_)
    have o12_ : pvOk M10_ := pvok_u2 e11_ hok rfl hn1
    have f13_ : pvFr fp_X6_append_101_x_x M M10_ := pvfr_u e11_ pvfr_0 rfl
    have e14_ : (M10_.1 101 0) = (M.1 101 0) := (pvu_n e11_ 101 0 (Or.inl (by decide)))
    have b15_ : 0 ≤ Int32.toInt (M10_.1 101 0) ∧ Int32.toInt (M10_.1 101 0) ≤ 6 := (by rw [e14_]; exact b8_)
    refine pw_blkw hT 6 (pc := 32) (lo := [some (pvR 101), some (pvI n1), some (pvI n2)]) (st := []) (M := pvu M10_ 117 (Int32.toNatClampNeg (M10_.1 101 0)) n2) rfl ⟨trivial, rfl, trivial, rfl, trivial, ⟨rfl, (zr_in (n := 7) b15_ (by decide) (by decide))⟩, trivial⟩ (fun M16_ e17_ => ?_)
    have o18_ : pvOk M16_ := pvok_u2 e17_ o12_ rfl hn2
    have f19_ : pvFr fp_X6_append_101_x_x M M16_ := pvfr_u e17_ f13_ rfl
    have e20_ : (M16_.1 101 0) = (M10_.1 101 0) := (pvu_n e17_ 101 0 (Or.inl (by decide)))
    have b21_ : 0 ≤ Int32.toInt (M16_.1 101 0) ∧ Int32.toInt (M16_.1 101 0) ≤ 6 := (by rw [e20_]; exact b15_)
    obtain ⟨q23_, b22_⟩ : (Int32.toInt ((M16_.1 101 0) + 1) = Int32.toInt (M16_.1 101 0) + 1) ∧ (1 ≤ Int32.toInt ((M16_.1 101 0) + 1) ∧ Int32.toInt ((M16_.1 101 0) + 1) ≤ 7) := zadd_k (M16_.1 101 0) 1 1 1 7 b21_ (by decide) (by decide) (by decide) (by decide) (by decide)
    refine pw_blkw hT 6 (pc := 42) (lo := [some (pvR 101), some (pvI n1), some (pvI n2)]) (st := []) (M := pvu M16_ 101 0 ((M16_.1 101 0) + 1)) rfl ⟨trivial, trivial, rfl, trivial, trivial, rfl, trivial⟩ (fun M24_ e25_ => ?_)
    have o26_ : pvOk M24_ := pvok_u2 e25_ o18_ rfl (zr_wide b22_ (by decide) (by decide))
    have f27_ : pvFr fp_X6_append_101_x_x M M24_ := pvfr_u e25_ f19_ rfl
    have e28_ : (M24_.1 101 0) = ((M16_.1 101 0) + 1) := (pvu_s e25_)
    have b29_ : 1 ≤ Int32.toInt (M24_.1 101 0) ∧ Int32.toInt (M24_.1 101 0) ≤ 7 := (by rw [e28_]; exact b22_)
    refine pw_blk hT 2 (S' := (46, [some (pvR 101), some (pvI n1), some (pvI n2)], [pvI (M24_.1 101 0)], M24_)) rfl ⟨trivial, rfl, trivial⟩ ?_
    exact pw_ret hT rfl (r := some (pvI (M24_.1 101 0))) (M' := M24_) ⟨rfl, rfl⟩ ⟨⟨_, rfl, b29_⟩, o26_, f27_⟩
  · refine pw_eqI (if_neg c7_) ?_
    have b30_ : 7 ≤ Int32.toInt (M.1 101 0) ∧ Int32.toInt (M.1 101 0) ≤ 7 := zr_nlt_l 7 c7_ b6_ (show 7 ≤ Int32.toInt (Int32.ofNat 7) ∧ Int32.toInt (Int32.ofNat 7) ≤ 7 from (by decide)) (by decide)
    show PW 151 d (4, [some (pvR 101), some (pvI n1), some (pvI n2)], [pvI 1], M) _
    refine pw_if hT (c := 1 = 0) rfl rfl (fun c31_ => absurd c31_ (by decide)) (fun c31_ => ?_)
    refine pw_blk hT 2 (S' := (11, [some (pvR 101), some (pvI n1), some (pvI n2)], [pvI (M.1 101 0)], M)) rfl ⟨trivial, rfl, trivial⟩ ?_
    exact pw_ret hT rfl (r := some (pvI (M.1 101 0))) (M' := M) ⟨rfl, rfl⟩ ⟨⟨_, rfl, (zr_wide b30_ (by decide) (by decide))⟩, hok, pvfr_0⟩
def fpL_X6_becomeAs_101_100 : List (Nat × Nat × Nat) := [(0, 101, 1), (0, 109, 0), (0, 117, 0)]
def fp_X6_becomeAs_101_100 (q k : Nat) : Bool := pvfp fpL_X6_becomeAs_101_100 q k
theorem fp_X6_becomeAs_101_100_fp_X6_append_101_x_x (a b : Nat) (h : fp_X6_append_101_x_x a b = true) : fp_X6_becomeAs_101_100 a b = true := pvfp_sub (l1 := fpL_X6_append_101_x_x) (l2 := fpL_X6_becomeAs_101_100) (by decide) a b h
theorem fp_X6_becomeAs_101_100_fp_X6_clear_101 (a b : Nat) (h : fp_X6_clear_101 a b = true) : fp_X6_becomeAs_101_100 a b = true := pvfp_sub (l1 := fpL_X6_clear_101) (l2 := fpL_X6_becomeAs_101_100) (by decide) a b h
set_option maxHeartbeats 4000000 in
set_option maxRecDepth 10000 in
theorem sf_X6_becomeAs_101_100 (M : pvM) (hok : pvOk M) (d : Nat) : PW 152 d (0, [some (pvR 101), some (pvR 100), none], [], M) (fun r X => r = none ∧ pvOk X ∧ pvFr fp_X6_becomeAs_101_100 M X) := by
  have hT : pvdom 152 = pvD_152 := rfl
  refine pw_blk hT 1 (S' := (1, [some (pvR 101), some (pvR 100), none], [pvR 101], M)) rfl ⟨trivial, trivial⟩ ?_
  refine pw_callG hT (as := [pvR 101]) (lo1 := [some (pvR 101)]) (d1 := d) (rest := []) rfl rfl rfl rfl rfl (fun _ => rfl) (Nat.zero_le _) rfl rfl rfl (sf_X6_clear_101 M hok d) (fun x1_ M2_ b3_ o4_ g5_ => ?_)
  have f6_ : pvFr fp_X6_becomeAs_101_100 M M2_ := pvfr_t g5_ pvfr_0 fp_X6_becomeAs_101_100_fp_X6_clear_101
  refine pw_blk hT 3 (S' := (7, [some (pvR 101), some (pvR 100), some (pvI 0)], [], M2_)) rfl ⟨trivial, trivial, trivial, trivial⟩ ?_
  have hlz75_ : ∀ (nz75_ : Nat) (i2z75_ : Int32) (Mz75_ : pvM), (pvOk Mz75_) → (pvFr fp_X6_becomeAs_101_100 M Mz75_) → (0 ≤ Int32.toInt i2z75_ ∧ Int32.toInt i2z75_ ≤ 7) → (zhide ((8 - Int32.toInt i2z75_).toNat < nz75_)) → PW 152 d (7, [some (pvR 101), some (pvR 100), some (pvI i2z75_)], [], Mz75_) (fun r X => r = none ∧ pvOk X ∧ pvFr fp_X6_becomeAs_101_100 M X) := by
    intro nz75_
    induction nz75_ with
    | zero => intro i2z75_ Mz75_ oz75_ fz75_ h2z75_ hmz75_; exact absurd (zshow hmz75_) (Nat.not_lt_zero _)
    | succ nz75_ ihz75_ =>
      intro i2z75_ Mz75_ oz75_ fz75_ h2z75_ hmz75_
      have b76_ : 0 ≤ Int32.toInt (Mz75_.1 100 0) ∧ Int32.toInt (Mz75_.1 100 0) ≤ 7 := pvok_r oz75_ 100 0 rfl
      refine pw_blk hT 3 (S' := (12, [some (pvR 101), some (pvR 100), some (pvI i2z75_)], [pvI (Mz75_.1 100 0), pvI i2z75_], Mz75_)) rfl ⟨trivial, trivial, rfl, trivial⟩ ?_
      refine pw_ic hT (c := (Mz75_.1 100 0) ≤ i2z75_) rfl rfl (fun c77_ => ?_) (fun c77_ => ?_)
      · have d78_ : Int32.toInt (Mz75_.1 100 0) ≤ Int32.toInt i2z75_ := (zi_le _ _).mp c77_
        exact pw_ret hT rfl (r := none) (M' := Mz75_) ⟨rfl, rfl⟩ ⟨rfl, oz75_, fz75_⟩
      · have b79_ : 1 ≤ Int32.toInt (Mz75_.1 100 0) ∧ Int32.toInt (Mz75_.1 100 0) ≤ 7 := zr_nle_l 1 c77_ b76_ h2z75_ (by decide)
        have b80_ : 0 ≤ Int32.toInt i2z75_ ∧ Int32.toInt i2z75_ ≤ 6 := zr_nle_r 6 c77_ h2z75_ b79_ (by decide)
        have d81_ : Int32.toInt (Mz75_.1 100 0) > Int32.toInt i2z75_ := Int.not_le.mp ((not_congr (zi_le _ _)).mp c77_)
        have b82_ : 0 ≤ Int32.toInt (Mz75_.1 108 (Int32.toNatClampNeg i2z75_)) ∧ Int32.toInt (Mz75_.1 108 (Int32.toNatClampNeg i2z75_)) ≤ 6 := pvok_r oz75_ 108 (Int32.toNatClampNeg i2z75_) rfl
        have b83_ : 0 ≤ Int32.toInt (Mz75_.1 116 (Int32.toNatClampNeg i2z75_)) ∧ Int32.toInt (Mz75_.1 116 (Int32.toNatClampNeg i2z75_)) ≤ 9999 := pvok_r oz75_ 116 (Int32.toNatClampNeg i2z75_) rfl
        refine pw_blk hT 9 (S' := (28, [some (pvR 101), some (pvR 100), some (pvI i2z75_)], [pvI (Mz75_.1 116 (Int32.toNatClampNeg i2z75_)), pvI (Mz75_.1 108 (Int32.toNatClampNeg i2z75_)), pvR 101], Mz75_)) rfl ⟨trivial, trivial, rfl, trivial, ⟨rfl, (zr_in (n := 7) b80_ (by decide) (by decide))⟩, trivial, rfl, trivial, ⟨rfl, (zr_in (n := 7) b80_ (by decide) (by decide))⟩, trivial⟩ ?_
        refine pw_callG hT (as := [pvR 101, pvI (Mz75_.1 108 (Int32.toNatClampNeg i2z75_)), pvI (Mz75_.1 116 (Int32.toNatClampNeg i2z75_))]) (lo1 := [some (pvR 101), some (pvI (Mz75_.1 108 (Int32.toNatClampNeg i2z75_))), some (pvI (Mz75_.1 116 (Int32.toNatClampNeg i2z75_)))]) (d1 := d) (rest := []) rfl rfl rfl rfl rfl (fun _ => rfl) (Nat.zero_le _) rfl rfl rfl (sf_X6_append_101_x_x Mz75_ oz75_ (Mz75_.1 108 (Int32.toNatClampNeg i2z75_)) (Mz75_.1 116 (Int32.toNatClampNeg i2z75_)) b82_ b83_ d) (fun x84_ M85_ b86_ o87_ g88_ => ?_)
        have f89_ : pvFr fp_X6_becomeAs_101_100 M M85_ := pvfr_t g88_ fz75_ fp_X6_becomeAs_101_100_fp_X6_append_101_x_x
        obtain ⟨q91_, b90_⟩ : (Int32.toInt (i2z75_ + 1) = Int32.toInt i2z75_ + 1) ∧ (1 ≤ Int32.toInt (i2z75_ + 1) ∧ Int32.toInt (i2z75_ + 1) ≤ 7) := zadd_k i2z75_ 1 1 1 7 b80_ (by decide) (by decide) (by decide) (by decide) (by decide)
        refine pw_blk hT 3 (S' := (7, [some (pvR 101), some (pvR 100), some (pvI (i2z75_ + 1))], [], M85_)) rfl ⟨trivial, trivial, trivial, trivial⟩ ?_
        exact ihz75_ (i2z75_ + 1) M85_ o87_ f89_ (zr_wide b90_ (by decide) (by decide)) (zhid (pvms_up (zshow hmz75_) h2z75_ q91_ (by decide) (by decide)))
  exact hlz75_ _ 0 M2_ o4_ f6_ (zr_wide (show 0 ≤ Int32.toInt 0 ∧ Int32.toInt 0 ≤ 0 from (by decide)) (by decide) (by decide)) (zhid (Nat.lt_succ_self _))
def fpL_X6_clear_103 : List (Nat × Nat × Nat) := [(0, 103, 1)]
def fp_X6_clear_103 (q k : Nat) : Bool := pvfp fpL_X6_clear_103 q k
set_option maxHeartbeats 4000000 in
set_option maxRecDepth 10000 in
theorem sf_X6_clear_103 (M : pvM) (hok : pvOk M) (d : Nat) : PW 153 d (0, [some (pvR 103)], [], M) (fun r X => (∃ x : Int32, r = some (pvI x) ∧ 0 ≤ Int32.toInt x ∧ Int32.toInt x ≤ 0) ∧ pvOk X ∧ pvFr fp_X6_clear_103 M X) := by
  have hT : pvdom 153 = pvD_153 := rfl
  refine pw_blkw hT 3 (pc := 5) (lo := [some (pvR 103)]) (st := []) (M := pvu M 103 0 0) rfl ⟨trivial, trivial, rfl, trivial⟩ (fun M1_ e2_ => ?_)
  have o3_ : pvOk M1_ := pvok_u2 e2_ hok rfl (zr_wide (show 0 ≤ Int32.toInt 0 ∧ Int32.toInt 0 ≤ 0 from (by decide)) (by decide) (by decide))
  have f4_ : pvFr fp_X6_clear_103 M M1_ := pvfr_u e2_ pvfr_0 rfl
  refine pw_blk hT 1 (S' := (6, [some (pvR 103)], [pvI 0], M1_)) rfl ⟨trivial, trivial⟩ ?_
  exact pw_ret hT rfl (r := some (pvI 0)) (M' := M1_) ⟨rfl, rfl⟩ ⟨⟨_, rfl, (show 0 ≤ Int32.toInt 0 ∧ Int32.toInt 0 ≤ 0 from (by decide))⟩, o3_, f4_⟩
set_option maxHeartbeats 4000000 in
set_option maxRecDepth 10000 in
theorem sf_X6_isFull_103 (M : pvM) (hok : pvOk M) (d : Nat) : PW 154 d (0, [some (pvR 103)], [], M) (fun r X => r = some (pvI ((if (M.1 103 0) < (Int32.ofNat 6) then 0 else 1))) ∧ X = M) := by
  have hT : pvdom 154 = pvD_154 := rfl
  have b1_ : 0 ≤ Int32.toInt (M.1 103 0) ∧ Int32.toInt (M.1 103 0) ≤ 6 := pvok_r hok 103 0 rfl
  refine pw_blk hT 5 (S' := (9, [some (pvR 103)], [pvI (Int32.ofNat 6), pvI (M.1 103 0)], M)) rfl ⟨trivial, rfl, trivial, rfl, rfl, trivial⟩ ?_
  refine pw_ic hT (c := (M.1 103 0) < (Int32.ofNat 6)) rfl rfl (fun c2_ => ?_) (fun c2_ => ?_)
  · have b3_ : 0 ≤ Int32.toInt (M.1 103 0) ∧ Int32.toInt (M.1 103 0) ≤ 5 := zr_lt_l 5 c2_ b1_ (show 6 ≤ Int32.toInt (Int32.ofNat 6) ∧ Int32.toInt (Int32.ofNat 6) ≤ 6 from (by decide)) (by decide)
    refine pw_blk hT 1 (S' := (17, [some (pvR 103)], [pvI 0], M)) rfl ⟨trivial, trivial⟩ ?_
    exact pw_ret hT rfl (r := some (pvI 0)) (M' := M) ⟨Or.inl rfl, rfl, rfl⟩ ⟨(by rw [if_pos c2_]), rfl⟩
  · have b4_ : 6 ≤ Int32.toInt (M.1 103 0) ∧ Int32.toInt (M.1 103 0) ≤ 6 := zr_nlt_l 6 c2_ b1_ (show 6 ≤ Int32.toInt (Int32.ofNat 6) ∧ Int32.toInt (Int32.ofNat 6) ≤ 6 from (by decide)) (by decide)
    refine pw_blk hT 2 (S' := (17, [some (pvR 103)], [pvI 1], M)) rfl ⟨trivial, trivial, trivial⟩ ?_
    exact pw_ret hT rfl (r := some (pvI 1)) (M' := M) ⟨Or.inr rfl, rfl, rfl⟩ ⟨(by rw [if_neg c2_]), rfl⟩
def fpL_X6_append_103_x_x : List (Nat × Nat × Nat) := [(0, 103, 1), (0, 111, 0), (0, 119, 0)]
def fp_X6_append_103_x_x (q k : Nat) : Bool := pvfp fpL_X6_append_103_x_x q k
set_option maxHeartbeats 4000000 in
set_option maxRecDepth 10000 in
theorem sf_X6_append_103_x_x (M : pvM) (hok : pvOk M) (n1 : Int32) (n2 : Int32) (hn1 : 0 ≤ Int32.toInt n1 ∧ Int32.toInt n1 ≤ 6) (hn2 : 0 ≤ Int32.toInt n2 ∧ Int32.toInt n2 ≤ 9999) (d : Nat) : PW 151 d (0, [some (pvR 103), some (pvI n1), some (pvI n2)], [], M) (fun r X => (∃ x : Int32, r = some (pvI x) ∧ 1 ≤ Int32.toInt x ∧ Int32.toInt x ≤ 6) ∧ pvOk X ∧ pvFr fp_X6_append_103_x_x M X) := by
  have hT : pvdom 151 = pvD_151 := rfl
  refine pw_blk hT 1 (S' := (1, [some (pvR 103), some (pvI n1), some (pvI n2)], [pvR 103], M)) rfl ⟨trivial, trivial⟩ ?_
  refine pw_callT hT (as := [pvR 103]) (lo1 := [some (pvR 103)]) (d1 := d) (rest := []) rfl rfl rfl rfl rfl (fun _ => rfl) (Nat.zero_le _) rfl rfl rfl (sf_X6_isFull_103 M hok d) ?_
  have b6_ : 0 ≤ Int32.toInt (M.1 103 0) ∧ Int32.toInt (M.1 103 0) ≤ 6 := pvok_r hok 103 0 rfl
  by_cases c7_ : (M.1 103 0) < (Int32.ofNat 6)
  · refine pw_eqI (if_pos c7_) ?_
    have b8_ : 0 ≤ Int32.toInt (M.1 103 0) ∧ Int32.toInt (M.1 103 0) ≤ 5 := zr_lt_l 5 c7_ b6_ (show 6 ≤ Int32.toInt (Int32.ofNat 6) ∧ Int32.toInt (Int32.ofNat 6) ≤ 6 from (by decide)) (by decide)
    show PW 151 d (4, [some (pvR 103), some (pvI n1), some (pvI n2)], [pvI 0], M) _
    refine pw_if hT (c := 0 = 0) rfl rfl (fun c9_ => ?_) (fun c9_ => absurd (by decide) c9_)
    refine pw_blkw hT 6 (pc := 22) (lo := [some (pvR 103), some (pvI n1), some (pvI n2)]) (st := []) (M := pvu M 111 (Int32.toNatClampNeg (M.1 103 0)) n1) rfl ⟨trivial, rfl, trivial, rfl, trivial, ⟨rfl, (zr_in (n := 6) b8_ (by decide) (by decide))⟩, trivial⟩ (fun M10_ e11_ => ?_)
    have o12_ : pvOk M10_ := pvok_u2 e11_ hok rfl hn1
    have f13_ : pvFr fp_X6_append_103_x_x M M10_ := pvfr_u e11_ pvfr_0 rfl
    have e14_ : (M10_.1 103 0) = (M.1 103 0) := (pvu_n e11_ 103 0 (Or.inl (by decide)))
    have b15_ : 0 ≤ Int32.toInt (M10_.1 103 0) ∧ Int32.toInt (M10_.1 103 0) ≤ 5 := (by rw [e14_]; exact b8_)
    refine pw_blkw hT 6 (pc := 32) (lo := [some (pvR 103), some (pvI n1), some (pvI n2)]) (st := []) (M := pvu M10_ 119 (Int32.toNatClampNeg (M10_.1 103 0)) n2) rfl ⟨trivial, rfl, trivial, rfl, trivial, ⟨rfl, (zr_in (n := 6) b15_ (by decide) (by decide))⟩, trivial⟩ (fun M16_ e17_ => ?_)
    have o18_ : pvOk M16_ := pvok_u2 e17_ o12_ rfl hn2
    have f19_ : pvFr fp_X6_append_103_x_x M M16_ := pvfr_u e17_ f13_ rfl
    have e20_ : (M16_.1 103 0) = (M10_.1 103 0) := (pvu_n e17_ 103 0 (Or.inl (by decide)))
    have b21_ : 0 ≤ Int32.toInt (M16_.1 103 0) ∧ Int32.toInt (M16_.1 103 0) ≤ 5 := (by rw [e20_]; exact b15_)
    obtain ⟨q23_, b22_⟩ : (Int32.toInt ((M16_.1 103 0) + 1) = Int32.toInt (M16_.1 103 0) + 1) ∧ (1 ≤ Int32.toInt ((M16_.1 103 0) + 1) ∧ Int32.toInt ((M16_.1 103 0) + 1) ≤ 6) := zadd_k (M16_.1 103 0) 1 1 1 6 b21_ (by decide) (by decide) (by decide) (by decide) (by decide)
    refine pw_blkw hT 6 (pc := 42) (lo := [some (pvR 103), some (pvI n1), some (pvI n2)]) (st := []) (M := pvu M16_ 103 0 ((M16_.1 103 0) + 1)) rfl ⟨trivial, trivial, rfl, trivial, trivial, rfl, trivial⟩ (fun M24_ e25_ => ?_)
    have o26_ : pvOk M24_ := pvok_u2 e25_ o18_ rfl (zr_wide b22_ (by decide) (by decide))
    have f27_ : pvFr fp_X6_append_103_x_x M M24_ := pvfr_u e25_ f19_ rfl
    have e28_ : (M24_.1 103 0) = ((M16_.1 103 0) + 1) := (pvu_s e25_)
    have b29_ : 1 ≤ Int32.toInt (M24_.1 103 0) ∧ Int32.toInt (M24_.1 103 0) ≤ 6 := (by rw [e28_]; exact b22_)
    refine pw_blk hT 2 (S' := (46, [some (pvR 103), some (pvI n1), some (pvI n2)], [pvI (M24_.1 103 0)], M24_)) rfl ⟨trivial, rfl, trivial⟩ ?_
    exact pw_ret hT rfl (r := some (pvI (M24_.1 103 0))) (M' := M24_) ⟨rfl, rfl⟩ ⟨⟨_, rfl, b29_⟩, o26_, f27_⟩
  · refine pw_eqI (if_neg c7_) ?_
    have b30_ : 6 ≤ Int32.toInt (M.1 103 0) ∧ Int32.toInt (M.1 103 0) ≤ 6 := zr_nlt_l 6 c7_ b6_ (show 6 ≤ Int32.toInt (Int32.ofNat 6) ∧ Int32.toInt (Int32.ofNat 6) ≤ 6 from (by decide)) (by decide)
    show PW 151 d (4, [some (pvR 103), some (pvI n1), some (pvI n2)], [pvI 1], M) _
    refine pw_if hT (c := 1 = 0) rfl rfl (fun c31_ => absurd c31_ (by decide)) (fun c31_ => ?_)
    refine pw_blk hT 2 (S' := (11, [some (pvR 103), some (pvI n1), some (pvI n2)], [pvI (M.1 103 0)], M)) rfl ⟨trivial, rfl, trivial⟩ ?_
    exact pw_ret hT rfl (r := some (pvI (M.1 103 0))) (M' := M) ⟨rfl, rfl⟩ ⟨⟨_, rfl, (zr_wide b30_ (by decide) (by decide))⟩, hok, pvfr_0⟩
def fpL_X6_becomeAs_103_102 : List (Nat × Nat × Nat) := [(0, 103, 1), (0, 111, 0), (0, 119, 0)]
def fp_X6_becomeAs_103_102 (q k : Nat) : Bool := pvfp fpL_X6_becomeAs_103_102 q k
theorem fp_X6_becomeAs_103_102_fp_X6_append_103_x_x (a b : Nat) (h : fp_X6_append_103_x_x a b = true) : fp_X6_becomeAs_103_102 a b = true := pvfp_sub (l1 := fpL_X6_append_103_x_x) (l2 := fpL_X6_becomeAs_103_102) (by decide) a b h
theorem fp_X6_becomeAs_103_102_fp_X6_clear_103 (a b : Nat) (h : fp_X6_clear_103 a b = true) : fp_X6_becomeAs_103_102 a b = true := pvfp_sub (l1 := fpL_X6_clear_103) (l2 := fpL_X6_becomeAs_103_102) (by decide) a b h
set_option maxHeartbeats 4000000 in
set_option maxRecDepth 10000 in
theorem sf_X6_becomeAs_103_102 (M : pvM) (hok : pvOk M) (d : Nat) : PW 152 d (0, [some (pvR 103), some (pvR 102), none], [], M) (fun r X => r = none ∧ pvOk X ∧ pvFr fp_X6_becomeAs_103_102 M X) := by
  have hT : pvdom 152 = pvD_152 := rfl
  refine pw_blk hT 1 (S' := (1, [some (pvR 103), some (pvR 102), none], [pvR 103], M)) rfl ⟨trivial, trivial⟩ ?_
  refine pw_callG hT (as := [pvR 103]) (lo1 := [some (pvR 103)]) (d1 := d) (rest := []) rfl rfl rfl rfl rfl (fun _ => rfl) (Nat.zero_le _) rfl rfl rfl (sf_X6_clear_103 M hok d) (fun x1_ M2_ b3_ o4_ g5_ => ?_)
  have f6_ : pvFr fp_X6_becomeAs_103_102 M M2_ := pvfr_t g5_ pvfr_0 fp_X6_becomeAs_103_102_fp_X6_clear_103
  refine pw_blk hT 3 (S' := (7, [some (pvR 103), some (pvR 102), some (pvI 0)], [], M2_)) rfl ⟨trivial, trivial, trivial, trivial⟩ ?_
  have hlz75_ : ∀ (nz75_ : Nat) (i2z75_ : Int32) (Mz75_ : pvM), (pvOk Mz75_) → (pvFr fp_X6_becomeAs_103_102 M Mz75_) → (0 ≤ Int32.toInt i2z75_ ∧ Int32.toInt i2z75_ ≤ 6) → (zhide ((7 - Int32.toInt i2z75_).toNat < nz75_)) → PW 152 d (7, [some (pvR 103), some (pvR 102), some (pvI i2z75_)], [], Mz75_) (fun r X => r = none ∧ pvOk X ∧ pvFr fp_X6_becomeAs_103_102 M X) := by
    intro nz75_
    induction nz75_ with
    | zero => intro i2z75_ Mz75_ oz75_ fz75_ h2z75_ hmz75_; exact absurd (zshow hmz75_) (Nat.not_lt_zero _)
    | succ nz75_ ihz75_ =>
      intro i2z75_ Mz75_ oz75_ fz75_ h2z75_ hmz75_
      have b76_ : 0 ≤ Int32.toInt (Mz75_.1 102 0) ∧ Int32.toInt (Mz75_.1 102 0) ≤ 6 := pvok_r oz75_ 102 0 rfl
      refine pw_blk hT 3 (S' := (12, [some (pvR 103), some (pvR 102), some (pvI i2z75_)], [pvI (Mz75_.1 102 0), pvI i2z75_], Mz75_)) rfl ⟨trivial, trivial, rfl, trivial⟩ ?_
      refine pw_ic hT (c := (Mz75_.1 102 0) ≤ i2z75_) rfl rfl (fun c77_ => ?_) (fun c77_ => ?_)
      · have d78_ : Int32.toInt (Mz75_.1 102 0) ≤ Int32.toInt i2z75_ := (zi_le _ _).mp c77_
        exact pw_ret hT rfl (r := none) (M' := Mz75_) ⟨rfl, rfl⟩ ⟨rfl, oz75_, fz75_⟩
      · have b79_ : 1 ≤ Int32.toInt (Mz75_.1 102 0) ∧ Int32.toInt (Mz75_.1 102 0) ≤ 6 := zr_nle_l 1 c77_ b76_ h2z75_ (by decide)
        have b80_ : 0 ≤ Int32.toInt i2z75_ ∧ Int32.toInt i2z75_ ≤ 5 := zr_nle_r 5 c77_ h2z75_ b79_ (by decide)
        have d81_ : Int32.toInt (Mz75_.1 102 0) > Int32.toInt i2z75_ := Int.not_le.mp ((not_congr (zi_le _ _)).mp c77_)
        have b82_ : 0 ≤ Int32.toInt (Mz75_.1 110 (Int32.toNatClampNeg i2z75_)) ∧ Int32.toInt (Mz75_.1 110 (Int32.toNatClampNeg i2z75_)) ≤ 6 := pvok_r oz75_ 110 (Int32.toNatClampNeg i2z75_) rfl
        have b83_ : 0 ≤ Int32.toInt (Mz75_.1 118 (Int32.toNatClampNeg i2z75_)) ∧ Int32.toInt (Mz75_.1 118 (Int32.toNatClampNeg i2z75_)) ≤ 9999 := pvok_r oz75_ 118 (Int32.toNatClampNeg i2z75_) rfl
        refine pw_blk hT 9 (S' := (28, [some (pvR 103), some (pvR 102), some (pvI i2z75_)], [pvI (Mz75_.1 118 (Int32.toNatClampNeg i2z75_)), pvI (Mz75_.1 110 (Int32.toNatClampNeg i2z75_)), pvR 103], Mz75_)) rfl ⟨trivial, trivial, rfl, trivial, ⟨rfl, (zr_in (n := 6) b80_ (by decide) (by decide))⟩, trivial, rfl, trivial, ⟨rfl, (zr_in (n := 6) b80_ (by decide) (by decide))⟩, trivial⟩ ?_
        refine pw_callG hT (as := [pvR 103, pvI (Mz75_.1 110 (Int32.toNatClampNeg i2z75_)), pvI (Mz75_.1 118 (Int32.toNatClampNeg i2z75_))]) (lo1 := [some (pvR 103), some (pvI (Mz75_.1 110 (Int32.toNatClampNeg i2z75_))), some (pvI (Mz75_.1 118 (Int32.toNatClampNeg i2z75_)))]) (d1 := d) (rest := []) rfl rfl rfl rfl rfl (fun _ => rfl) (Nat.zero_le _) rfl rfl rfl (sf_X6_append_103_x_x Mz75_ oz75_ (Mz75_.1 110 (Int32.toNatClampNeg i2z75_)) (Mz75_.1 118 (Int32.toNatClampNeg i2z75_)) b82_ b83_ d) (fun x84_ M85_ b86_ o87_ g88_ => ?_)
        have f89_ : pvFr fp_X6_becomeAs_103_102 M M85_ := pvfr_t g88_ fz75_ fp_X6_becomeAs_103_102_fp_X6_append_103_x_x
        obtain ⟨q91_, b90_⟩ : (Int32.toInt (i2z75_ + 1) = Int32.toInt i2z75_ + 1) ∧ (1 ≤ Int32.toInt (i2z75_ + 1) ∧ Int32.toInt (i2z75_ + 1) ≤ 6) := zadd_k i2z75_ 1 1 1 6 b80_ (by decide) (by decide) (by decide) (by decide) (by decide)
        refine pw_blk hT 3 (S' := (7, [some (pvR 103), some (pvR 102), some (pvI (i2z75_ + 1))], [], M85_)) rfl ⟨trivial, trivial, trivial, trivial⟩ ?_
        exact ihz75_ (i2z75_ + 1) M85_ o87_ f89_ (zr_wide b90_ (by decide) (by decide)) (zhid (pvms_up (zshow hmz75_) h2z75_ q91_ (by decide) (by decide)))
  exact hlz75_ _ 0 M2_ o4_ f6_ (zr_wide (show 0 ≤ Int32.toInt 0 ∧ Int32.toInt 0 ≤ 0 from (by decide)) (by decide) (by decide)) (zhid (Nat.lt_succ_self _))
def fpL_X6_clear_105 : List (Nat × Nat × Nat) := [(0, 105, 1)]
def fp_X6_clear_105 (q k : Nat) : Bool := pvfp fpL_X6_clear_105 q k
set_option maxHeartbeats 4000000 in
set_option maxRecDepth 10000 in
theorem sf_X6_clear_105 (M : pvM) (hok : pvOk M) (d : Nat) : PW 153 d (0, [some (pvR 105)], [], M) (fun r X => (∃ x : Int32, r = some (pvI x) ∧ 0 ≤ Int32.toInt x ∧ Int32.toInt x ≤ 0) ∧ pvOk X ∧ pvFr fp_X6_clear_105 M X) := by
  have hT : pvdom 153 = pvD_153 := rfl
  refine pw_blkw hT 3 (pc := 5) (lo := [some (pvR 105)]) (st := []) (M := pvu M 105 0 0) rfl ⟨trivial, trivial, rfl, trivial⟩ (fun M1_ e2_ => ?_)
  have o3_ : pvOk M1_ := pvok_u2 e2_ hok rfl (zr_wide (show 0 ≤ Int32.toInt 0 ∧ Int32.toInt 0 ≤ 0 from (by decide)) (by decide) (by decide))
  have f4_ : pvFr fp_X6_clear_105 M M1_ := pvfr_u e2_ pvfr_0 rfl
  refine pw_blk hT 1 (S' := (6, [some (pvR 105)], [pvI 0], M1_)) rfl ⟨trivial, trivial⟩ ?_
  exact pw_ret hT rfl (r := some (pvI 0)) (M' := M1_) ⟨rfl, rfl⟩ ⟨⟨_, rfl, (show 0 ≤ Int32.toInt 0 ∧ Int32.toInt 0 ≤ 0 from (by decide))⟩, o3_, f4_⟩
set_option maxHeartbeats 4000000 in
set_option maxRecDepth 10000 in
theorem sf_X6_isFull_105 (M : pvM) (hok : pvOk M) (d : Nat) : PW 154 d (0, [some (pvR 105)], [], M) (fun r X => r = some (pvI ((if (M.1 105 0) < (Int32.ofNat 8) then 0 else 1))) ∧ X = M) := by
  have hT : pvdom 154 = pvD_154 := rfl
  have b1_ : 0 ≤ Int32.toInt (M.1 105 0) ∧ Int32.toInt (M.1 105 0) ≤ 8 := pvok_r hok 105 0 rfl
  refine pw_blk hT 5 (S' := (9, [some (pvR 105)], [pvI (Int32.ofNat 8), pvI (M.1 105 0)], M)) rfl ⟨trivial, rfl, trivial, rfl, rfl, trivial⟩ ?_
  refine pw_ic hT (c := (M.1 105 0) < (Int32.ofNat 8)) rfl rfl (fun c2_ => ?_) (fun c2_ => ?_)
  · have b3_ : 0 ≤ Int32.toInt (M.1 105 0) ∧ Int32.toInt (M.1 105 0) ≤ 7 := zr_lt_l 7 c2_ b1_ (show 8 ≤ Int32.toInt (Int32.ofNat 8) ∧ Int32.toInt (Int32.ofNat 8) ≤ 8 from (by decide)) (by decide)
    refine pw_blk hT 1 (S' := (17, [some (pvR 105)], [pvI 0], M)) rfl ⟨trivial, trivial⟩ ?_
    exact pw_ret hT rfl (r := some (pvI 0)) (M' := M) ⟨Or.inl rfl, rfl, rfl⟩ ⟨(by rw [if_pos c2_]), rfl⟩
  · have b4_ : 8 ≤ Int32.toInt (M.1 105 0) ∧ Int32.toInt (M.1 105 0) ≤ 8 := zr_nlt_l 8 c2_ b1_ (show 8 ≤ Int32.toInt (Int32.ofNat 8) ∧ Int32.toInt (Int32.ofNat 8) ≤ 8 from (by decide)) (by decide)
    refine pw_blk hT 2 (S' := (17, [some (pvR 105)], [pvI 1], M)) rfl ⟨trivial, trivial, trivial⟩ ?_
    exact pw_ret hT rfl (r := some (pvI 1)) (M' := M) ⟨Or.inr rfl, rfl, rfl⟩ ⟨(by rw [if_neg c2_]), rfl⟩
def fpL_X6_append_105_x_x : List (Nat × Nat × Nat) := [(0, 105, 1), (0, 113, 0), (0, 121, 0)]
def fp_X6_append_105_x_x (q k : Nat) : Bool := pvfp fpL_X6_append_105_x_x q k
set_option maxHeartbeats 4000000 in
set_option maxRecDepth 10000 in
theorem sf_X6_append_105_x_x (M : pvM) (hok : pvOk M) (n1 : Int32) (n2 : Int32) (hn1 : 0 ≤ Int32.toInt n1 ∧ Int32.toInt n1 ≤ 6) (hn2 : 0 ≤ Int32.toInt n2 ∧ Int32.toInt n2 ≤ 9999) (d : Nat) : PW 151 d (0, [some (pvR 105), some (pvI n1), some (pvI n2)], [], M) (fun r X => (∃ x : Int32, r = some (pvI x) ∧ 1 ≤ Int32.toInt x ∧ Int32.toInt x ≤ 8) ∧ pvOk X ∧ pvFr fp_X6_append_105_x_x M X) := by
  have hT : pvdom 151 = pvD_151 := rfl
  refine pw_blk hT 1 (S' := (1, [some (pvR 105), some (pvI n1), some (pvI n2)], [pvR 105], M)) rfl ⟨trivial, trivial⟩ ?_
  refine pw_callT hT (as := [pvR 105]) (lo1 := [some (pvR 105)]) (d1 := d) (rest := []) rfl rfl rfl rfl rfl (fun _ => rfl) (Nat.zero_le _) rfl rfl rfl (sf_X6_isFull_105 M hok d) ?_
  have b6_ : 0 ≤ Int32.toInt (M.1 105 0) ∧ Int32.toInt (M.1 105 0) ≤ 8 := pvok_r hok 105 0 rfl
  by_cases c7_ : (M.1 105 0) < (Int32.ofNat 8)
  · refine pw_eqI (if_pos c7_) ?_
    have b8_ : 0 ≤ Int32.toInt (M.1 105 0) ∧ Int32.toInt (M.1 105 0) ≤ 7 := zr_lt_l 7 c7_ b6_ (show 8 ≤ Int32.toInt (Int32.ofNat 8) ∧ Int32.toInt (Int32.ofNat 8) ≤ 8 from (by decide)) (by decide)
    show PW 151 d (4, [some (pvR 105), some (pvI n1), some (pvI n2)], [pvI 0], M) _
    refine pw_if hT (c := 0 = 0) rfl rfl (fun c9_ => ?_) (fun c9_ => absurd (by decide) c9_)
    refine pw_blkw hT 6 (pc := 22) (lo := [some (pvR 105), some (pvI n1), some (pvI n2)]) (st := []) (M := pvu M 113 (Int32.toNatClampNeg (M.1 105 0)) n1) rfl ⟨trivial, rfl, trivial, rfl, trivial, ⟨rfl, (zr_in (n := 8) b8_ (by decide) (by decide))⟩, trivial⟩ (fun M10_ e11_ => ?_)
    have o12_ : pvOk M10_ := pvok_u2 e11_ hok rfl hn1
    have f13_ : pvFr fp_X6_append_105_x_x M M10_ := pvfr_u e11_ pvfr_0 rfl
    have e14_ : (M10_.1 105 0) = (M.1 105 0) := (pvu_n e11_ 105 0 (Or.inl (by decide)))
    have b15_ : 0 ≤ Int32.toInt (M10_.1 105 0) ∧ Int32.toInt (M10_.1 105 0) ≤ 7 := (by rw [e14_]; exact b8_)
    refine pw_blkw hT 6 (pc := 32) (lo := [some (pvR 105), some (pvI n1), some (pvI n2)]) (st := []) (M := pvu M10_ 121 (Int32.toNatClampNeg (M10_.1 105 0)) n2) rfl ⟨trivial, rfl, trivial, rfl, trivial, ⟨rfl, (zr_in (n := 8) b15_ (by decide) (by decide))⟩, trivial⟩ (fun M16_ e17_ => ?_)
    have o18_ : pvOk M16_ := pvok_u2 e17_ o12_ rfl hn2
    have f19_ : pvFr fp_X6_append_105_x_x M M16_ := pvfr_u e17_ f13_ rfl
    have e20_ : (M16_.1 105 0) = (M10_.1 105 0) := (pvu_n e17_ 105 0 (Or.inl (by decide)))
    have b21_ : 0 ≤ Int32.toInt (M16_.1 105 0) ∧ Int32.toInt (M16_.1 105 0) ≤ 7 := (by rw [e20_]; exact b15_)
    obtain ⟨q23_, b22_⟩ : (Int32.toInt ((M16_.1 105 0) + 1) = Int32.toInt (M16_.1 105 0) + 1) ∧ (1 ≤ Int32.toInt ((M16_.1 105 0) + 1) ∧ Int32.toInt ((M16_.1 105 0) + 1) ≤ 8) := zadd_k (M16_.1 105 0) 1 1 1 8 b21_ (by decide) (by decide) (by decide) (by decide) (by decide)
    refine pw_blkw hT 6 (pc := 42) (lo := [some (pvR 105), some (pvI n1), some (pvI n2)]) (st := []) (M := pvu M16_ 105 0 ((M16_.1 105 0) + 1)) rfl ⟨trivial, trivial, rfl, trivial, trivial, rfl, trivial⟩ (fun M24_ e25_ => ?_)
    have o26_ : pvOk M24_ := pvok_u2 e25_ o18_ rfl (zr_wide b22_ (by decide) (by decide))
    have f27_ : pvFr fp_X6_append_105_x_x M M24_ := pvfr_u e25_ f19_ rfl
    have e28_ : (M24_.1 105 0) = ((M16_.1 105 0) + 1) := (pvu_s e25_)
    have b29_ : 1 ≤ Int32.toInt (M24_.1 105 0) ∧ Int32.toInt (M24_.1 105 0) ≤ 8 := (by rw [e28_]; exact b22_)
    refine pw_blk hT 2 (S' := (46, [some (pvR 105), some (pvI n1), some (pvI n2)], [pvI (M24_.1 105 0)], M24_)) rfl ⟨trivial, rfl, trivial⟩ ?_
    exact pw_ret hT rfl (r := some (pvI (M24_.1 105 0))) (M' := M24_) ⟨rfl, rfl⟩ ⟨⟨_, rfl, b29_⟩, o26_, f27_⟩
  · refine pw_eqI (if_neg c7_) ?_
    have b30_ : 8 ≤ Int32.toInt (M.1 105 0) ∧ Int32.toInt (M.1 105 0) ≤ 8 := zr_nlt_l 8 c7_ b6_ (show 8 ≤ Int32.toInt (Int32.ofNat 8) ∧ Int32.toInt (Int32.ofNat 8) ≤ 8 from (by decide)) (by decide)
    show PW 151 d (4, [some (pvR 105), some (pvI n1), some (pvI n2)], [pvI 1], M) _
    refine pw_if hT (c := 1 = 0) rfl rfl (fun c31_ => absurd c31_ (by decide)) (fun c31_ => ?_)
    refine pw_blk hT 2 (S' := (11, [some (pvR 105), some (pvI n1), some (pvI n2)], [pvI (M.1 105 0)], M)) rfl ⟨trivial, rfl, trivial⟩ ?_
    exact pw_ret hT rfl (r := some (pvI (M.1 105 0))) (M' := M) ⟨rfl, rfl⟩ ⟨⟨_, rfl, (zr_wide b30_ (by decide) (by decide))⟩, hok, pvfr_0⟩
def fpL_X6_becomeAs_105_104 : List (Nat × Nat × Nat) := [(0, 105, 1), (0, 113, 0), (0, 121, 0)]
def fp_X6_becomeAs_105_104 (q k : Nat) : Bool := pvfp fpL_X6_becomeAs_105_104 q k
theorem fp_X6_becomeAs_105_104_fp_X6_append_105_x_x (a b : Nat) (h : fp_X6_append_105_x_x a b = true) : fp_X6_becomeAs_105_104 a b = true := pvfp_sub (l1 := fpL_X6_append_105_x_x) (l2 := fpL_X6_becomeAs_105_104) (by decide) a b h
theorem fp_X6_becomeAs_105_104_fp_X6_clear_105 (a b : Nat) (h : fp_X6_clear_105 a b = true) : fp_X6_becomeAs_105_104 a b = true := pvfp_sub (l1 := fpL_X6_clear_105) (l2 := fpL_X6_becomeAs_105_104) (by decide) a b h
set_option maxHeartbeats 4000000 in
set_option maxRecDepth 10000 in
theorem sf_X6_becomeAs_105_104 (M : pvM) (hok : pvOk M) (d : Nat) : PW 152 d (0, [some (pvR 105), some (pvR 104), none], [], M) (fun r X => r = none ∧ pvOk X ∧ pvFr fp_X6_becomeAs_105_104 M X) := by
  have hT : pvdom 152 = pvD_152 := rfl
  refine pw_blk hT 1 (S' := (1, [some (pvR 105), some (pvR 104), none], [pvR 105], M)) rfl ⟨trivial, trivial⟩ ?_
  refine pw_callG hT (as := [pvR 105]) (lo1 := [some (pvR 105)]) (d1 := d) (rest := []) rfl rfl rfl rfl rfl (fun _ => rfl) (Nat.zero_le _) rfl rfl rfl (sf_X6_clear_105 M hok d) (fun x1_ M2_ b3_ o4_ g5_ => ?_)
  have f6_ : pvFr fp_X6_becomeAs_105_104 M M2_ := pvfr_t g5_ pvfr_0 fp_X6_becomeAs_105_104_fp_X6_clear_105
  refine pw_blk hT 3 (S' := (7, [some (pvR 105), some (pvR 104), some (pvI 0)], [], M2_)) rfl ⟨trivial, trivial, trivial, trivial⟩ ?_
  have hlz75_ : ∀ (nz75_ : Nat) (i2z75_ : Int32) (Mz75_ : pvM), (pvOk Mz75_) → (pvFr fp_X6_becomeAs_105_104 M Mz75_) → (0 ≤ Int32.toInt i2z75_ ∧ Int32.toInt i2z75_ ≤ 8) → (zhide ((9 - Int32.toInt i2z75_).toNat < nz75_)) → PW 152 d (7, [some (pvR 105), some (pvR 104), some (pvI i2z75_)], [], Mz75_) (fun r X => r = none ∧ pvOk X ∧ pvFr fp_X6_becomeAs_105_104 M X) := by
    intro nz75_
    induction nz75_ with
    | zero => intro i2z75_ Mz75_ oz75_ fz75_ h2z75_ hmz75_; exact absurd (zshow hmz75_) (Nat.not_lt_zero _)
    | succ nz75_ ihz75_ =>
      intro i2z75_ Mz75_ oz75_ fz75_ h2z75_ hmz75_
      have b76_ : 0 ≤ Int32.toInt (Mz75_.1 104 0) ∧ Int32.toInt (Mz75_.1 104 0) ≤ 8 := pvok_r oz75_ 104 0 rfl
      refine pw_blk hT 3 (S' := (12, [some (pvR 105), some (pvR 104), some (pvI i2z75_)], [pvI (Mz75_.1 104 0), pvI i2z75_], Mz75_)) rfl ⟨trivial, trivial, rfl, trivial⟩ ?_
      refine pw_ic hT (c := (Mz75_.1 104 0) ≤ i2z75_) rfl rfl (fun c77_ => ?_) (fun c77_ => ?_)
      · have d78_ : Int32.toInt (Mz75_.1 104 0) ≤ Int32.toInt i2z75_ := (zi_le _ _).mp c77_
        exact pw_ret hT rfl (r := none) (M' := Mz75_) ⟨rfl, rfl⟩ ⟨rfl, oz75_, fz75_⟩
      · have b79_ : 1 ≤ Int32.toInt (Mz75_.1 104 0) ∧ Int32.toInt (Mz75_.1 104 0) ≤ 8 := zr_nle_l 1 c77_ b76_ h2z75_ (by decide)
        have b80_ : 0 ≤ Int32.toInt i2z75_ ∧ Int32.toInt i2z75_ ≤ 7 := zr_nle_r 7 c77_ h2z75_ b79_ (by decide)
        have d81_ : Int32.toInt (Mz75_.1 104 0) > Int32.toInt i2z75_ := Int.not_le.mp ((not_congr (zi_le _ _)).mp c77_)
        have b82_ : 0 ≤ Int32.toInt (Mz75_.1 112 (Int32.toNatClampNeg i2z75_)) ∧ Int32.toInt (Mz75_.1 112 (Int32.toNatClampNeg i2z75_)) ≤ 6 := pvok_r oz75_ 112 (Int32.toNatClampNeg i2z75_) rfl
        have b83_ : 0 ≤ Int32.toInt (Mz75_.1 120 (Int32.toNatClampNeg i2z75_)) ∧ Int32.toInt (Mz75_.1 120 (Int32.toNatClampNeg i2z75_)) ≤ 9999 := pvok_r oz75_ 120 (Int32.toNatClampNeg i2z75_) rfl
        refine pw_blk hT 9 (S' := (28, [some (pvR 105), some (pvR 104), some (pvI i2z75_)], [pvI (Mz75_.1 120 (Int32.toNatClampNeg i2z75_)), pvI (Mz75_.1 112 (Int32.toNatClampNeg i2z75_)), pvR 105], Mz75_)) rfl ⟨trivial, trivial, rfl, trivial, ⟨rfl, (zr_in (n := 8) b80_ (by decide) (by decide))⟩, trivial, rfl, trivial, ⟨rfl, (zr_in (n := 8) b80_ (by decide) (by decide))⟩, trivial⟩ ?_
        refine pw_callG hT (as := [pvR 105, pvI (Mz75_.1 112 (Int32.toNatClampNeg i2z75_)), pvI (Mz75_.1 120 (Int32.toNatClampNeg i2z75_))]) (lo1 := [some (pvR 105), some (pvI (Mz75_.1 112 (Int32.toNatClampNeg i2z75_))), some (pvI (Mz75_.1 120 (Int32.toNatClampNeg i2z75_)))]) (d1 := d) (rest := []) rfl rfl rfl rfl rfl (fun _ => rfl) (Nat.zero_le _) rfl rfl rfl (sf_X6_append_105_x_x Mz75_ oz75_ (Mz75_.1 112 (Int32.toNatClampNeg i2z75_)) (Mz75_.1 120 (Int32.toNatClampNeg i2z75_)) b82_ b83_ d) (fun x84_ M85_ b86_ o87_ g88_ => ?_)
        have f89_ : pvFr fp_X6_becomeAs_105_104 M M85_ := pvfr_t g88_ fz75_ fp_X6_becomeAs_105_104_fp_X6_append_105_x_x
        obtain ⟨q91_, b90_⟩ : (Int32.toInt (i2z75_ + 1) = Int32.toInt i2z75_ + 1) ∧ (1 ≤ Int32.toInt (i2z75_ + 1) ∧ Int32.toInt (i2z75_ + 1) ≤ 8) := zadd_k i2z75_ 1 1 1 8 b80_ (by decide) (by decide) (by decide) (by decide) (by decide)
        refine pw_blk hT 3 (S' := (7, [some (pvR 105), some (pvR 104), some (pvI (i2z75_ + 1))], [], M85_)) rfl ⟨trivial, trivial, trivial, trivial⟩ ?_
        exact ihz75_ (i2z75_ + 1) M85_ o87_ f89_ (zr_wide b90_ (by decide) (by decide)) (zhid (pvms_up (zshow hmz75_) h2z75_ q91_ (by decide) (by decide)))
  exact hlz75_ _ 0 M2_ o4_ f6_ (zr_wide (show 0 ≤ Int32.toInt 0 ∧ Int32.toInt 0 ≤ 0 from (by decide)) (by decide) (by decide)) (zhid (Nat.lt_succ_self _))
def fpL_X4_becomeNew_x_x_x_x_x_x : List (Nat × Nat × Nat) := [(1, 113, 0), (1, 3, 1), (1, 3, 2), (1, 3, 3), (1, 3, 4), (1, 3, 5), (1, 3, 6)]
def fp_X4_becomeNew_x_x_x_x_x_x (q k : Nat) : Bool := pvfp fpL_X4_becomeNew_x_x_x_x_x_x q k
set_option maxHeartbeats 4000000 in
set_option maxRecDepth 10000 in
theorem sf_X4_becomeNew_x_x_x_x_x_x (M : pvM) (hok : pvOk M) (q0 : Nat) (n1 : Int32) (n2 : Int32) (n3 : Int32) (n4 : Int32) (n5 : Int32) (hq0 : pvkl q0 = 3) (hn1 : 0 ≤ Int32.toInt n1 ∧ Int32.toInt n1 ≤ 6) (hn2 : 0 ≤ Int32.toInt n2 ∧ Int32.toInt n2 ≤ 9) (hn3 : 0 ≤ Int32.toInt n3 ∧ Int32.toInt n3 ≤ 3) (hn4 : 0 ≤ Int32.toInt n4 ∧ Int32.toInt n4 ≤ 4) (hn5 : 0 ≤ Int32.toInt n5 ∧ Int32.toInt n5 ≤ 9) (d : Nat) : PW 134 d (0, [some (pvR q0), some (pvI n1), some (pvI n2), some (pvI n3), some (pvI n4), some (pvI n5), none], [], M) (fun r X => r = none ∧ pvOk X ∧ pvFr fp_X4_becomeNew_x_x_x_x_x_x M X) := by
  have hT : pvdom 134 = pvD_134 := rfl
  refine pw_blkw hT 3 (pc := 5) (lo := [some (pvR q0), some (pvI n1), some (pvI n2), some (pvI n3), some (pvI n4), some (pvI n5), none]) (st := []) (M := pvu M q0 0 n1) rfl ⟨trivial, trivial, hq0, trivial⟩ (fun M1_ e2_ => ?_)
  have o3_ : pvOk M1_ := pvok_u2 e2_ hok ((pvrg_o 0 hq0 (by decide) (by decide)).trans rfl) hn1
  have f4_ : pvFr fp_X4_becomeNew_x_x_x_x_x_x M M1_ := pvfr_u e2_ pvfr_0 (pvfp_r (l := fpL_X4_becomeNew_x_x_x_x_x_x) (pvowr_3 hq0) (kk := 1) (by decide) (Or.inr rfl))
  refine pw_blkw hT 3 (pc := 10) (lo := [some (pvR q0), some (pvI n1), some (pvI n2), some (pvI n3), some (pvI n4), some (pvI n5), none]) (st := []) (M := pvu M1_ q0 1 n2) rfl ⟨trivial, trivial, hq0, trivial⟩ (fun M5_ e6_ => ?_)
  have o7_ : pvOk M5_ := pvok_u2 e6_ o3_ ((pvrg_o 1 hq0 (by decide) (by decide)).trans rfl) hn2
  have f8_ : pvFr fp_X4_becomeNew_x_x_x_x_x_x M M5_ := pvfr_u e6_ f4_ (pvfp_r (l := fpL_X4_becomeNew_x_x_x_x_x_x) (pvowr_3 hq0) (kk := 2) (by decide) (Or.inr rfl))
  refine pw_blkw hT 3 (pc := 15) (lo := [some (pvR q0), some (pvI n1), some (pvI n2), some (pvI n3), some (pvI n4), some (pvI n5), none]) (st := []) (M := pvu M5_ q0 2 n3) rfl ⟨trivial, trivial, hq0, trivial⟩ (fun M9_ e10_ => ?_)
  have o11_ : pvOk M9_ := pvok_u2 e10_ o7_ ((pvrg_o 2 hq0 (by decide) (by decide)).trans rfl) hn3
  have f12_ : pvFr fp_X4_becomeNew_x_x_x_x_x_x M M9_ := pvfr_u e10_ f8_ (pvfp_r (l := fpL_X4_becomeNew_x_x_x_x_x_x) (pvowr_3 hq0) (kk := 3) (by decide) (Or.inr rfl))
  refine pw_blkw hT 3 (pc := 21) (lo := [some (pvR q0), some (pvI n1), some (pvI n2), some (pvI n3), some (pvI n4), some (pvI n5), none]) (st := []) (M := pvu M9_ q0 3 n4) rfl ⟨trivial, trivial, hq0, trivial⟩ (fun M13_ e14_ => ?_)
  have o15_ : pvOk M13_ := pvok_u2 e14_ o11_ ((pvrg_o 3 hq0 (by decide) (by decide)).trans rfl) hn4
  have f16_ : pvFr fp_X4_becomeNew_x_x_x_x_x_x M M13_ := pvfr_u e14_ f12_ (pvfp_r (l := fpL_X4_becomeNew_x_x_x_x_x_x) (pvowr_3 hq0) (kk := 4) (by decide) (Or.inr rfl))
  refine pw_blkw hT 3 (pc := 27) (lo := [some (pvR q0), some (pvI n1), some (pvI n2), some (pvI n3), some (pvI n4), some (pvI n5), none]) (st := []) (M := pvu M13_ q0 4 n5) rfl ⟨trivial, trivial, hq0, trivial⟩ (fun M17_ e18_ => ?_)
  have o19_ : pvOk M17_ := pvok_u2 e18_ o15_ ((pvrg_o 4 hq0 (by decide) (by decide)).trans rfl) hn5
  have f20_ : pvFr fp_X4_becomeNew_x_x_x_x_x_x M M17_ := pvfr_u e18_ f16_ (pvfp_r (l := fpL_X4_becomeNew_x_x_x_x_x_x) (pvowr_3 hq0) (kk := 5) (by decide) (Or.inr rfl))
  refine pw_blkw hT 3 (pc := 32) (lo := [some (pvR q0), some (pvI n1), some (pvI n2), some (pvI n3), some (pvI n4), some (pvI n5), none]) (st := []) (M := pvu M17_ q0 5 0) rfl ⟨trivial, trivial, ⟨hq0, Or.inl rfl⟩, trivial⟩ (fun M21_ e22_ => ?_)
  have o23_ : pvOk M21_ := pvok_u2 e22_ o19_ ((pvrg_o 5 hq0 (by decide) (by decide)).trans rfl) (zr_wide (show 0 ≤ Int32.toInt 0 ∧ Int32.toInt 0 ≤ 0 from (by decide)) (by decide) (by decide))
  have f24_ : pvFr fp_X4_becomeNew_x_x_x_x_x_x M M21_ := pvfr_u e22_ f20_ (pvfp_r (l := fpL_X4_becomeNew_x_x_x_x_x_x) (pvowr_3 hq0) (kk := 6) (by decide) (Or.inr rfl))
  refine pw_blk hT 2 (S' := (35, [some (pvR q0), some (pvI n1), some (pvI n2), some (pvI n3), some (pvI n4), some (pvI n5), some (pvI 0)], [], M21_)) rfl ⟨trivial, trivial, trivial⟩ ?_
  have hlz63_ : ∀ (nz63_ : Nat) (i6z63_ : Int32) (Mz63_ : pvM), (pvOk Mz63_) → (pvFr fp_X4_becomeNew_x_x_x_x_x_x M Mz63_) → (0 ≤ Int32.toInt i6z63_ ∧ Int32.toInt i6z63_ ≤ 4) → (zhide ((5 - Int32.toInt i6z63_).toNat < nz63_)) → PW 134 d (35, [some (pvR q0), some (pvI n1), some (pvI n2), some (pvI n3), some (pvI n4), some (pvI n5), some (pvI i6z63_)], [], Mz63_) (fun r X => r = none ∧ pvOk X ∧ pvFr fp_X4_becomeNew_x_x_x_x_x_x M X) := by
    intro nz63_
    induction nz63_ with
    | zero => intro i6z63_ Mz63_ oz63_ fz63_ h6z63_ hmz63_; exact absurd (zshow hmz63_) (Nat.not_lt_zero _)
    | succ nz63_ ihz63_ =>
      intro i6z63_ Mz63_ oz63_ fz63_ h6z63_ hmz63_
      refine pw_blk hT 2 (S' := (38, [some (pvR q0), some (pvI n1), some (pvI n2), some (pvI n3), some (pvI n4), some (pvI n5), some (pvI i6z63_)], [pvI 4, pvI i6z63_], Mz63_)) rfl ⟨trivial, trivial, trivial⟩ ?_
      refine pw_ic hT (c := 4 ≤ i6z63_) rfl rfl (fun c64_ => ?_) (fun c64_ => ?_)
      · have b65_ : 4 ≤ Int32.toInt i6z63_ ∧ Int32.toInt i6z63_ ≤ 4 := zr_le_r 4 c64_ h6z63_ (show 4 ≤ Int32.toInt 4 ∧ Int32.toInt 4 ≤ 4 from (by decide)) (by decide)
        exact pw_ret hT rfl (r := none) (M' := Mz63_) ⟨rfl, rfl⟩ ⟨rfl, oz63_, fz63_⟩
      · have b66_ : 0 ≤ Int32.toInt i6z63_ ∧ Int32.toInt i6z63_ ≤ 3 := zr_nle_r 3 c64_ h6z63_ (show 4 ≤ Int32.toInt 4 ∧ Int32.toInt 4 ≤ 4 from (by decide)) (by decide)
        refine pw_blkw hT 5 (pc := 49) (lo := [some (pvR q0), some (pvI n1), some (pvI n2), some (pvI n3), some (pvI n4), some (pvI n5), some (pvI i6z63_)]) (st := []) (M := pvu Mz63_ (q0 + 7) (Int32.toNatClampNeg i6z63_) 0) rfl ⟨trivial, hq0, trivial, trivial, ⟨(pvow_3_7 hq0).1, (by rw [(pvow_3_7 hq0).2.1]; exact (zr_in (n := 4) b66_ (by decide) (by decide)))⟩, trivial⟩ (fun M67_ e68_ => ?_)
        have o69_ : pvOk M67_ := pvok_u2 e68_ oz63_ ((pvrg_a _ (by rw [(pvow_3_7 hq0).1]; decide)).trans (pvow_3_7 hq0).2.2.2) (zr_wide (show 0 ≤ Int32.toInt 0 ∧ Int32.toInt 0 ≤ 0 from (by decide)) (by decide) (by decide))
        have f70_ : pvFr fp_X4_becomeNew_x_x_x_x_x_x M M67_ := pvfr_u e68_ fz63_ (pvfp_r (l := fpL_X4_becomeNew_x_x_x_x_x_x) (pvow_3_7 hq0).2.2.1 (kk := 0) (by decide) (Or.inl rfl))
        obtain ⟨q72_, b71_⟩ : (Int32.toInt (i6z63_ + 1) = Int32.toInt i6z63_ + 1) ∧ (1 ≤ Int32.toInt (i6z63_ + 1) ∧ Int32.toInt (i6z63_ + 1) ≤ 4) := zadd_k i6z63_ 1 1 1 4 b66_ (by decide) (by decide) (by decide) (by decide) (by decide)
        refine pw_blk hT 2 (S' := (35, [some (pvR q0), some (pvI n1), some (pvI n2), some (pvI n3), some (pvI n4), some (pvI n5), some (pvI (i6z63_ + 1))], [], M67_)) rfl ⟨trivial, trivial, trivial⟩ ?_
        exact ihz63_ (i6z63_ + 1) M67_ o69_ f70_ (zr_wide b71_ (by decide) (by decide)) (zhid (pvms_up (zshow hmz63_) h6z63_ q72_ (by decide) (by decide)))
  exact hlz63_ _ 0 M21_ o23_ f24_ (zr_wide (show 0 ≤ Int32.toInt 0 ∧ Int32.toInt 0 ≤ 0 from (by decide)) (by decide) (by decide)) (zhid (Nat.lt_succ_self _))
def fpL_X4_becomeAs_x_x : List (Nat × Nat × Nat) := [(1, 113, 0), (1, 3, 1), (1, 3, 2), (1, 3, 3), (1, 3, 4), (1, 3, 5), (1, 3, 6)]
def fp_X4_becomeAs_x_x (q k : Nat) : Bool := pvfp fpL_X4_becomeAs_x_x q k
theorem fp_X4_becomeAs_x_x_fp_X4_becomeNew_x_x_x_x_x_x (a b : Nat) (h : fp_X4_becomeNew_x_x_x_x_x_x a b = true) : fp_X4_becomeAs_x_x a b = true := pvfp_sub (l1 := fpL_X4_becomeNew_x_x_x_x_x_x) (l2 := fpL_X4_becomeAs_x_x) (by decide) a b h
set_option maxHeartbeats 4000000 in
set_option maxRecDepth 10000 in
theorem sf_X4_becomeAs_x_x (M : pvM) (hok : pvOk M) (q0 : Nat) (q1 : Nat) (hq0 : pvkl q0 = 3) (hq1 : pvkl q1 = 3) (d : Nat) : PW 133 d (0, [some (pvR q0), some (pvR q1)], [], M) (fun r X => r = none ∧ pvOk X ∧ pvFr fp_X4_becomeAs_x_x M X) := by
  have hT : pvdom 133 = pvD_133 := rfl
  have b1_ : 0 ≤ Int32.toInt (M.1 q1 0) ∧ Int32.toInt (M.1 q1 0) ≤ 6 := pvok_r hok q1 0 ((pvrg_o 0 hq1 (by decide) (by decide)).trans rfl)
  have b2_ : 0 ≤ Int32.toInt (M.1 q1 1) ∧ Int32.toInt (M.1 q1 1) ≤ 9 := pvok_r hok q1 1 ((pvrg_o 1 hq1 (by decide) (by decide)).trans rfl)
  have b3_ : 0 ≤ Int32.toInt (M.1 q1 2) ∧ Int32.toInt (M.1 q1 2) ≤ 3 := pvok_r hok q1 2 ((pvrg_o 2 hq1 (by decide) (by decide)).trans rfl)
  have b4_ : 0 ≤ Int32.toInt (M.1 q1 3) ∧ Int32.toInt (M.1 q1 3) ≤ 4 := pvok_r hok q1 3 ((pvrg_o 3 hq1 (by decide) (by decide)).trans rfl)
  have b5_ : 0 ≤ Int32.toInt (M.1 q1 4) ∧ Int32.toInt (M.1 q1 4) ≤ 9 := pvok_r hok q1 4 ((pvrg_o 4 hq1 (by decide) (by decide)).trans rfl)
  refine pw_blk hT 11 (S' := (21, [some (pvR q0), some (pvR q1)], [pvI (M.1 q1 4), pvI (M.1 q1 3), pvI (M.1 q1 2), pvI (M.1 q1 1), pvI (M.1 q1 0), pvR q0], M)) rfl ⟨trivial, trivial, hq1, trivial, hq1, trivial, hq1, trivial, hq1, trivial, hq1, trivial⟩ ?_
  refine pw_callV hT (as := [pvR q0, pvI (M.1 q1 0), pvI (M.1 q1 1), pvI (M.1 q1 2), pvI (M.1 q1 3), pvI (M.1 q1 4)]) (lo1 := [some (pvR q0), some (pvI (M.1 q1 0)), some (pvI (M.1 q1 1)), some (pvI (M.1 q1 2)), some (pvI (M.1 q1 3)), some (pvI (M.1 q1 4)), none]) (d1 := d) (rest := []) rfl rfl rfl rfl rfl (fun _ => hq0) (Nat.zero_le _) rfl rfl rfl (sf_X4_becomeNew_x_x_x_x_x_x M hok q0 (M.1 q1 0) (M.1 q1 1) (M.1 q1 2) (M.1 q1 3) (M.1 q1 4) hq0 b1_ b2_ b3_ b4_ b5_ d) (fun M7_ o9_ g10_ => ?_)
  have f11_ : pvFr fp_X4_becomeAs_x_x M M7_ := pvfr_t g10_ pvfr_0 fp_X4_becomeAs_x_x_fp_X4_becomeNew_x_x_x_x_x_x
  have b12_ : 0 ≤ Int32.toInt (M7_.1 q1 5) ∧ Int32.toInt (M7_.1 q1 5) ≤ 1 := pvok_r o9_ q1 5 ((pvrg_o 5 hq1 (by decide) (by decide)).trans rfl)
  refine pw_blkw hT 4 (pc := 32) (lo := [some (pvR q0), some (pvR q1)]) (st := []) (M := pvu M7_ q0 5 (M7_.1 q1 5)) rfl ⟨trivial, trivial, hq1, ⟨hq0, pv01 b12_⟩, trivial⟩ (fun M13_ e14_ => ?_)
  have o15_ : pvOk M13_ := pvok_u2 e14_ o9_ ((pvrg_o 5 hq0 (by decide) (by decide)).trans rfl) b12_
  have f16_ : pvFr fp_X4_becomeAs_x_x M M13_ := pvfr_u e14_ f11_ (pvfp_r (l := fpL_X4_becomeAs_x_x) (pvowr_3 hq0) (kk := 6) (by decide) (Or.inr rfl))
  refine pw_blkw hT 8 (pc := 46) (lo := [some (pvR q0), some (pvR q1)]) (st := []) (M := pvr M13_ (q0 + 7) (va_cpy (M13_.1 (q1 + 7)) (M13_.1 (q0 + 7)) (Int32.toNatClampNeg 0) (Int32.toNatClampNeg 0) (Int32.toNatClampNeg 4))) rfl ⟨trivial, hq1, trivial, trivial, hq0, trivial, trivial, ⟨(pvow_3_7 hq1).1, (pvow_3_7 hq0).1, (pvnneg (b := 0) (show 0 ≤ Int32.toInt 0 ∧ Int32.toInt 0 ≤ 0 from (by decide))), (pvnneg (b := 0) (show 0 ≤ Int32.toInt 0 ∧ Int32.toInt 0 ≤ 0 from (by decide))), (pvnneg (b := 4) (zr_wide (show 4 ≤ Int32.toInt 4 ∧ Int32.toInt 4 ≤ 4 from (by decide)) (by decide) (by decide))), (by have u0 := (show 0 ≤ Int32.toInt 0 ∧ Int32.toInt 0 ≤ 0 from (by decide)); have u1 := (show 4 ≤ Int32.toInt 4 ∧ Int32.toInt 4 ≤ 4 from (by decide)); have u2 := ztn 0 (by omega); have u3 := ztn 4 (by omega); rw [(pvow_3_7 hq1).2.1]; omega), (by have u0 := (show 0 ≤ Int32.toInt 0 ∧ Int32.toInt 0 ≤ 0 from (by decide)); have u1 := (show 4 ≤ Int32.toInt 4 ∧ Int32.toInt 4 ≤ 4 from (by decide)); have u2 := ztn 0 (by omega); have u3 := ztn 4 (by omega); rw [(pvow_3_7 hq0).2.1]; omega), Nat.le_of_ble_eq_true rfl⟩, trivial⟩ (fun M17_ e18_ => ?_)
  have o19_ : pvOk M17_ := pvok_rr e18_ o15_ (fun _ => ((pvrg_a _ (by rw [(pvow_3_7 hq0).1]; decide)).trans (pvow_3_7 hq0).2.2.2)) (pvcpy_r (fun k => pvok_r o15_ (q1 + 7) k ((pvrg_a _ (by rw [(pvow_3_7 hq1).1]; decide)).trans (pvow_3_7 hq1).2.2.2)) (fun k => pvok_r o15_ (q0 + 7) k ((pvrg_a _ (by rw [(pvow_3_7 hq0).1]; decide)).trans (pvow_3_7 hq0).2.2.2)))
  have f20_ : pvFr fp_X4_becomeAs_x_x M M17_ := pvfr_rr e18_ f16_ (fun _ => (pvfp_r (l := fpL_X4_becomeAs_x_x) (pvow_3_7 hq0).2.2.1 (kk := 0) (by decide) (Or.inl rfl)))
  exact pw_ret hT rfl (r := none) (M' := M17_) ⟨rfl, rfl⟩ ⟨rfl, o19_, f20_⟩
