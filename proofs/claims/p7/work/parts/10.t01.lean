set_option maxHeartbeats 4000000 in
set_option maxRecDepth 10000 in
theorem sf_X10_lastNow_124 (M : pvM) (hok : pvOk M) (d : Nat) : PW 45 d (0, [some (pvR 124)], [], M) (fun r X => (∃ x : Int32, r = some (pvI x) ∧ 0 ≤ Int32.toInt x ∧ Int32.toInt x ≤ 99) ∧ X = M) := by
  have hT : pvdom 45 = pvD_45 := rfl
  refine pw_blk hT 3 (S' := (4, [some (pvR 124)], [pvI 15, pvI 3, pvR 124], M)) rfl ⟨trivial, trivial, trivial, trivial⟩ ?_
  refine pw_callGp hT (as := [pvR 124, pvI 3, pvI 15]) (lo1 := [some (pvR 124), some (pvI 3), some (pvI 15), none, none]) (d1 := d) (rest := []) rfl rfl rfl rfl rfl (fun _ => rfl) (Nat.zero_le _) rfl rfl rfl (sf_X10_lastOf_124_x_x M hok 3 15 (zr_wide (show 3 ≤ Int32.toInt 3 ∧ Int32.toInt 3 ≤ 3 from (by decide)) (by decide) (by decide)) (zr_wide (show 15 ≤ Int32.toInt 15 ∧ Int32.toInt 15 ≤ 15 from (by decide)) (by decide) (by decide)) d) (fun x1_ b3_ => ?_)
  exact pw_ret hT rfl (r := some (pvI x1_)) (M' := M) ⟨rfl, rfl⟩ ⟨⟨_, rfl, b3_⟩, rfl⟩
def fpL_X10_holds_124_x_x : List (Nat × Nat × Nat) := [(0, 141, 0)]
def fp_X10_holds_124_x_x (q k : Nat) : Bool := pvfp fpL_X10_holds_124_x_x q k
theorem sf_X10_holds_124_x_x (M : pvM) (hok : pvOk M) (n1 : Int32) (n2 : Int32) (h1 : 0 ≤ Int32.toInt n1 ∧ Int32.toInt n1 ≤ 59) (h2 : 0 ≤ Int32.toInt n2 ∧ Int32.toInt n2 ≤ 6) (d : Nat) : PW 33 d (0, [some (pvR 124), some (pvI n1), some (pvI n2), none, none, none, none, none], [], M) (fun r X => (∃ x : Int32, r = some (pvI x) ∧ 0 ≤ Int32.toInt x ∧ Int32.toInt x ≤ 1) ∧ pvOk X ∧ pvFr fp_X10_holds_124_x_x M X) := sorry
def fpL_X10_rainOf_124_x : List (Nat × Nat × Nat) := [(0, 141, 0)]
def fp_X10_rainOf_124_x (q k : Nat) : Bool := pvfp fpL_X10_rainOf_124_x q k
theorem fp_X10_rainOf_124_x_fp_X10_holds_124_x_x (a b : Nat) (h : fp_X10_holds_124_x_x a b = true) : fp_X10_rainOf_124_x a b = true := pvfp_sub (l1 := fpL_X10_holds_124_x_x) (l2 := fpL_X10_rainOf_124_x) (by decide) a b h
set_option maxHeartbeats 4000000 in
set_option maxRecDepth 10000 in
theorem sf_X10_rainOf_124_x (M : pvM) (hok : pvOk M) (n1 : Int32) (hn1 : 0 ≤ Int32.toInt n1 ∧ Int32.toInt n1 ≤ 6) (d : Nat) : PW 67 d (0, [some (pvR 124), some (pvI n1), none, none], [], M) (fun r X => (∃ x : Int32, r = some (pvI x) ∧ 0 ≤ Int32.toInt x ∧ Int32.toInt x ≤ 6000) ∧ pvOk X ∧ pvFr fp_X10_rainOf_124_x M X) := by
  have hT : pvdom 67 = pvD_67 := rfl
  refine pw_blk hT 3 (S' := (3, [some (pvR 124), some (pvI n1), some (pvI 3), none], [pvR 124], M)) rfl ⟨trivial, trivial, trivial, trivial⟩ ?_
  refine pw_callT hT (as := [pvR 124]) (lo1 := [some (pvR 124)]) (d1 := d) (rest := []) rfl rfl rfl rfl rfl (fun _ => rfl) (Nat.zero_le _) rfl rfl rfl (sf_X10_firstClause_124 M hok d) ?_
  have b6_ : (-1) ≤ Int32.toInt (M.1 124 15) ∧ Int32.toInt (M.1 124 15) ≤ 5 := pvok_r hok 124 15 rfl
  by_cases c7_ : 0 ≤ (M.1 124 15)
  · refine pw_eqI (if_pos c7_) ?_
    have b8_ : 0 ≤ Int32.toInt (M.1 124 15) ∧ Int32.toInt (M.1 124 15) ≤ 5 := zr_le_r 0 c7_ b6_ (show 0 ≤ Int32.toInt 0 ∧ Int32.toInt 0 ≤ 0 from (by decide)) (by decide)
    have q9_ : Int32.toInt (10 * (M.1 124 15)) = 10 * Int32.toInt (M.1 124 15) := by have u0 : Int32.toInt 10 = 10 := (by decide); have u1 := b8_; have u2 := zmul 10 (M.1 124 15) (by rw [u0]; omega) (by rw [u0]; omega); rw [u0] at u2; omega
    have b10_ : 0 ≤ Int32.toInt (10 * (M.1 124 15)) ∧ Int32.toInt (10 * (M.1 124 15)) ≤ 50 := (by have u1 := b8_; omega)
    show PW 67 d (6, [some (pvR 124), some (pvI n1), some (pvI 3), none], [pvI (10 * (M.1 124 15))], M) _
    refine pw_blk hT 1 (S' := (7, [some (pvR 124), some (pvI n1), some (pvI 3), some (pvI (10 * (M.1 124 15)))], [], M)) rfl ⟨trivial, trivial⟩ ?_
    have hlz227_ : ∀ (nz227_ : Nat) (i2z227_ : Int32) (i3z227_ : Int32) (Mz227_ : pvM), (pvOk Mz227_) → (pvFr fp_X10_rainOf_124_x M Mz227_) → (Mz227_.1 124 15 = M.1 124 15) → ((-6000) ≤ Int32.toInt i2z227_ ∧ Int32.toInt i2z227_ ≤ 6000) → (0 ≤ Int32.toInt i3z227_ ∧ Int32.toInt i3z227_ ≤ 60) → (Int32.toInt i2z227_ ≤ 3 + 99 * Int32.toInt i3z227_) → (-(99 * Int32.toInt i3z227_) ≤ Int32.toInt i2z227_) → ((61 - Int32.toInt i3z227_).toNat < nz227_) → PW 67 d (7, [some (pvR 124), some (pvI n1), some (pvI i2z227_), some (pvI i3z227_)], [], Mz227_) (fun r X => (∃ x : Int32, r = some (pvI x) ∧ 0 ≤ Int32.toInt x ∧ Int32.toInt x ≤ 6000) ∧ pvOk X ∧ pvFr fp_X10_rainOf_124_x M X) := by
      intro nz227_
      induction nz227_ with
      | zero => intro i2z227_ i3z227_ Mz227_ oz227_ fz227_ k124_15z227_ h2z227_ h3z227_ j0z227_ j1z227_ hmz227_; exact absurd hmz227_ (Nat.not_lt_zero _)
      | succ nz227_ ihz227_ =>
        intro i2z227_ i3z227_ Mz227_ oz227_ fz227_ k124_15z227_ h2z227_ h3z227_ j0z227_ j1z227_ hmz227_
        refine pw_blk hT 2 (S' := (9, [some (pvR 124), some (pvI n1), some (pvI i2z227_), some (pvI i3z227_)], [pvR 124, pvI i3z227_], Mz227_)) rfl ⟨trivial, trivial, trivial⟩ ?_
        refine pw_callT hT (as := [pvR 124]) (lo1 := [some (pvR 124)]) (d1 := d) (rest := [pvI i3z227_]) rfl rfl rfl rfl rfl (fun _ => rfl) (Nat.zero_le _) rfl rfl rfl (sf_X10_behindClauses_124 Mz227_ oz227_ d) ?_
        have e233_ : (Mz227_.1 124 15) = (M.1 124 15) := (k124_15z227_)
        have b234_ : 0 ≤ Int32.toInt (Mz227_.1 124 15) ∧ Int32.toInt (Mz227_.1 124 15) ≤ 5 := (by rw [e233_]; exact b8_)
        refine pw_eqI (if_pos (by have z0 := (show 0 ≤ Int32.toInt 0 ∧ Int32.toInt 0 ≤ 0 from (by decide)); have z1 := b234_; rw [zi_le]; omega)) ?_
        have q235_ : Int32.toInt (10 * (Mz227_.1 124 15)) = 10 * Int32.toInt (Mz227_.1 124 15) := by have u0 : Int32.toInt 10 = 10 := (by decide); have u1 := b234_; have u2 := zmul 10 (Mz227_.1 124 15) (by rw [u0]; omega) (by rw [u0]; omega); rw [u0] at u2; omega
        have b236_ : 0 ≤ Int32.toInt (10 * (Mz227_.1 124 15)) ∧ Int32.toInt (10 * (Mz227_.1 124 15)) ≤ 50 := (by have u1 := b234_; omega)
        have b237_ : 0 ≤ Int32.toInt (Mz227_.1 133 (Int32.toNatClampNeg (Mz227_.1 124 15))) ∧ Int32.toInt (Mz227_.1 133 (Int32.toNatClampNeg (Mz227_.1 124 15))) ≤ 10 := pvok_r oz227_ 133 (Int32.toNatClampNeg (Mz227_.1 124 15)) rfl
        obtain ⟨q239_, b238_⟩ : (Int32.toInt ((10 * (Mz227_.1 124 15)) + (Mz227_.1 133 (Int32.toNatClampNeg (Mz227_.1 124 15)))) = Int32.toInt (10 * (Mz227_.1 124 15)) + Int32.toInt (Mz227_.1 133 (Int32.toNatClampNeg (Mz227_.1 124 15)))) ∧ (0 ≤ Int32.toInt ((10 * (Mz227_.1 124 15)) + (Mz227_.1 133 (Int32.toNatClampNeg (Mz227_.1 124 15)))) ∧ Int32.toInt ((10 * (Mz227_.1 124 15)) + (Mz227_.1 133 (Int32.toNatClampNeg (Mz227_.1 124 15)))) ≤ 60) := zadd_r (10 * (Mz227_.1 124 15)) (Mz227_.1 133 (Int32.toNatClampNeg (Mz227_.1 124 15))) 0 60 b236_ b237_ (by decide) (by decide) (by decide) (by decide)
        show PW 67 d (12, [some (pvR 124), some (pvI n1), some (pvI i2z227_), some (pvI i3z227_)], [pvI ((10 * (Mz227_.1 124 15)) + (Mz227_.1 133 (Int32.toNatClampNeg (Mz227_.1 124 15)))), pvI i3z227_], Mz227_) _
        refine pw_ic hT (c := ((10 * (Mz227_.1 124 15)) + (Mz227_.1 133 (Int32.toNatClampNeg (Mz227_.1 124 15)))) ≤ i3z227_) rfl rfl (fun c240_ => ?_) (fun c240_ => ?_)
        · have d241_ : Int32.toInt ((10 * (Mz227_.1 124 15)) + (Mz227_.1 133 (Int32.toNatClampNeg (Mz227_.1 124 15)))) ≤ Int32.toInt i3z227_ := (zi_le _ _).mp c240_
          refine pw_blk hT 1 (S' := (72, [some (pvR 124), some (pvI n1), some (pvI i2z227_), some (pvI i3z227_)], [pvI i2z227_], Mz227_)) rfl ⟨trivial, trivial⟩ ?_
          refine pw_if hT (c := 0 ≤ i2z227_) rfl rfl (fun c242_ => ?_) (fun c242_ => ?_)
          · have b243_ : 0 ≤ Int32.toInt i2z227_ ∧ Int32.toInt i2z227_ ≤ 6000 := zr_le_r 0 c242_ h2z227_ (show 0 ≤ Int32.toInt 0 ∧ Int32.toInt 0 ≤ 0 from (by decide)) (by decide)
            refine pw_blk hT 1 (S' := (80, [some (pvR 124), some (pvI n1), some (pvI i2z227_), some (pvI i3z227_)], [pvI i2z227_], Mz227_)) rfl ⟨trivial, trivial⟩ ?_
            exact pw_ret hT rfl (r := some (pvI i2z227_)) (M' := Mz227_) ⟨rfl, rfl⟩ ⟨⟨_, rfl, b243_⟩, oz227_, fz227_⟩
          · have b244_ : (-6000) ≤ Int32.toInt i2z227_ ∧ Int32.toInt i2z227_ ≤ (-1) := zr_nle_r (-1) c242_ h2z227_ (show 0 ≤ Int32.toInt 0 ∧ Int32.toInt 0 ≤ 0 from (by decide)) (by decide)
            refine pw_blk hT 2 (S' := (80, [some (pvR 124), some (pvI n1), some (pvI i2z227_), some (pvI i3z227_)], [pvI 0], Mz227_)) rfl ⟨trivial, trivial, trivial⟩ ?_
            exact pw_ret hT rfl (r := some (pvI 0)) (M' := Mz227_) ⟨rfl, rfl⟩ ⟨⟨_, rfl, (zr_wide (show 0 ≤ Int32.toInt 0 ∧ Int32.toInt 0 ≤ 0 from (by decide)) (by decide) (by decide))⟩, oz227_, fz227_⟩
        · have b245_ : 1 ≤ Int32.toInt ((10 * (Mz227_.1 124 15)) + (Mz227_.1 133 (Int32.toNatClampNeg (Mz227_.1 124 15)))) ∧ Int32.toInt ((10 * (Mz227_.1 124 15)) + (Mz227_.1 133 (Int32.toNatClampNeg (Mz227_.1 124 15)))) ≤ 60 := zr_nle_l 1 c240_ b238_ h3z227_ (by decide)
          have b246_ : 0 ≤ Int32.toInt i3z227_ ∧ Int32.toInt i3z227_ ≤ 59 := zr_nle_r 59 c240_ h3z227_ b245_ (by decide)
          have d247_ : Int32.toInt ((10 * (Mz227_.1 124 15)) + (Mz227_.1 133 (Int32.toNatClampNeg (Mz227_.1 124 15)))) > Int32.toInt i3z227_ := Int.not_le.mp ((not_congr (zi_le _ _)).mp c240_)
          have b248_ : 0 ≤ Int32.toInt (Mz227_.1 134 (Int32.toNatClampNeg i3z227_)) ∧ Int32.toInt (Mz227_.1 134 (Int32.toNatClampNeg i3z227_)) ≤ 3 := pvok_r oz227_ 134 (Int32.toNatClampNeg i3z227_) rfl
          refine pw_blk hT 5 (S' := (22, [some (pvR 124), some (pvI n1), some (pvI i2z227_), some (pvI i3z227_)], [pvI 2, pvI (Mz227_.1 134 (Int32.toNatClampNeg i3z227_))], Mz227_)) rfl ⟨trivial, rfl, trivial, ⟨rfl, (zr_in (n := 60) b246_ (by decide) (by decide))⟩, trivial, trivial⟩ ?_
          refine pw_ic hT (c := 2 ≤ (Mz227_.1 134 (Int32.toNatClampNeg i3z227_))) rfl rfl (fun c249_ => ?_) (fun c249_ => ?_)
          · have b250_ : 2 ≤ Int32.toInt (Mz227_.1 134 (Int32.toNatClampNeg i3z227_)) ∧ Int32.toInt (Mz227_.1 134 (Int32.toNatClampNeg i3z227_)) ≤ 3 := zr_le_r 2 c249_ b248_ (show 2 ≤ Int32.toInt 2 ∧ Int32.toInt 2 ≤ 2 from (by decide)) (by decide)
            obtain ⟨q252_, b251_⟩ : (Int32.toInt (i3z227_ + 1) = Int32.toInt i3z227_ + Int32.toInt 1) ∧ (1 ≤ Int32.toInt (i3z227_ + 1) ∧ Int32.toInt (i3z227_ + 1) ≤ 60) := zadd_r i3z227_ 1 1 60 b246_ (show 1 ≤ Int32.toInt 1 ∧ Int32.toInt 1 ≤ 1 from (by decide)) (by decide) (by decide) (by decide) (by decide)
            have u253_ : Int32.toInt 1 = 1 := by decide
            refine pw_blk hT 2 (S' := (7, [some (pvR 124), some (pvI n1), some (pvI i2z227_), some (pvI (i3z227_ + 1))], [], Mz227_)) rfl ⟨trivial, trivial, trivial⟩ ?_
            have j254_ : Int32.toInt i2z227_ ≤ 3 + 99 * Int32.toInt (i3z227_ + 1) := by omega
            have j255_ : -(99 * Int32.toInt (i3z227_ + 1)) ≤ Int32.toInt i2z227_ := by omega
            exact ihz227_ i2z227_ (i3z227_ + 1) Mz227_ oz227_ fz227_ (k124_15z227_) h2z227_ (zr_wide b251_ (by decide) (by decide)) j254_ j255_ (by omega)
          · have b256_ : 0 ≤ Int32.toInt (Mz227_.1 134 (Int32.toNatClampNeg i3z227_)) ∧ Int32.toInt (Mz227_.1 134 (Int32.toNatClampNeg i3z227_)) ≤ 1 := zr_nle_r 1 c249_ b248_ (show 2 ≤ Int32.toInt 2 ∧ Int32.toInt 2 ≤ 2 from (by decide)) (by decide)
            refine pw_blk hT 3 (S' := (28, [some (pvR 124), some (pvI n1), some (pvI i2z227_), some (pvI i3z227_)], [pvI n1, pvI i3z227_, pvR 124], Mz227_)) rfl ⟨trivial, trivial, trivial, trivial⟩ ?_
            refine pw_callG hT (as := [pvR 124, pvI i3z227_, pvI n1]) (lo1 := [some (pvR 124), some (pvI i3z227_), some (pvI n1), none, none, none, none, none]) (d1 := d) (rest := []) rfl rfl rfl rfl rfl (fun _ => rfl) (Nat.zero_le _) rfl rfl rfl (sf_X10_holds_124_x_x Mz227_ oz227_ i3z227_ n1 (show 0 ≤ Int32.toInt i3z227_ ∧ Int32.toInt i3z227_ ≤ 59 from (by omega)) (show 0 ≤ Int32.toInt n1 ∧ Int32.toInt n1 ≤ 6 from (by omega)) d) (fun x257_ M258_ b259_ o260_ g261_ => ?_)
            have f262_ : pvFr fp_X10_rainOf_124_x M M258_ := pvfr_t g261_ fz227_ fp_X10_rainOf_124_x_fp_X10_holds_124_x_x
            refine pw_ifn hT (c := x257_ = 0) rfl rfl (fun c263_ => ?_) (fun c263_ => ?_)
            · have b264_ : 1 ≤ Int32.toInt x257_ ∧ Int32.toInt x257_ ≤ 1 := (by have u0 := b259_; have u1 := (not_congr (zi_eq _ _)).mp c263_; have u2 := (show 0 ≤ Int32.toInt 0 ∧ Int32.toInt 0 ≤ 0 from (by decide)); omega)
              have b265_ : 0 ≤ Int32.toInt (M258_.1 134 (Int32.toNatClampNeg i3z227_)) ∧ Int32.toInt (M258_.1 134 (Int32.toNatClampNeg i3z227_)) ≤ 3 := pvok_r o260_ 134 (Int32.toNatClampNeg i3z227_) rfl
              refine pw_blk hT 5 (S' := (44, [some (pvR 124), some (pvI n1), some (pvI i2z227_), some (pvI i3z227_)], [pvI (M258_.1 134 (Int32.toNatClampNeg i3z227_)), pvI i2z227_], M258_)) rfl ⟨trivial, trivial, rfl, trivial, ⟨rfl, (zr_in (n := 60) b246_ (by decide) (by decide))⟩, trivial⟩ ?_
              refine pw_ifn hT (c := (M258_.1 134 (Int32.toNatClampNeg i3z227_)) = 0) rfl rfl (fun c266_ => ?_) (fun c266_ => ?_)
              · have b267_ : 1 ≤ Int32.toInt (M258_.1 134 (Int32.toNatClampNeg i3z227_)) ∧ Int32.toInt (M258_.1 134 (Int32.toNatClampNeg i3z227_)) ≤ 3 := (by have u0 := b265_; have u1 := (not_congr (zi_eq _ _)).mp c266_; have u2 := (show 0 ≤ Int32.toInt 0 ∧ Int32.toInt 0 ≤ 0 from (by decide)); omega)
                have b268_ : 0 ≤ Int32.toInt (M258_.1 135 (Int32.toNatClampNeg i3z227_)) ∧ Int32.toInt (M258_.1 135 (Int32.toNatClampNeg i3z227_)) ≤ 99 := pvok_r o260_ 135 (Int32.toNatClampNeg i3z227_) rfl
                have b269_ : (-99) ≤ Int32.toInt (-(M258_.1 135 (Int32.toNatClampNeg i3z227_))) ∧ Int32.toInt (-(M258_.1 135 (Int32.toNatClampNeg i3z227_))) ≤ 0 := (by have u0 := b268_; have u := pvneg (M258_.1 135 (Int32.toNatClampNeg i3z227_)) (by omega); omega)
                obtain ⟨q271_, b270_⟩ : (Int32.toInt (i2z227_ + (-(M258_.1 135 (Int32.toNatClampNeg i3z227_)))) = Int32.toInt i2z227_ + Int32.toInt (-(M258_.1 135 (Int32.toNatClampNeg i3z227_)))) ∧ ((-6099) ≤ Int32.toInt (i2z227_ + (-(M258_.1 135 (Int32.toNatClampNeg i3z227_)))) ∧ Int32.toInt (i2z227_ + (-(M258_.1 135 (Int32.toNatClampNeg i3z227_)))) ≤ 6000) := zadd_r i2z227_ (-(M258_.1 135 (Int32.toNatClampNeg i3z227_))) (-6099) 6000 h2z227_ b269_ (by decide) (by decide) (by decide) (by decide)
                obtain ⟨q273_, b272_⟩ : (Int32.toInt (i3z227_ + 1) = Int32.toInt i3z227_ + Int32.toInt 1) ∧ (1 ≤ Int32.toInt (i3z227_ + 1) ∧ Int32.toInt (i3z227_ + 1) ≤ 60) := zadd_r i3z227_ 1 1 60 b246_ (show 1 ≤ Int32.toInt 1 ∧ Int32.toInt 1 ≤ 1 from (by decide)) (by decide) (by decide) (by decide) (by decide)
                have u274_ : Int32.toInt 1 = 1 := by decide
                refine pw_blk hT 9 (S' := (7, [some (pvR 124), some (pvI n1), some (pvI (i2z227_ + (-(M258_.1 135 (Int32.toNatClampNeg i3z227_))))), some (pvI (i3z227_ + 1))], [], M258_)) rfl ⟨trivial, rfl, trivial, ⟨rfl, (zr_in (n := 60) b246_ (by decide) (by decide))⟩, trivial, trivial, trivial, trivial, trivial, trivial⟩ ?_
                have j275_ : Int32.toInt (i2z227_ + (-(M258_.1 135 (Int32.toNatClampNeg i3z227_)))) ≤ 3 + 99 * Int32.toInt (i3z227_ + 1) := by omega
                have j276_ : -(99 * Int32.toInt (i3z227_ + 1)) ≤ Int32.toInt (i2z227_ + (-(M258_.1 135 (Int32.toNatClampNeg i3z227_)))) := by omega
                exact ihz227_ (i2z227_ + (-(M258_.1 135 (Int32.toNatClampNeg i3z227_)))) (i3z227_ + 1) M258_ o260_ f262_ ((g261_ 124 15 rfl).trans (k124_15z227_)) (by have u0 := b270_; omega) (zr_wide b272_ (by decide) (by decide)) j275_ j276_ (by omega)
              · have b277_ : 0 ≤ Int32.toInt (M258_.1 134 (Int32.toNatClampNeg i3z227_)) ∧ Int32.toInt (M258_.1 134 (Int32.toNatClampNeg i3z227_)) ≤ 0 := (by have u0 := b265_; have u1 := (zi_eq _ _).mp c266_; have u2 := (show 0 ≤ Int32.toInt 0 ∧ Int32.toInt 0 ≤ 0 from (by decide)); omega)
                have b278_ : 0 ≤ Int32.toInt (M258_.1 135 (Int32.toNatClampNeg i3z227_)) ∧ Int32.toInt (M258_.1 135 (Int32.toNatClampNeg i3z227_)) ≤ 99 := pvok_r o260_ 135 (Int32.toNatClampNeg i3z227_) rfl
                obtain ⟨q280_, b279_⟩ : (Int32.toInt (i2z227_ + (M258_.1 135 (Int32.toNatClampNeg i3z227_))) = Int32.toInt i2z227_ + Int32.toInt (M258_.1 135 (Int32.toNatClampNeg i3z227_))) ∧ ((-6000) ≤ Int32.toInt (i2z227_ + (M258_.1 135 (Int32.toNatClampNeg i3z227_))) ∧ Int32.toInt (i2z227_ + (M258_.1 135 (Int32.toNatClampNeg i3z227_))) ≤ 6099) := zadd_r i2z227_ (M258_.1 135 (Int32.toNatClampNeg i3z227_)) (-6000) 6099 h2z227_ b278_ (by decide) (by decide) (by decide) (by decide)
                obtain ⟨q282_, b281_⟩ : (Int32.toInt (i3z227_ + 1) = Int32.toInt i3z227_ + Int32.toInt 1) ∧ (1 ≤ Int32.toInt (i3z227_ + 1) ∧ Int32.toInt (i3z227_ + 1) ≤ 60) := zadd_r i3z227_ 1 1 60 b246_ (show 1 ≤ Int32.toInt 1 ∧ Int32.toInt 1 ≤ 1 from (by decide)) (by decide) (by decide) (by decide) (by decide)
                have u283_ : Int32.toInt 1 = 1 := by decide
                refine pw_blk hT 9 (S' := (7, [some (pvR 124), some (pvI n1), some (pvI (i2z227_ + (M258_.1 135 (Int32.toNatClampNeg i3z227_)))), some (pvI (i3z227_ + 1))], [], M258_)) rfl ⟨trivial, rfl, trivial, ⟨rfl, (zr_in (n := 60) b246_ (by decide) (by decide))⟩, trivial, trivial, trivial, trivial, trivial, trivial⟩ ?_
                have j284_ : Int32.toInt (i2z227_ + (M258_.1 135 (Int32.toNatClampNeg i3z227_))) ≤ 3 + 99 * Int32.toInt (i3z227_ + 1) := by omega
                have j285_ : -(99 * Int32.toInt (i3z227_ + 1)) ≤ Int32.toInt (i2z227_ + (M258_.1 135 (Int32.toNatClampNeg i3z227_))) := by omega
                exact ihz227_ (i2z227_ + (M258_.1 135 (Int32.toNatClampNeg i3z227_))) (i3z227_ + 1) M258_ o260_ f262_ ((g261_ 124 15 rfl).trans (k124_15z227_)) (by have u0 := b279_; omega) (zr_wide b281_ (by decide) (by decide)) j284_ j285_ (by omega)
            · have b286_ : 0 ≤ Int32.toInt x257_ ∧ Int32.toInt x257_ ≤ 0 := (by have u0 := b259_; have u1 := (zi_eq _ _).mp c263_; have u2 := (show 0 ≤ Int32.toInt 0 ∧ Int32.toInt 0 ≤ 0 from (by decide)); omega)
              obtain ⟨q288_, b287_⟩ : (Int32.toInt (i3z227_ + 1) = Int32.toInt i3z227_ + Int32.toInt 1) ∧ (1 ≤ Int32.toInt (i3z227_ + 1) ∧ Int32.toInt (i3z227_ + 1) ≤ 60) := zadd_r i3z227_ 1 1 60 b246_ (show 1 ≤ Int32.toInt 1 ∧ Int32.toInt 1 ≤ 1 from (by decide)) (by decide) (by decide) (by decide) (by decide)
              have u289_ : Int32.toInt 1 = 1 := by decide
              refine pw_blk hT 3 (S' := (7, [some (pvR 124), some (pvI n1), some (pvI i2z227_), some (pvI (i3z227_ + 1))], [], M258_)) rfl ⟨trivial, trivial, trivial, trivial⟩ ?_
              have j290_ : Int32.toInt i2z227_ ≤ 3 + 99 * Int32.toInt (i3z227_ + 1) := by omega
              have j291_ : -(99 * Int32.toInt (i3z227_ + 1)) ≤ Int32.toInt i2z227_ := by omega
              exact ihz227_ i2z227_ (i3z227_ + 1) M258_ o260_ f262_ ((g261_ 124 15 rfl).trans (k124_15z227_)) h2z227_ (zr_wide b287_ (by decide) (by decide)) j290_ j291_ (by omega)
    have u292_ : Int32.toInt 3 = 3 := by decide
    have j293_ : Int32.toInt 3 ≤ 3 + 99 * Int32.toInt (10 * (M.1 124 15)) := by omega
    have j294_ : -(99 * Int32.toInt (10 * (M.1 124 15))) ≤ Int32.toInt 3 := by omega
    exact hlz227_ _ 3 (10 * (M.1 124 15)) M hok pvfr_0 rfl (zr_wide (show 3 ≤ Int32.toInt 3 ∧ Int32.toInt 3 ≤ 3 from (by decide)) (by decide) (by decide)) (zr_wide b10_ (by decide) (by decide)) j293_ j294_ (Nat.lt_succ_self _)
  · refine pw_eqI (if_neg c7_) ?_
    have b295_ : (-1) ≤ Int32.toInt (M.1 124 15) ∧ Int32.toInt (M.1 124 15) ≤ (-1) := zr_nle_r (-1) c7_ b6_ (show 0 ≤ Int32.toInt 0 ∧ Int32.toInt 0 ≤ 0 from (by decide)) (by decide)
    show PW 67 d (6, [some (pvR 124), some (pvI n1), some (pvI 3), none], [pvI 0], M) _
    refine pw_blk hT 1 (S' := (7, [some (pvR 124), some (pvI n1), some (pvI 3), some (pvI 0)], [], M)) rfl ⟨trivial, trivial⟩ ?_
    have hlz324_ : ∀ (nz324_ : Nat) (i2z324_ : Int32) (i3z324_ : Int32), ((-6000) ≤ Int32.toInt i2z324_ ∧ Int32.toInt i2z324_ ≤ 6000) → (0 ≤ Int32.toInt i3z324_ ∧ Int32.toInt i3z324_ ≤ 0) → (Int32.toInt i2z324_ ≤ 3 + 99 * Int32.toInt i3z324_) → (-(99 * Int32.toInt i3z324_) ≤ Int32.toInt i2z324_) → (0 < nz324_) → PW 67 d (7, [some (pvR 124), some (pvI n1), some (pvI i2z324_), some (pvI i3z324_)], [], M) (fun r X => (∃ x : Int32, r = some (pvI x) ∧ 0 ≤ Int32.toInt x ∧ Int32.toInt x ≤ 6000) ∧ pvOk X ∧ pvFr fp_X10_rainOf_124_x M X) := by
      intro nz324_
      induction nz324_ with
      | zero => intro i2z324_ i3z324_ h2z324_ h3z324_ j0z324_ j1z324_ hmz324_; exact absurd hmz324_ (Nat.not_lt_zero _)
      | succ nz324_ ihz324_ =>
        intro i2z324_ i3z324_ h2z324_ h3z324_ j0z324_ j1z324_ hmz324_
        refine pw_blk hT 2 (S' := (9, [some (pvR 124), some (pvI n1), some (pvI i2z324_), some (pvI i3z324_)], [pvR 124, pvI i3z324_], M)) rfl ⟨trivial, trivial, trivial⟩ ?_
        refine pw_callT hT (as := [pvR 124]) (lo1 := [some (pvR 124)]) (d1 := d) (rest := [pvI i3z324_]) rfl rfl rfl rfl rfl (fun _ => rfl) (Nat.zero_le _) rfl rfl rfl (sf_X10_behindClauses_124 M hok d) ?_
        refine pw_eqI (if_neg c7_) ?_
        show PW 67 d (12, [some (pvR 124), some (pvI n1), some (pvI i2z324_), some (pvI i3z324_)], [pvI 0, pvI i3z324_], M) _
        refine pw_ic hT (c := 0 ≤ i3z324_) rfl rfl (fun c330_ => ?_) (fun c330_ => absurd (by have z0 := (show 0 ≤ Int32.toInt 0 ∧ Int32.toInt 0 ≤ 0 from (by decide)); have z1 := h3z324_; rw [zi_le]; omega) c330_)
        refine pw_blk hT 1 (S' := (72, [some (pvR 124), some (pvI n1), some (pvI i2z324_), some (pvI i3z324_)], [pvI i2z324_], M)) rfl ⟨trivial, trivial⟩ ?_
        refine pw_if hT (c := 0 ≤ i2z324_) rfl rfl (fun c331_ => ?_) (fun c331_ => ?_)
        · have b332_ : 0 ≤ Int32.toInt i2z324_ ∧ Int32.toInt i2z324_ ≤ 6000 := zr_le_r 0 c331_ h2z324_ (show 0 ≤ Int32.toInt 0 ∧ Int32.toInt 0 ≤ 0 from (by decide)) (by decide)
          refine pw_blk hT 1 (S' := (80, [some (pvR 124), some (pvI n1), some (pvI i2z324_), some (pvI i3z324_)], [pvI i2z324_], M)) rfl ⟨trivial, trivial⟩ ?_
          exact pw_ret hT rfl (r := some (pvI i2z324_)) (M' := M) ⟨rfl, rfl⟩ ⟨⟨_, rfl, b332_⟩, hok, pvfr_0⟩
        · have b333_ : (-6000) ≤ Int32.toInt i2z324_ ∧ Int32.toInt i2z324_ ≤ (-1) := zr_nle_r (-1) c331_ h2z324_ (show 0 ≤ Int32.toInt 0 ∧ Int32.toInt 0 ≤ 0 from (by decide)) (by decide)
          refine pw_blk hT 2 (S' := (80, [some (pvR 124), some (pvI n1), some (pvI i2z324_), some (pvI i3z324_)], [pvI 0], M)) rfl ⟨trivial, trivial, trivial⟩ ?_
          exact pw_ret hT rfl (r := some (pvI 0)) (M' := M) ⟨rfl, rfl⟩ ⟨⟨_, rfl, (zr_wide (show 0 ≤ Int32.toInt 0 ∧ Int32.toInt 0 ≤ 0 from (by decide)) (by decide) (by decide))⟩, hok, pvfr_0⟩
    have u334_ : Int32.toInt 3 = 3 := by decide
    have u335_ : Int32.toInt 0 = 0 := by decide
    have j336_ : Int32.toInt 3 ≤ 3 + 99 * Int32.toInt 0 := by omega
    have j337_ : -(99 * Int32.toInt 0) ≤ Int32.toInt 3 := by omega
    exact hlz324_ _ 3 0 (zr_wide (show 3 ≤ Int32.toInt 3 ∧ Int32.toInt 3 ≤ 3 from (by decide)) (by decide) (by decide)) (show 0 ≤ Int32.toInt 0 ∧ Int32.toInt 0 ≤ 0 from (by decide)) j336_ j337_ (Nat.lt_succ_self _)
def fpL_X10_layRain_124 : List (Nat × Nat × Nat) := [(0, 124, 33), (0, 141, 0), (0, 142, 0)]
def fp_X10_layRain_124 (q k : Nat) : Bool := pvfp fpL_X10_layRain_124 q k
theorem fp_X10_layRain_124_fp_X10_rainOf_124_x (a b : Nat) (h : fp_X10_rainOf_124_x a b = true) : fp_X10_layRain_124 a b = true := pvfp_sub (l1 := fpL_X10_rainOf_124_x) (l2 := fpL_X10_layRain_124) (by decide) a b h
set_option maxHeartbeats 4000000 in
set_option maxRecDepth 10000 in
theorem sf_X10_layRain_124 (M : pvM) (hok : pvOk M) (d : Nat) : PW 50 d (0, [some (pvR 124), none, none], [], M) (fun r X => r = none ∧ pvOk X ∧ pvFr fp_X10_layRain_124 M X) := by
  have hT : pvdom 50 = pvD_50 := rfl
  refine pw_blk hT 1 (S' := (1, [some (pvR 124), none, none], [pvR 124], M)) rfl ⟨trivial, trivial⟩ ?_
  refine pw_callGp hT (as := [pvR 124]) (lo1 := [some (pvR 124)]) (d1 := d) (rest := []) rfl rfl rfl rfl rfl (fun _ => rfl) (Nat.zero_le _) rfl rfl rfl (sf_X10_lastNow_124 M hok d) (fun x1_ b3_ => ?_)
  refine pw_blk hT 3 (S' := (7, [some (pvR 124), some (pvI x1_), some (pvI 0)], [], M)) rfl ⟨trivial, trivial, trivial, trivial⟩ ?_
  have hlz474_ : ∀ (nz474_ : Nat) (i2z474_ : Int32) (Mz474_ : pvM), (pvOk Mz474_) → (pvFr fp_X10_layRain_124 M Mz474_) → (0 ≤ Int32.toInt i2z474_ ∧ Int32.toInt i2z474_ ≤ 7) → ((8 - Int32.toInt i2z474_).toNat < nz474_) → PW 50 d (7, [some (pvR 124), some (pvI x1_), some (pvI i2z474_)], [], Mz474_) (fun r X => r = none ∧ pvOk X ∧ pvFr fp_X10_layRain_124 M X) := by
    intro nz474_
    induction nz474_ with
    | zero => intro i2z474_ Mz474_ oz474_ fz474_ h2z474_ hmz474_; exact absurd hmz474_ (Nat.not_lt_zero _)
    | succ nz474_ ihz474_ =>
      intro i2z474_ Mz474_ oz474_ fz474_ h2z474_ hmz474_
      have b475_ : 0 ≤ Int32.toInt (Mz474_.1 124 0) ∧ Int32.toInt (Mz474_.1 124 0) ≤ 7 := pvok_r oz474_ 124 0 rfl
      refine pw_blk hT 3 (S' := (12, [some (pvR 124), some (pvI x1_), some (pvI i2z474_)], [pvI (Mz474_.1 124 0), pvI i2z474_], Mz474_)) rfl ⟨trivial, trivial, rfl, trivial⟩ ?_
      refine pw_ic hT (c := (Mz474_.1 124 0) ≤ i2z474_) rfl rfl (fun c476_ => ?_) (fun c476_ => ?_)
      · have d477_ : Int32.toInt (Mz474_.1 124 0) ≤ Int32.toInt i2z474_ := (zi_le _ _).mp c476_
        refine pw_blkw hT 3 (pc := 71) (lo := [some (pvR 124), some (pvI x1_), some (pvI i2z474_)]) (st := []) (M := pvu Mz474_ 124 32 0) rfl ⟨trivial, trivial, rfl, trivial⟩ (fun M478_ e479_ => ?_)
        have o480_ : pvOk M478_ := pvok_u2 e479_ oz474_ rfl (zr_wide (show 0 ≤ Int32.toInt 0 ∧ Int32.toInt 0 ≤ 0 from (by decide)) (by decide) (by decide))
        have f481_ : pvFr fp_X10_layRain_124 M M478_ := pvfr_u e479_ fz474_ rfl
        exact pw_ret hT rfl (r := none) (M' := M478_) ⟨rfl, rfl⟩ ⟨rfl, o480_, f481_⟩
      · have b482_ : 1 ≤ Int32.toInt (Mz474_.1 124 0) ∧ Int32.toInt (Mz474_.1 124 0) ≤ 7 := zr_nle_l 1 c476_ b475_ h2z474_ (by decide)
        have b483_ : 0 ≤ Int32.toInt i2z474_ ∧ Int32.toInt i2z474_ ≤ 6 := zr_nle_r 6 c476_ h2z474_ b482_ (by decide)
        have d484_ : Int32.toInt (Mz474_.1 124 0) > Int32.toInt i2z474_ := Int.not_le.mp ((not_congr (zi_le _ _)).mp c476_)
        refine pw_blkw hT 3 (pc := 20) (lo := [some (pvR 124), some (pvI x1_), some (pvI i2z474_)]) (st := []) (M := pvu Mz474_ 124 32 0) rfl ⟨trivial, trivial, rfl, trivial⟩ (fun M485_ e486_ => ?_)
        have o487_ : pvOk M485_ := pvok_u2 e486_ oz474_ rfl (zr_wide (show 0 ≤ Int32.toInt 0 ∧ Int32.toInt 0 ≤ 0 from (by decide)) (by decide) (by decide))
        have f488_ : pvFr fp_X10_layRain_124 M M485_ := pvfr_u e486_ fz474_ rfl
        have e489_ : (M485_.1 124 0) = (Mz474_.1 124 0) := (pvu_n e486_ 124 0 (Or.inr (by decide)))
        have b490_ : 1 ≤ Int32.toInt (M485_.1 124 0) ∧ Int32.toInt (M485_.1 124 0) ≤ 7 := (by rw [e489_]; exact b482_)
        have hlz558_ : ∀ (nz558_ : Nat) (Mz558_ : pvM), (pvOk Mz558_) → (pvFr fp_X10_layRain_124 M Mz558_) → (Mz558_.1 124 0 = M485_.1 124 0) → ((100 - Int32.toInt (Mz558_.1 124 32)).toNat < nz558_) → PW 50 d (20, [some (pvR 124), some (pvI x1_), some (pvI i2z474_)], [], Mz558_) (fun r X => r = none ∧ pvOk X ∧ pvFr fp_X10_layRain_124 M X) := by
          intro nz558_
          induction nz558_ with
          | zero => intro Mz558_ oz558_ fz558_ k124_0z558_ hmz558_; exact absurd hmz558_ (Nat.not_lt_zero _)
          | succ nz558_ ihz558_ =>
            intro Mz558_ oz558_ fz558_ k124_0z558_ hmz558_
            have b559_ : 0 ≤ Int32.toInt (Mz558_.1 124 32) ∧ Int32.toInt (Mz558_.1 124 32) ≤ 99 := pvok_r oz558_ 124 32 rfl
            refine pw_blk hT 3 (S' := (25, [some (pvR 124), some (pvI x1_), some (pvI i2z474_)], [pvI x1_, pvI (Mz558_.1 124 32)], Mz558_)) rfl ⟨trivial, rfl, trivial, trivial⟩ ?_
            refine pw_ic hT (c := x1_ ≤ (Mz558_.1 124 32)) rfl rfl (fun c560_ => ?_) (fun c560_ => ?_)
            · have d561_ : Int32.toInt x1_ ≤ Int32.toInt (Mz558_.1 124 32) := (zi_le _ _).mp c560_
              obtain ⟨q563_, b562_⟩ : (Int32.toInt (i2z474_ + 1) = Int32.toInt i2z474_ + Int32.toInt 1) ∧ (1 ≤ Int32.toInt (i2z474_ + 1) ∧ Int32.toInt (i2z474_ + 1) ≤ 7) := zadd_r i2z474_ 1 1 7 b483_ (show 1 ≤ Int32.toInt 1 ∧ Int32.toInt 1 ≤ 1 from (by decide)) (by decide) (by decide) (by decide) (by decide)
              have u564_ : Int32.toInt 1 = 1 := by decide
              refine pw_blk hT 2 (S' := (7, [some (pvR 124), some (pvI x1_), some (pvI (i2z474_ + 1))], [], Mz558_)) rfl ⟨trivial, trivial, trivial⟩ ?_
              exact ihz474_ (i2z474_ + 1) Mz558_ oz558_ fz558_ (zr_wide b562_ (by decide) (by decide)) (by omega)
            · have b565_ : 1 ≤ Int32.toInt x1_ ∧ Int32.toInt x1_ ≤ 99 := zr_nle_l 1 c560_ b3_ b559_ (by decide)
              have b566_ : 0 ≤ Int32.toInt (Mz558_.1 124 32) ∧ Int32.toInt (Mz558_.1 124 32) ≤ 98 := zr_nle_r 98 c560_ b559_ b565_ (by decide)
              have d567_ : Int32.toInt x1_ > Int32.toInt (Mz558_.1 124 32) := Int.not_le.mp ((not_congr (zi_le _ _)).mp c560_)
              have q568_ : Int32.toInt (99 * i2z474_) = 99 * Int32.toInt i2z474_ := by have u0 : Int32.toInt 99 = 99 := (by decide); have u1 := b483_; have u2 := zmul 99 i2z474_ (by rw [u0]; omega) (by rw [u0]; omega); rw [u0] at u2; omega
              have b569_ : 0 ≤ Int32.toInt (99 * i2z474_) ∧ Int32.toInt (99 * i2z474_) ≤ 594 := (by have u1 := b483_; omega)
              obtain ⟨q571_, b570_⟩ : (Int32.toInt ((99 * i2z474_) + (Mz558_.1 124 32)) = Int32.toInt (99 * i2z474_) + Int32.toInt (Mz558_.1 124 32)) ∧ (0 ≤ Int32.toInt ((99 * i2z474_) + (Mz558_.1 124 32)) ∧ Int32.toInt ((99 * i2z474_) + (Mz558_.1 124 32)) ≤ 692) := zadd_r (99 * i2z474_) (Mz558_.1 124 32) 0 692 b569_ b566_ (by decide) (by decide) (by decide) (by decide)
              refine pw_blk hT 10 (S' := (43, [some (pvR 124), some (pvI x1_), some (pvI i2z474_)], [pvI i2z474_, pvR 124, pvI ((99 * i2z474_) + (Mz558_.1 124 32)), pvR 142], Mz558_)) rfl ⟨trivial, rfl, trivial, trivial, trivial, trivial, rfl, trivial, trivial, trivial, trivial⟩ ?_
              refine pw_callG hT (as := [pvR 124, pvI i2z474_]) (lo1 := [some (pvR 124), some (pvI i2z474_), none, none]) (d1 := d) (rest := [pvI ((99 * i2z474_) + (Mz558_.1 124 32)), pvR 142]) rfl rfl rfl rfl rfl (fun _ => rfl) (Nat.zero_le _) rfl rfl rfl (sf_X10_rainOf_124_x Mz558_ oz558_ i2z474_ b483_ d) (fun x572_ M573_ b574_ o575_ g576_ => ?_)
              have f577_ : pvFr fp_X10_layRain_124 M M573_ := pvfr_t g576_ fz558_ fp_X10_layRain_124_fp_X10_rainOf_124_x
              refine pw_blkw hT 1 (pc := 47) (lo := [some (pvR 124), some (pvI x1_), some (pvI i2z474_)]) (st := []) (M := pvu M573_ 142 (Int32.toNatClampNeg ((99 * i2z474_) + (Mz558_.1 124 32))) x572_) rfl ⟨⟨rfl, (zr_in (n := 693) b570_ (by decide) (by decide))⟩, trivial⟩ (fun M578_ e579_ => ?_)
              have o580_ : pvOk M578_ := pvok_u2 e579_ o575_ rfl b574_
              have f581_ : pvFr fp_X10_layRain_124 M M578_ := pvfr_u e579_ f577_ rfl
              have e582_ : (M578_.1 124 32) = (Mz558_.1 124 32) := ((pvu_n e579_ 124 32 (Or.inl (by decide))).trans (g576_ 124 32 rfl))
              have b583_ : 0 ≤ Int32.toInt (M578_.1 124 32) ∧ Int32.toInt (M578_.1 124 32) ≤ 98 := (by rw [e582_]; exact b566_)
              obtain ⟨q585_, b584_⟩ : (Int32.toInt ((M578_.1 124 32) + 1) = Int32.toInt (M578_.1 124 32) + Int32.toInt 1) ∧ (1 ≤ Int32.toInt ((M578_.1 124 32) + 1) ∧ Int32.toInt ((M578_.1 124 32) + 1) ≤ 99) := zadd_r (M578_.1 124 32) 1 1 99 b583_ (show 1 ≤ Int32.toInt 1 ∧ Int32.toInt 1 ≤ 1 from (by decide)) (by decide) (by decide) (by decide) (by decide)
              have u586_ : Int32.toInt 1 = 1 := by decide
              refine pw_blkw hT 6 (pc := 57) (lo := [some (pvR 124), some (pvI x1_), some (pvI i2z474_)]) (st := []) (M := pvu M578_ 124 32 ((M578_.1 124 32) + 1)) rfl ⟨trivial, trivial, rfl, trivial, trivial, rfl, trivial⟩ (fun M587_ e588_ => ?_)
              have o589_ : pvOk M587_ := pvok_u2 e588_ o580_ rfl (zr_wide b584_ (by decide) (by decide))
              have f590_ : pvFr fp_X10_layRain_124 M M587_ := pvfr_u e588_ f581_ rfl
              refine pw_blk hT 1 (S' := (20, [some (pvR 124), some (pvI x1_), some (pvI i2z474_)], [], M587_)) rfl ⟨trivial, trivial⟩ ?_
              exact ihz558_ M587_ o589_ f590_ ((((pvu_n e588_ 124 0 (Or.inr (by decide))).trans (pvu_n e579_ 124 0 (Or.inl (by decide)))).trans (g576_ 124 0 rfl)).trans (k124_0z558_)) (by have z1 : Int32.toInt (M587_.1 124 32) = Int32.toInt ((M578_.1 124 32) + 1) := congrArg Int32.toInt (pvu_s e588_); have z2 : Int32.toInt (M578_.1 124 32) = Int32.toInt (Mz558_.1 124 32) := congrArg Int32.toInt ((pvu_n e579_ 124 32 (Or.inl (by decide))).trans (g576_ 124 32 rfl)); omega)
        exact hlz558_ _ M485_ o487_ f488_ rfl (Nat.lt_succ_self _)
  exact hlz474_ _ 0 M hok pvfr_0 (zr_wide (show 0 ≤ Int32.toInt 0 ∧ Int32.toInt 0 ≤ 0 from (by decide)) (by decide) (by decide)) (Nat.lt_succ_self _)
def fpL_X10_layRound_124 : List (Nat × Nat × Nat) := [(0, 124, 36), (0, 144, 0)]
def fp_X10_layRound_124 (q k : Nat) : Bool := pvfp fpL_X10_layRound_124 q k
set_option maxHeartbeats 4000000 in
set_option maxRecDepth 10000 in
theorem sf_X10_layRound_124 (M : pvM) (hok : pvOk M) (d : Nat) : PW 51 d (0, [some (pvR 124), none], [], M) (fun r X => r = none ∧ pvOk X ∧ pvFr fp_X10_layRound_124 M X) := by
  have hT : pvdom 51 = pvD_51 := rfl
  have b1_ : 0 ≤ Int32.toInt (M.1 124 37) ∧ Int32.toInt (M.1 124 37) ≤ 7 := pvok_r hok 124 37 rfl
  refine pw_blkw hT 4 (pc := 8) (lo := [some (pvR 124), none]) (st := []) (M := pvu M 124 35 (M.1 124 37)) rfl ⟨trivial, trivial, rfl, rfl, trivial⟩ (fun M2_ e3_ => ?_)
  have o4_ : pvOk M2_ := pvok_u2 e3_ hok rfl b1_
  have f5_ : pvFr fp_X10_layRound_124 M M2_ := pvfr_u e3_ pvfr_0 rfl
  refine pw_blk hT 2 (S' := (10, [some (pvR 124), some (pvI 0)], [], M2_)) rfl ⟨trivial, trivial, trivial⟩ ?_
  have hlz52_ : ∀ (nz52_ : Nat) (i1z52_ : Int32) (Mz52_ : pvM), (pvOk Mz52_) → (pvFr fp_X10_layRound_124 M Mz52_) → (0 ≤ Int32.toInt i1z52_ ∧ Int32.toInt i1z52_ ≤ 7) → ((8 - Int32.toInt i1z52_).toNat < nz52_) → PW 51 d (10, [some (pvR 124), some (pvI i1z52_)], [], Mz52_) (fun r X => r = none ∧ pvOk X ∧ pvFr fp_X10_layRound_124 M X) := by
    intro nz52_
    induction nz52_ with
    | zero => intro i1z52_ Mz52_ oz52_ fz52_ h1z52_ hmz52_; exact absurd hmz52_ (Nat.not_lt_zero _)
    | succ nz52_ ihz52_ =>
      intro i1z52_ Mz52_ oz52_ fz52_ h1z52_ hmz52_
      refine pw_blk hT 2 (S' := (13, [some (pvR 124), some (pvI i1z52_)], [pvI 7, pvI i1z52_], Mz52_)) rfl ⟨trivial, trivial, trivial⟩ ?_
      refine pw_ic hT (c := 7 ≤ i1z52_) rfl rfl (fun c53_ => ?_) (fun c53_ => ?_)
      · have b54_ : 7 ≤ Int32.toInt i1z52_ ∧ Int32.toInt i1z52_ ≤ 7 := zr_le_r 7 c53_ h1z52_ (show 7 ≤ Int32.toInt 7 ∧ Int32.toInt 7 ≤ 7 from (by decide)) (by decide)
        exact pw_ret hT rfl (r := none) (M' := Mz52_) ⟨rfl, rfl⟩ ⟨rfl, oz52_, fz52_⟩
      · have b55_ : 0 ≤ Int32.toInt i1z52_ ∧ Int32.toInt i1z52_ ≤ 6 := zr_nle_r 6 c53_ h1z52_ (show 7 ≤ Int32.toInt 7 ∧ Int32.toInt 7 ≤ 7 from (by decide)) (by decide)
        have b56_ : 0 ≤ Int32.toInt (Mz52_.1 145 (Int32.toNatClampNeg i1z52_)) ∧ Int32.toInt (Mz52_.1 145 (Int32.toNatClampNeg i1z52_)) ≤ 6 := pvok_r oz52_ 145 (Int32.toNatClampNeg i1z52_) rfl
        refine pw_blkw hT 8 (pc := 28) (lo := [some (pvR 124), some (pvI i1z52_)]) (st := []) (M := pvu Mz52_ 144 (Int32.toNatClampNeg i1z52_) (Mz52_.1 145 (Int32.toNatClampNeg i1z52_))) rfl ⟨trivial, rfl, trivial, trivial, rfl, trivial, ⟨rfl, (zr_in (n := 7) b55_ (by decide) (by decide))⟩, ⟨rfl, (zr_in (n := 7) b55_ (by decide) (by decide))⟩, trivial⟩ (fun M57_ e58_ => ?_)
        have o59_ : pvOk M57_ := pvok_u2 e58_ oz52_ rfl b56_
        have f60_ : pvFr fp_X10_layRound_124 M M57_ := pvfr_u e58_ fz52_ rfl
        obtain ⟨q62_, b61_⟩ : (Int32.toInt (i1z52_ + 1) = Int32.toInt i1z52_ + Int32.toInt 1) ∧ (1 ≤ Int32.toInt (i1z52_ + 1) ∧ Int32.toInt (i1z52_ + 1) ≤ 7) := zadd_r i1z52_ 1 1 7 b55_ (show 1 ≤ Int32.toInt 1 ∧ Int32.toInt 1 ≤ 1 from (by decide)) (by decide) (by decide) (by decide) (by decide)
        have u63_ : Int32.toInt 1 = 1 := by decide
        refine pw_blk hT 2 (S' := (10, [some (pvR 124), some (pvI (i1z52_ + 1))], [], M57_)) rfl ⟨trivial, trivial, trivial⟩ ?_
        exact ihz52_ (i1z52_ + 1) M57_ o59_ f60_ (zr_wide b61_ (by decide) (by decide)) (by omega)
  exact hlz52_ _ 0 M2_ o4_ f5_ (zr_wide (show 0 ≤ Int32.toInt 0 ∧ Int32.toInt 0 ≤ 0 from (by decide)) (by decide) (by decide)) (Nat.lt_succ_self _)
def fpL_X10_layOpen_124 : List (Nat × Nat × Nat) := [(0, 143, 0)]
def fp_X10_layOpen_124 (q k : Nat) : Bool := pvfp fpL_X10_layOpen_124 q k
set_option maxHeartbeats 4000000 in
set_option maxRecDepth 10000 in
theorem sf_X10_layOpen_124 (M : pvM) (hok : pvOk M) (d : Nat) : PW 48 d (0, [some (pvR 124), none], [], M) (fun r X => r = none ∧ pvOk X ∧ pvFr fp_X10_layOpen_124 M X) := by
  have hT : pvdom 48 = pvD_48 := rfl
  refine pw_blk hT 2 (S' := (2, [some (pvR 124), some (pvI 0)], [], M)) rfl ⟨trivial, trivial, trivial⟩ ?_
  have hlz85_ : ∀ (nz85_ : Nat) (i1z85_ : Int32) (Mz85_ : pvM), (pvOk Mz85_) → (pvFr fp_X10_layOpen_124 M Mz85_) → (0 ≤ Int32.toInt i1z85_ ∧ Int32.toInt i1z85_ ≤ 7) → ((8 - Int32.toInt i1z85_).toNat < nz85_) → PW 48 d (2, [some (pvR 124), some (pvI i1z85_)], [], Mz85_) (fun r X => r = none ∧ pvOk X ∧ pvFr fp_X10_layOpen_124 M X) := by
    intro nz85_
    induction nz85_ with
    | zero => intro i1z85_ Mz85_ oz85_ fz85_ h1z85_ hmz85_; exact absurd hmz85_ (Nat.not_lt_zero _)
    | succ nz85_ ihz85_ =>
      intro i1z85_ Mz85_ oz85_ fz85_ h1z85_ hmz85_
      refine pw_blk hT 2 (S' := (5, [some (pvR 124), some (pvI i1z85_)], [pvI 7, pvI i1z85_], Mz85_)) rfl ⟨trivial, trivial, trivial⟩ ?_
      refine pw_ic hT (c := 7 ≤ i1z85_) rfl rfl (fun c86_ => ?_) (fun c86_ => ?_)
      · have b87_ : 7 ≤ Int32.toInt i1z85_ ∧ Int32.toInt i1z85_ ≤ 7 := zr_le_r 7 c86_ h1z85_ (show 7 ≤ Int32.toInt 7 ∧ Int32.toInt 7 ≤ 7 from (by decide)) (by decide)
        exact pw_ret hT rfl (r := none) (M' := Mz85_) ⟨rfl, rfl⟩ ⟨rfl, oz85_, fz85_⟩
      · have b88_ : 0 ≤ Int32.toInt i1z85_ ∧ Int32.toInt i1z85_ ≤ 6 := zr_nle_r 6 c86_ h1z85_ (show 7 ≤ Int32.toInt 7 ∧ Int32.toInt 7 ≤ 7 from (by decide)) (by decide)
        have b89_ : 0 ≤ Int32.toInt (Mz85_.1 131 (Int32.toNatClampNeg i1z85_)) ∧ Int32.toInt (Mz85_.1 131 (Int32.toNatClampNeg i1z85_)) ≤ 1 := pvok_r oz85_ 131 (Int32.toNatClampNeg i1z85_) rfl
        refine pw_blk hT 7 (S' := (19, [some (pvR 124), some (pvI i1z85_)], [pvI (Mz85_.1 131 (Int32.toNatClampNeg i1z85_)), pvI i1z85_, pvR 143], Mz85_)) rfl ⟨trivial, rfl, trivial, trivial, rfl, trivial, ⟨rfl, (zr_in (n := 7) b88_ (by decide) (by decide))⟩, trivial⟩ ?_
        refine pw_if hT (c := (Mz85_.1 131 (Int32.toNatClampNeg i1z85_)) = 0) rfl rfl (fun c90_ => ?_) (fun c90_ => ?_)
        · have b91_ : 0 ≤ Int32.toInt (Mz85_.1 131 (Int32.toNatClampNeg i1z85_)) ∧ Int32.toInt (Mz85_.1 131 (Int32.toNatClampNeg i1z85_)) ≤ 0 := (by have u0 := b89_; have u1 := (zi_eq _ _).mp c90_; have u2 := (show 0 ≤ Int32.toInt 0 ∧ Int32.toInt 0 ≤ 0 from (by decide)); omega)
          refine pw_blkw hT 2 (pc := 30) (lo := [some (pvR 124), some (pvI i1z85_)]) (st := []) (M := pvu Mz85_ 143 (Int32.toNatClampNeg i1z85_) 99999) rfl ⟨trivial, ⟨rfl, (zr_in (n := 7) b88_ (by decide) (by decide))⟩, trivial⟩ (fun M92_ e93_ => ?_)
          have o94_ : pvOk M92_ := pvok_u2 e93_ oz85_ rfl (zr_wide (show 99999 ≤ Int32.toInt 99999 ∧ Int32.toInt 99999 ≤ 99999 from (by decide)) (by decide) (by decide))
          have f95_ : pvFr fp_X10_layOpen_124 M M92_ := pvfr_u e93_ fz85_ rfl
          obtain ⟨q97_, b96_⟩ : (Int32.toInt (i1z85_ + 1) = Int32.toInt i1z85_ + Int32.toInt 1) ∧ (1 ≤ Int32.toInt (i1z85_ + 1) ∧ Int32.toInt (i1z85_ + 1) ≤ 7) := zadd_r i1z85_ 1 1 7 b88_ (show 1 ≤ Int32.toInt 1 ∧ Int32.toInt 1 ≤ 1 from (by decide)) (by decide) (by decide) (by decide) (by decide)
          have u98_ : Int32.toInt 1 = 1 := by decide
          refine pw_blk hT 2 (S' := (2, [some (pvR 124), some (pvI (i1z85_ + 1))], [], M92_)) rfl ⟨trivial, trivial, trivial⟩ ?_
          exact ihz85_ (i1z85_ + 1) M92_ o94_ f95_ (zr_wide b96_ (by decide) (by decide)) (by omega)
        · have b99_ : 1 ≤ Int32.toInt (Mz85_.1 131 (Int32.toNatClampNeg i1z85_)) ∧ Int32.toInt (Mz85_.1 131 (Int32.toNatClampNeg i1z85_)) ≤ 1 := (by have u0 := b89_; have u1 := (not_congr (zi_eq _ _)).mp c90_; have u2 := (show 0 ≤ Int32.toInt 0 ∧ Int32.toInt 0 ≤ 0 from (by decide)); omega)
          refine pw_blkw hT 3 (pc := 30) (lo := [some (pvR 124), some (pvI i1z85_)]) (st := []) (M := pvu Mz85_ 143 (Int32.toNatClampNeg i1z85_) (-1)) rfl ⟨trivial, trivial, ⟨rfl, (zr_in (n := 7) b88_ (by decide) (by decide))⟩, trivial⟩ (fun M100_ e101_ => ?_)
          have o102_ : pvOk M100_ := pvok_u2 e101_ oz85_ rfl (zr_wide (show (-1) ≤ Int32.toInt (-1) ∧ Int32.toInt (-1) ≤ (-1) from (by decide)) (by decide) (by decide))
          have f103_ : pvFr fp_X10_layOpen_124 M M100_ := pvfr_u e101_ fz85_ rfl
          obtain ⟨q105_, b104_⟩ : (Int32.toInt (i1z85_ + 1) = Int32.toInt i1z85_ + Int32.toInt 1) ∧ (1 ≤ Int32.toInt (i1z85_ + 1) ∧ Int32.toInt (i1z85_ + 1) ≤ 7) := zadd_r i1z85_ 1 1 7 b88_ (show 1 ≤ Int32.toInt 1 ∧ Int32.toInt 1 ≤ 1 from (by decide)) (by decide) (by decide) (by decide) (by decide)
          have u106_ : Int32.toInt 1 = 1 := by decide
          refine pw_blk hT 2 (S' := (2, [some (pvR 124), some (pvI (i1z85_ + 1))], [], M100_)) rfl ⟨trivial, trivial, trivial⟩ ?_
          exact ihz85_ (i1z85_ + 1) M100_ o102_ f103_ (zr_wide b104_ (by decide) (by decide)) (by omega)
  exact hlz85_ _ 0 M hok pvfr_0 (zr_wide (show 0 ≤ Int32.toInt 0 ∧ Int32.toInt 0 ≤ 0 from (by decide)) (by decide) (by decide)) (Nat.lt_succ_self _)
set_option maxHeartbeats 4000000 in
set_option maxRecDepth 10000 in
theorem sf_X10_way_124_x_x_x (M : pvM) (hok : pvOk M) (n1 : Int32) (n2 : Int32) (n3 : Int32) (hn1 : 0 ≤ Int32.toInt n1 ∧ Int32.toInt n1 ≤ 3) (hn2 : 0 ≤ Int32.toInt n2 ∧ Int32.toInt n2 ≤ 4) (hn3 : 0 ≤ Int32.toInt n3 ∧ Int32.toInt n3 ≤ 6) (d : Nat) : PW 95 d (0, [some (pvR 124), some (pvI n1), some (pvI n2), some (pvI n3)], [], M) (fun r X => (∃ x : Int32, r = some (pvI x) ∧ 0 ≤ Int32.toInt x ∧ Int32.toInt x ≤ 301) ∧ X = M) := by
  have hT : pvdom 95 = pvD_95 := rfl
  refine pw_blk hT 3 (S' := (3, [some (pvR 124), some (pvI n1), some (pvI n2), some (pvI n3)], [pvI 2, pvI 2, pvR 124], M)) rfl ⟨trivial, trivial, trivial, trivial⟩ ?_
  refine pw_callGp hT (as := [pvR 124, pvI 2, pvI 2]) (lo1 := [some (pvR 124), some (pvI 2), some (pvI 2), none, none]) (d1 := d) (rest := []) rfl rfl rfl rfl rfl (fun _ => rfl) (Nat.zero_le _) rfl rfl rfl (sf_X10_lastOf_124_x_x M hok 2 2 (zr_wide (show 2 ≤ Int32.toInt 2 ∧ Int32.toInt 2 ≤ 2 from (by decide)) (by decide) (by decide)) (zr_wide (show 2 ≤ Int32.toInt 2 ∧ Int32.toInt 2 ≤ 2 from (by decide)) (by decide) (by decide)) d) (fun x1_ b3_ => ?_)
  have b6_ : 0 ≤ Int32.toInt (M.1 127 (Int32.toNatClampNeg n3)) ∧ Int32.toInt (M.1 127 (Int32.toNatClampNeg n3)) ≤ 3 := pvok_r hok 127 (Int32.toNatClampNeg n3) rfl
  refine pw_blk hT 6 (S' := (14, [some (pvR 124), some (pvI n1), some (pvI n2), some (pvI n3)], [pvI (M.1 127 (Int32.toNatClampNeg n3)), pvI n1, pvR 124, pvI x1_], M)) rfl ⟨trivial, trivial, trivial, rfl, trivial, ⟨rfl, (zr_in (n := 7) hn3 (by decide) (by decide))⟩, trivial⟩ ?_
  refine pw_callT hT (as := [pvR 124, pvI n1, pvI (M.1 127 (Int32.toNatClampNeg n3))]) (lo1 := [some (pvR 124), some (pvI n1), some (pvI (M.1 127 (Int32.toNatClampNeg n3)))]) (d1 := d) (rest := [pvI x1_]) rfl rfl rfl rfl rfl (fun _ => rfl) (Nat.zero_le _) rfl rfl rfl (sf_X10_apart_124_x_x M hok n1 (M.1 127 (Int32.toNatClampNeg n3)) (zr_wide hn1 (by decide) (by decide)) (zr_wide b6_ (by decide) (by decide)) d) ?_
  by_cases c12_ : (M.1 127 (Int32.toNatClampNeg n3)) ≤ n1
  · refine pw_eqI (if_pos c12_) ?_
    have d13_ : Int32.toInt (M.1 127 (Int32.toNatClampNeg n3)) ≤ Int32.toInt n1 := (zi_le _ _).mp c12_
    obtain ⟨q15_, b14_⟩ : (Int32.toInt (n1 - (M.1 127 (Int32.toNatClampNeg n3))) = Int32.toInt n1 - Int32.toInt (M.1 127 (Int32.toNatClampNeg n3))) ∧ ((-3) ≤ Int32.toInt (n1 - (M.1 127 (Int32.toNatClampNeg n3))) ∧ Int32.toInt (n1 - (M.1 127 (Int32.toNatClampNeg n3))) ≤ 3) := zsub_r n1 (M.1 127 (Int32.toNatClampNeg n3)) (-3) 3 hn1 b6_ (by decide) (by decide) (by decide) (by decide)
    have b16_ : 0 ≤ Int32.toInt (n1 - (M.1 127 (Int32.toNatClampNeg n3))) ∧ Int32.toInt (n1 - (M.1 127 (Int32.toNatClampNeg n3))) ≤ 3 := (by have u0 := b14_; omega)
    show PW 95 d (17, [some (pvR 124), some (pvI n1), some (pvI n2), some (pvI n3)], [pvI (n1 - (M.1 127 (Int32.toNatClampNeg n3))), pvI x1_], M) _
    have b17_ : 0 ≤ Int32.toInt (x1_ * (n1 - (M.1 127 (Int32.toNatClampNeg n3)))) ∧ Int32.toInt (x1_ * (n1 - (M.1 127 (Int32.toNatClampNeg n3)))) ≤ 297 := (by have u := zmul_b x1_ (n1 - (M.1 127 (Int32.toNatClampNeg n3))) 99 3 (by have u0 := b3_; omega) (by have u0 := b16_; omega) (by decide); omega)
    have b18_ : 0 ≤ Int32.toInt (M.1 128 (Int32.toNatClampNeg n3)) ∧ Int32.toInt (M.1 128 (Int32.toNatClampNeg n3)) ≤ 4 := pvok_r hok 128 (Int32.toNatClampNeg n3) rfl
    refine pw_blk hT 7 (S' := (26, [some (pvR 124), some (pvI n1), some (pvI n2), some (pvI n3)], [pvI (M.1 128 (Int32.toNatClampNeg n3)), pvI n2, pvR 124, pvI (x1_ * (n1 - (M.1 127 (Int32.toNatClampNeg n3))))], M)) rfl ⟨trivial, trivial, trivial, trivial, rfl, trivial, ⟨rfl, (zr_in (n := 7) hn3 (by decide) (by decide))⟩, trivial⟩ ?_
    refine pw_callT hT (as := [pvR 124, pvI n2, pvI (M.1 128 (Int32.toNatClampNeg n3))]) (lo1 := [some (pvR 124), some (pvI n2), some (pvI (M.1 128 (Int32.toNatClampNeg n3)))]) (d1 := d) (rest := [pvI (x1_ * (n1 - (M.1 127 (Int32.toNatClampNeg n3))))]) rfl rfl rfl rfl rfl (fun _ => rfl) (Nat.zero_le _) rfl rfl rfl (sf_X10_apart_124_x_x M hok n2 (M.1 128 (Int32.toNatClampNeg n3)) hn2 b18_ d) ?_
    by_cases c24_ : (M.1 128 (Int32.toNatClampNeg n3)) ≤ n2
    · refine pw_eqI (if_pos c24_) ?_
      have d25_ : Int32.toInt (M.1 128 (Int32.toNatClampNeg n3)) ≤ Int32.toInt n2 := (zi_le _ _).mp c24_
      obtain ⟨q27_, b26_⟩ : (Int32.toInt (n2 - (M.1 128 (Int32.toNatClampNeg n3))) = Int32.toInt n2 - Int32.toInt (M.1 128 (Int32.toNatClampNeg n3))) ∧ ((-4) ≤ Int32.toInt (n2 - (M.1 128 (Int32.toNatClampNeg n3))) ∧ Int32.toInt (n2 - (M.1 128 (Int32.toNatClampNeg n3))) ≤ 4) := zsub_r n2 (M.1 128 (Int32.toNatClampNeg n3)) (-4) 4 hn2 b18_ (by decide) (by decide) (by decide) (by decide)
      have b28_ : 0 ≤ Int32.toInt (n2 - (M.1 128 (Int32.toNatClampNeg n3))) ∧ Int32.toInt (n2 - (M.1 128 (Int32.toNatClampNeg n3))) ≤ 4 := (by have u0 := b26_; omega)
      show PW 95 d (29, [some (pvR 124), some (pvI n1), some (pvI n2), some (pvI n3)], [pvI (n2 - (M.1 128 (Int32.toNatClampNeg n3))), pvI (x1_ * (n1 - (M.1 127 (Int32.toNatClampNeg n3))))], M) _
      obtain ⟨q30_, b29_⟩ : (Int32.toInt ((x1_ * (n1 - (M.1 127 (Int32.toNatClampNeg n3)))) + (n2 - (M.1 128 (Int32.toNatClampNeg n3)))) = Int32.toInt (x1_ * (n1 - (M.1 127 (Int32.toNatClampNeg n3)))) + Int32.toInt (n2 - (M.1 128 (Int32.toNatClampNeg n3)))) ∧ (0 ≤ Int32.toInt ((x1_ * (n1 - (M.1 127 (Int32.toNatClampNeg n3)))) + (n2 - (M.1 128 (Int32.toNatClampNeg n3)))) ∧ Int32.toInt ((x1_ * (n1 - (M.1 127 (Int32.toNatClampNeg n3)))) + (n2 - (M.1 128 (Int32.toNatClampNeg n3)))) ≤ 301) := zadd_r (x1_ * (n1 - (M.1 127 (Int32.toNatClampNeg n3)))) (n2 - (M.1 128 (Int32.toNatClampNeg n3))) 0 301 b17_ b28_ (by decide) (by decide) (by decide) (by decide)
      refine pw_blk hT 1 (S' := (30, [some (pvR 124), some (pvI n1), some (pvI n2), some (pvI n3)], [pvI ((x1_ * (n1 - (M.1 127 (Int32.toNatClampNeg n3)))) + (n2 - (M.1 128 (Int32.toNatClampNeg n3))))], M)) rfl ⟨trivial, trivial⟩ ?_
      exact pw_ret hT rfl (r := some (pvI ((x1_ * (n1 - (M.1 127 (Int32.toNatClampNeg n3)))) + (n2 - (M.1 128 (Int32.toNatClampNeg n3)))))) (M' := M) ⟨rfl, rfl⟩ ⟨⟨_, rfl, b29_⟩, rfl⟩
    · refine pw_eqI (if_neg c24_) ?_
      have b31_ : 1 ≤ Int32.toInt (M.1 128 (Int32.toNatClampNeg n3)) ∧ Int32.toInt (M.1 128 (Int32.toNatClampNeg n3)) ≤ 4 := zr_nle_l 1 c24_ b18_ hn2 (by decide)
      have b32_ : 0 ≤ Int32.toInt n2 ∧ Int32.toInt n2 ≤ 3 := zr_nle_r 3 c24_ hn2 b31_ (by decide)
      have d33_ : Int32.toInt (M.1 128 (Int32.toNatClampNeg n3)) > Int32.toInt n2 := Int.not_le.mp ((not_congr (zi_le _ _)).mp c24_)
      obtain ⟨q35_, b34_⟩ : (Int32.toInt ((M.1 128 (Int32.toNatClampNeg n3)) - n2) = Int32.toInt (M.1 128 (Int32.toNatClampNeg n3)) - Int32.toInt n2) ∧ ((-2) ≤ Int32.toInt ((M.1 128 (Int32.toNatClampNeg n3)) - n2) ∧ Int32.toInt ((M.1 128 (Int32.toNatClampNeg n3)) - n2) ≤ 4) := zsub_r (M.1 128 (Int32.toNatClampNeg n3)) n2 (-2) 4 b31_ b32_ (by decide) (by decide) (by decide) (by decide)
      have b36_ : 1 ≤ Int32.toInt ((M.1 128 (Int32.toNatClampNeg n3)) - n2) ∧ Int32.toInt ((M.1 128 (Int32.toNatClampNeg n3)) - n2) ≤ 4 := (by have u0 := b34_; omega)
      show PW 95 d (29, [some (pvR 124), some (pvI n1), some (pvI n2), some (pvI n3)], [pvI ((M.1 128 (Int32.toNatClampNeg n3)) - n2), pvI (x1_ * (n1 - (M.1 127 (Int32.toNatClampNeg n3))))], M) _
      obtain ⟨q38_, b37_⟩ : (Int32.toInt ((x1_ * (n1 - (M.1 127 (Int32.toNatClampNeg n3)))) + ((M.1 128 (Int32.toNatClampNeg n3)) - n2)) = Int32.toInt (x1_ * (n1 - (M.1 127 (Int32.toNatClampNeg n3)))) + Int32.toInt ((M.1 128 (Int32.toNatClampNeg n3)) - n2)) ∧ (1 ≤ Int32.toInt ((x1_ * (n1 - (M.1 127 (Int32.toNatClampNeg n3)))) + ((M.1 128 (Int32.toNatClampNeg n3)) - n2)) ∧ Int32.toInt ((x1_ * (n1 - (M.1 127 (Int32.toNatClampNeg n3)))) + ((M.1 128 (Int32.toNatClampNeg n3)) - n2)) ≤ 301) := zadd_r (x1_ * (n1 - (M.1 127 (Int32.toNatClampNeg n3)))) ((M.1 128 (Int32.toNatClampNeg n3)) - n2) 1 301 b17_ b36_ (by decide) (by decide) (by decide) (by decide)
      refine pw_blk hT 1 (S' := (30, [some (pvR 124), some (pvI n1), some (pvI n2), some (pvI n3)], [pvI ((x1_ * (n1 - (M.1 127 (Int32.toNatClampNeg n3)))) + ((M.1 128 (Int32.toNatClampNeg n3)) - n2))], M)) rfl ⟨trivial, trivial⟩ ?_
      exact pw_ret hT rfl (r := some (pvI ((x1_ * (n1 - (M.1 127 (Int32.toNatClampNeg n3)))) + ((M.1 128 (Int32.toNatClampNeg n3)) - n2)))) (M' := M) ⟨rfl, rfl⟩ ⟨⟨_, rfl, (zr_wide b37_ (by decide) (by decide))⟩, rfl⟩
  · refine pw_eqI (if_neg c12_) ?_
    have b39_ : 1 ≤ Int32.toInt (M.1 127 (Int32.toNatClampNeg n3)) ∧ Int32.toInt (M.1 127 (Int32.toNatClampNeg n3)) ≤ 3 := zr_nle_l 1 c12_ b6_ hn1 (by decide)
    have b40_ : 0 ≤ Int32.toInt n1 ∧ Int32.toInt n1 ≤ 2 := zr_nle_r 2 c12_ hn1 b39_ (by decide)
    have d41_ : Int32.toInt (M.1 127 (Int32.toNatClampNeg n3)) > Int32.toInt n1 := Int.not_le.mp ((not_congr (zi_le _ _)).mp c12_)
    obtain ⟨q43_, b42_⟩ : (Int32.toInt ((M.1 127 (Int32.toNatClampNeg n3)) - n1) = Int32.toInt (M.1 127 (Int32.toNatClampNeg n3)) - Int32.toInt n1) ∧ ((-1) ≤ Int32.toInt ((M.1 127 (Int32.toNatClampNeg n3)) - n1) ∧ Int32.toInt ((M.1 127 (Int32.toNatClampNeg n3)) - n1) ≤ 3) := zsub_r (M.1 127 (Int32.toNatClampNeg n3)) n1 (-1) 3 b39_ b40_ (by decide) (by decide) (by decide) (by decide)
    have b44_ : 1 ≤ Int32.toInt ((M.1 127 (Int32.toNatClampNeg n3)) - n1) ∧ Int32.toInt ((M.1 127 (Int32.toNatClampNeg n3)) - n1) ≤ 3 := (by have u0 := b42_; omega)
    show PW 95 d (17, [some (pvR 124), some (pvI n1), some (pvI n2), some (pvI n3)], [pvI ((M.1 127 (Int32.toNatClampNeg n3)) - n1), pvI x1_], M) _
    have b45_ : 0 ≤ Int32.toInt (x1_ * ((M.1 127 (Int32.toNatClampNeg n3)) - n1)) ∧ Int32.toInt (x1_ * ((M.1 127 (Int32.toNatClampNeg n3)) - n1)) ≤ 297 := (by have u := zmul_b x1_ ((M.1 127 (Int32.toNatClampNeg n3)) - n1) 99 3 (by have u0 := b3_; omega) (by have u0 := b44_; omega) (by decide); omega)
    have b46_ : 0 ≤ Int32.toInt (M.1 128 (Int32.toNatClampNeg n3)) ∧ Int32.toInt (M.1 128 (Int32.toNatClampNeg n3)) ≤ 4 := pvok_r hok 128 (Int32.toNatClampNeg n3) rfl
    refine pw_blk hT 7 (S' := (26, [some (pvR 124), some (pvI n1), some (pvI n2), some (pvI n3)], [pvI (M.1 128 (Int32.toNatClampNeg n3)), pvI n2, pvR 124, pvI (x1_ * ((M.1 127 (Int32.toNatClampNeg n3)) - n1))], M)) rfl ⟨trivial, trivial, trivial, trivial, rfl, trivial, ⟨rfl, (zr_in (n := 7) hn3 (by decide) (by decide))⟩, trivial⟩ ?_
    refine pw_callT hT (as := [pvR 124, pvI n2, pvI (M.1 128 (Int32.toNatClampNeg n3))]) (lo1 := [some (pvR 124), some (pvI n2), some (pvI (M.1 128 (Int32.toNatClampNeg n3)))]) (d1 := d) (rest := [pvI (x1_ * ((M.1 127 (Int32.toNatClampNeg n3)) - n1))]) rfl rfl rfl rfl rfl (fun _ => rfl) (Nat.zero_le _) rfl rfl rfl (sf_X10_apart_124_x_x M hok n2 (M.1 128 (Int32.toNatClampNeg n3)) hn2 b46_ d) ?_
    by_cases c52_ : (M.1 128 (Int32.toNatClampNeg n3)) ≤ n2
    · refine pw_eqI (if_pos c52_) ?_
      have d53_ : Int32.toInt (M.1 128 (Int32.toNatClampNeg n3)) ≤ Int32.toInt n2 := (zi_le _ _).mp c52_
      obtain ⟨q55_, b54_⟩ : (Int32.toInt (n2 - (M.1 128 (Int32.toNatClampNeg n3))) = Int32.toInt n2 - Int32.toInt (M.1 128 (Int32.toNatClampNeg n3))) ∧ ((-4) ≤ Int32.toInt (n2 - (M.1 128 (Int32.toNatClampNeg n3))) ∧ Int32.toInt (n2 - (M.1 128 (Int32.toNatClampNeg n3))) ≤ 4) := zsub_r n2 (M.1 128 (Int32.toNatClampNeg n3)) (-4) 4 hn2 b46_ (by decide) (by decide) (by decide) (by decide)
      have b56_ : 0 ≤ Int32.toInt (n2 - (M.1 128 (Int32.toNatClampNeg n3))) ∧ Int32.toInt (n2 - (M.1 128 (Int32.toNatClampNeg n3))) ≤ 4 := (by have u0 := b54_; omega)
      show PW 95 d (29, [some (pvR 124), some (pvI n1), some (pvI n2), some (pvI n3)], [pvI (n2 - (M.1 128 (Int32.toNatClampNeg n3))), pvI (x1_ * ((M.1 127 (Int32.toNatClampNeg n3)) - n1))], M) _
      obtain ⟨q58_, b57_⟩ : (Int32.toInt ((x1_ * ((M.1 127 (Int32.toNatClampNeg n3)) - n1)) + (n2 - (M.1 128 (Int32.toNatClampNeg n3)))) = Int32.toInt (x1_ * ((M.1 127 (Int32.toNatClampNeg n3)) - n1)) + Int32.toInt (n2 - (M.1 128 (Int32.toNatClampNeg n3)))) ∧ (0 ≤ Int32.toInt ((x1_ * ((M.1 127 (Int32.toNatClampNeg n3)) - n1)) + (n2 - (M.1 128 (Int32.toNatClampNeg n3)))) ∧ Int32.toInt ((x1_ * ((M.1 127 (Int32.toNatClampNeg n3)) - n1)) + (n2 - (M.1 128 (Int32.toNatClampNeg n3)))) ≤ 301) := zadd_r (x1_ * ((M.1 127 (Int32.toNatClampNeg n3)) - n1)) (n2 - (M.1 128 (Int32.toNatClampNeg n3))) 0 301 b45_ b56_ (by decide) (by decide) (by decide) (by decide)
      refine pw_blk hT 1 (S' := (30, [some (pvR 124), some (pvI n1), some (pvI n2), some (pvI n3)], [pvI ((x1_ * ((M.1 127 (Int32.toNatClampNeg n3)) - n1)) + (n2 - (M.1 128 (Int32.toNatClampNeg n3))))], M)) rfl ⟨trivial, trivial⟩ ?_
      exact pw_ret hT rfl (r := some (pvI ((x1_ * ((M.1 127 (Int32.toNatClampNeg n3)) - n1)) + (n2 - (M.1 128 (Int32.toNatClampNeg n3)))))) (M' := M) ⟨rfl, rfl⟩ ⟨⟨_, rfl, b57_⟩, rfl⟩
    · refine pw_eqI (if_neg c52_) ?_
      have b59_ : 1 ≤ Int32.toInt (M.1 128 (Int32.toNatClampNeg n3)) ∧ Int32.toInt (M.1 128 (Int32.toNatClampNeg n3)) ≤ 4 := zr_nle_l 1 c52_ b46_ hn2 (by decide)
      have b60_ : 0 ≤ Int32.toInt n2 ∧ Int32.toInt n2 ≤ 3 := zr_nle_r 3 c52_ hn2 b59_ (by decide)
      have d61_ : Int32.toInt (M.1 128 (Int32.toNatClampNeg n3)) > Int32.toInt n2 := Int.not_le.mp ((not_congr (zi_le _ _)).mp c52_)
      obtain ⟨q63_, b62_⟩ : (Int32.toInt ((M.1 128 (Int32.toNatClampNeg n3)) - n2) = Int32.toInt (M.1 128 (Int32.toNatClampNeg n3)) - Int32.toInt n2) ∧ ((-2) ≤ Int32.toInt ((M.1 128 (Int32.toNatClampNeg n3)) - n2) ∧ Int32.toInt ((M.1 128 (Int32.toNatClampNeg n3)) - n2) ≤ 4) := zsub_r (M.1 128 (Int32.toNatClampNeg n3)) n2 (-2) 4 b59_ b60_ (by decide) (by decide) (by decide) (by decide)
      have b64_ : 1 ≤ Int32.toInt ((M.1 128 (Int32.toNatClampNeg n3)) - n2) ∧ Int32.toInt ((M.1 128 (Int32.toNatClampNeg n3)) - n2) ≤ 4 := (by have u0 := b62_; omega)
      show PW 95 d (29, [some (pvR 124), some (pvI n1), some (pvI n2), some (pvI n3)], [pvI ((M.1 128 (Int32.toNatClampNeg n3)) - n2), pvI (x1_ * ((M.1 127 (Int32.toNatClampNeg n3)) - n1))], M) _
      obtain ⟨q66_, b65_⟩ : (Int32.toInt ((x1_ * ((M.1 127 (Int32.toNatClampNeg n3)) - n1)) + ((M.1 128 (Int32.toNatClampNeg n3)) - n2)) = Int32.toInt (x1_ * ((M.1 127 (Int32.toNatClampNeg n3)) - n1)) + Int32.toInt ((M.1 128 (Int32.toNatClampNeg n3)) - n2)) ∧ (1 ≤ Int32.toInt ((x1_ * ((M.1 127 (Int32.toNatClampNeg n3)) - n1)) + ((M.1 128 (Int32.toNatClampNeg n3)) - n2)) ∧ Int32.toInt ((x1_ * ((M.1 127 (Int32.toNatClampNeg n3)) - n1)) + ((M.1 128 (Int32.toNatClampNeg n3)) - n2)) ≤ 301) := zadd_r (x1_ * ((M.1 127 (Int32.toNatClampNeg n3)) - n1)) ((M.1 128 (Int32.toNatClampNeg n3)) - n2) 1 301 b45_ b64_ (by decide) (by decide) (by decide) (by decide)
      refine pw_blk hT 1 (S' := (30, [some (pvR 124), some (pvI n1), some (pvI n2), some (pvI n3)], [pvI ((x1_ * ((M.1 127 (Int32.toNatClampNeg n3)) - n1)) + ((M.1 128 (Int32.toNatClampNeg n3)) - n2))], M)) rfl ⟨trivial, trivial⟩ ?_
      exact pw_ret hT rfl (r := some (pvI ((x1_ * ((M.1 127 (Int32.toNatClampNeg n3)) - n1)) + ((M.1 128 (Int32.toNatClampNeg n3)) - n2)))) (M' := M) ⟨rfl, rfl⟩ ⟨⟨_, rfl, (zr_wide b65_ (by decide) (by decide))⟩, rfl⟩
set_option maxHeartbeats 4000000 in
set_option maxRecDepth 10000 in
theorem sf_X10_shutting_124_x (M : pvM) (hok : pvOk M) (n1 : Int32) (hn1 : 0 ≤ Int32.toInt n1 ∧ Int32.toInt n1 ≤ 6) (d : Nat) : PW 76 d (0, [some (pvR 124), some (pvI n1)], [], M) (fun r X => r = some (pvI ((if (M.1 125 (Int32.toNatClampNeg n1)) = 1 then (2 * (M.1 129 (Int32.toNatClampNeg n1))) else (if (M.1 125 (Int32.toNatClampNeg n1)) = 4 then (2 * (M.1 129 (Int32.toNatClampNeg n1))) else (M.1 129 (Int32.toNatClampNeg n1)))))) ∧ X = M) := by
  have hT : pvdom 76 = pvD_76 := rfl
  have b1_ : 0 ≤ Int32.toInt (M.1 125 (Int32.toNatClampNeg n1)) ∧ Int32.toInt (M.1 125 (Int32.toNatClampNeg n1)) ≤ 6 := pvok_r hok 125 (Int32.toNatClampNeg n1) rfl
  refine pw_blk hT 5 (S' := (7, [some (pvR 124), some (pvI n1)], [pvI 1, pvI (M.1 125 (Int32.toNatClampNeg n1))], M)) rfl ⟨trivial, rfl, trivial, ⟨rfl, (zr_in (n := 7) hn1 (by decide) (by decide))⟩, trivial, trivial⟩ ?_
  refine pw_ic hT (c := (M.1 125 (Int32.toNatClampNeg n1)) = 1) rfl rfl (fun c2_ => ?_) (fun c2_ => ?_)
  · have b3_ : 1 ≤ Int32.toInt (M.1 125 (Int32.toNatClampNeg n1)) ∧ Int32.toInt (M.1 125 (Int32.toNatClampNeg n1)) ≤ 1 := (by have u0 := b1_; have u1 := (zi_eq _ _).mp c2_; have u2 := (show 1 ≤ Int32.toInt 1 ∧ Int32.toInt 1 ≤ 1 from (by decide)); omega)
    have b4_ : 0 ≤ Int32.toInt (M.1 129 (Int32.toNatClampNeg n1)) ∧ Int32.toInt (M.1 129 (Int32.toNatClampNeg n1)) ≤ 9 := pvok_r hok 129 (Int32.toNatClampNeg n1) rfl
    have q5_ : Int32.toInt (2 * (M.1 129 (Int32.toNatClampNeg n1))) = 2 * Int32.toInt (M.1 129 (Int32.toNatClampNeg n1)) := by have u0 : Int32.toInt 2 = 2 := (by decide); have u1 := b4_; have u2 := zmul 2 (M.1 129 (Int32.toNatClampNeg n1)) (by rw [u0]; omega) (by rw [u0]; omega); rw [u0] at u2; omega
    have b6_ : 0 ≤ Int32.toInt (2 * (M.1 129 (Int32.toNatClampNeg n1))) ∧ Int32.toInt (2 * (M.1 129 (Int32.toNatClampNeg n1))) ≤ 18 := (by have u1 := b4_; omega)
    refine pw_blk hT 7 (S' := (37, [some (pvR 124), some (pvI n1)], [pvI (2 * (M.1 129 (Int32.toNatClampNeg n1)))], M)) rfl ⟨trivial, trivial, rfl, trivial, ⟨rfl, (zr_in (n := 7) hn1 (by decide) (by decide))⟩, trivial, trivial, trivial⟩ ?_
    exact pw_ret hT rfl (r := some (pvI (2 * (M.1 129 (Int32.toNatClampNeg n1))))) (M' := M) ⟨rfl, rfl⟩ ⟨(by rw [if_pos c2_]), rfl⟩
  · refine pw_blk hT 5 (S' := (17, [some (pvR 124), some (pvI n1)], [pvI 4, pvI (M.1 125 (Int32.toNatClampNeg n1))], M)) rfl ⟨trivial, rfl, trivial, ⟨rfl, (zr_in (n := 7) hn1 (by decide) (by decide))⟩, trivial, trivial⟩ ?_
    refine pw_icn hT (c := (M.1 125 (Int32.toNatClampNeg n1)) = 4) rfl rfl (fun c7_ => ?_) (fun c7_ => ?_)
    · have b8_ : 0 ≤ Int32.toInt (M.1 129 (Int32.toNatClampNeg n1)) ∧ Int32.toInt (M.1 129 (Int32.toNatClampNeg n1)) ≤ 9 := pvok_r hok 129 (Int32.toNatClampNeg n1) rfl
      refine pw_blk hT 4 (S' := (37, [some (pvR 124), some (pvI n1)], [pvI (M.1 129 (Int32.toNatClampNeg n1))], M)) rfl ⟨trivial, rfl, trivial, ⟨rfl, (zr_in (n := 7) hn1 (by decide) (by decide))⟩, trivial⟩ ?_
      exact pw_ret hT rfl (r := some (pvI (M.1 129 (Int32.toNatClampNeg n1)))) (M' := M) ⟨rfl, rfl⟩ ⟨(by rw [if_neg c2_, if_neg c7_]), rfl⟩
    · have b9_ : 4 ≤ Int32.toInt (M.1 125 (Int32.toNatClampNeg n1)) ∧ Int32.toInt (M.1 125 (Int32.toNatClampNeg n1)) ≤ 4 := (by have u0 := b1_; have u1 := (zi_eq _ _).mp c7_; have u2 := (show 4 ≤ Int32.toInt 4 ∧ Int32.toInt 4 ≤ 4 from (by decide)); omega)
      have b10_ : 0 ≤ Int32.toInt (M.1 129 (Int32.toNatClampNeg n1)) ∧ Int32.toInt (M.1 129 (Int32.toNatClampNeg n1)) ≤ 9 := pvok_r hok 129 (Int32.toNatClampNeg n1) rfl
      have q11_ : Int32.toInt (2 * (M.1 129 (Int32.toNatClampNeg n1))) = 2 * Int32.toInt (M.1 129 (Int32.toNatClampNeg n1)) := by have u0 : Int32.toInt 2 = 2 := (by decide); have u1 := b10_; have u2 := zmul 2 (M.1 129 (Int32.toNatClampNeg n1)) (by rw [u0]; omega) (by rw [u0]; omega); rw [u0] at u2; omega
      have b12_ : 0 ≤ Int32.toInt (2 * (M.1 129 (Int32.toNatClampNeg n1))) ∧ Int32.toInt (2 * (M.1 129 (Int32.toNatClampNeg n1))) ≤ 18 := (by have u1 := b10_; omega)
      refine pw_blk hT 7 (S' := (37, [some (pvR 124), some (pvI n1)], [pvI (2 * (M.1 129 (Int32.toNatClampNeg n1)))], M)) rfl ⟨trivial, trivial, rfl, trivial, ⟨rfl, (zr_in (n := 7) hn1 (by decide) (by decide))⟩, trivial, trivial, trivial⟩ ?_
      exact pw_ret hT rfl (r := some (pvI (2 * (M.1 129 (Int32.toNatClampNeg n1))))) (M' := M) ⟨rfl, rfl⟩ ⟨(by rw [if_neg c2_, if_pos c7_]), rfl⟩
def fpL_X10_goes_124_x_x_x : List (Nat × Nat × Nat) := [(0, 143, 0)]
def fp_X10_goes_124_x_x_x (q k : Nat) : Bool := pvfp fpL_X10_goes_124_x_x_x q k
set_option maxHeartbeats 4000000 in
set_option maxRecDepth 10000 in
theorem sf_X10_goes_124_x_x_x (M : pvM) (hok : pvOk M) (n1 : Int32) (n2 : Int32) (n3 : Int32) (hn1 : 0 ≤ Int32.toInt n1 ∧ Int32.toInt n1 ≤ 7) (hn2 : 0 ≤ Int32.toInt n2 ∧ Int32.toInt n2 ≤ 7) (hn3 : 0 ≤ Int32.toInt n3 ∧ Int32.toInt n3 ≤ 60000) (d : Nat) : PW 24 d (0, [some (pvR 124), some (pvI n1), some (pvI n2), some (pvI n3), none, none, none, none, none], [], M) (fun r X => (∃ x : Int32, r = some (pvI x) ∧ 0 ≤ Int32.toInt x ∧ Int32.toInt x ≤ 64000) ∧ pvOk X ∧ pvFr fp_X10_goes_124_x_x_x M X) := by
  have hT : pvdom 24 = pvD_24 := rfl
  have b1_ : 0 ≤ Int32.toInt (M.1 124 5) ∧ Int32.toInt (M.1 124 5) ≤ 3 := pvok_r hok 124 5 rfl
  have b2_ : 0 ≤ Int32.toInt (M.1 124 6) ∧ Int32.toInt (M.1 124 6) ≤ 4 := pvok_r hok 124 6 rfl
  refine pw_blk hT 10 (S' := (18, [some (pvR 124), some (pvI n1), some (pvI n2), some (pvI n3), some (pvI n3), some (pvI (M.1 124 5)), some (pvI (M.1 124 6)), some (pvI n1), none], [], M)) rfl ⟨trivial, trivial, trivial, rfl, trivial, trivial, rfl, trivial, trivial, trivial, trivial⟩ ?_
  have hlz297_ : ∀ (nz297_ : Nat) (i4z297_ : Int32) (i5z297_ : Int32) (i6z297_ : Int32) (i7z297_ : Int32) (v8z297_ : Option pvV) (Mz297_ : pvM), (pvOk Mz297_) → (pvFr fp_X10_goes_124_x_x_x M Mz297_) → (0 ≤ Int32.toInt i4z297_ ∧ Int32.toInt i4z297_ ≤ 64000) → (0 ≤ Int32.toInt i5z297_ ∧ Int32.toInt i5z297_ ≤ 3) → (0 ≤ Int32.toInt i6z297_ ∧ Int32.toInt i6z297_ ≤ 4) → (0 ≤ Int32.toInt i7z297_ ∧ Int32.toInt i7z297_ ≤ 7) → (Int32.toInt i4z297_ ≤ 60000 + 320 * Int32.toInt i7z297_) → (0 ≤ Int32.toInt i4z297_) → ((8 - Int32.toInt i7z297_).toNat < nz297_) → PW 24 d (18, [some (pvR 124), some (pvI n1), some (pvI n2), some (pvI n3), some (pvI i4z297_), some (pvI i5z297_), some (pvI i6z297_), some (pvI i7z297_), v8z297_], [], Mz297_) (fun r X => (∃ x : Int32, r = some (pvI x) ∧ 0 ≤ Int32.toInt x ∧ Int32.toInt x ≤ 64000) ∧ pvOk X ∧ pvFr fp_X10_goes_124_x_x_x M X) := by
    intro nz297_
    induction nz297_ with
    | zero => intro i4z297_ i5z297_ i6z297_ i7z297_ v8z297_ Mz297_ oz297_ fz297_ h4z297_ h5z297_ h6z297_ h7z297_ j0z297_ j1z297_ hmz297_; exact absurd hmz297_ (Nat.not_lt_zero _)
    | succ nz297_ ihz297_ =>
      intro i4z297_ i5z297_ i6z297_ i7z297_ v8z297_ Mz297_ oz297_ fz297_ h4z297_ h5z297_ h6z297_ h7z297_ j0z297_ j1z297_ hmz297_
      refine pw_blk hT 2 (S' := (21, [some (pvR 124), some (pvI n1), some (pvI n2), some (pvI n3), some (pvI i4z297_), some (pvI i5z297_), some (pvI i6z297_), some (pvI i7z297_), v8z297_], [pvI n2, pvI i7z297_], Mz297_)) rfl ⟨trivial, trivial, trivial⟩ ?_
      refine pw_ic hT (c := n2 ≤ i7z297_) rfl rfl (fun c298_ => ?_) (fun c298_ => ?_)
      · have d299_ : Int32.toInt n2 ≤ Int32.toInt i7z297_ := (zi_le _ _).mp c298_
        refine pw_blk hT 1 (S' := (103, [some (pvR 124), some (pvI n1), some (pvI n2), some (pvI n3), some (pvI i4z297_), some (pvI i5z297_), some (pvI i6z297_), some (pvI i7z297_), v8z297_], [pvI i4z297_], Mz297_)) rfl ⟨trivial, trivial⟩ ?_
        exact pw_ret hT rfl (r := some (pvI i4z297_)) (M' := Mz297_) ⟨rfl, rfl⟩ ⟨⟨_, rfl, h4z297_⟩, oz297_, fz297_⟩
      · have b300_ : 1 ≤ Int32.toInt n2 ∧ Int32.toInt n2 ≤ 7 := zr_nle_l 1 c298_ hn2 h7z297_ (by decide)
        have b301_ : 0 ≤ Int32.toInt i7z297_ ∧ Int32.toInt i7z297_ ≤ 6 := zr_nle_r 6 c298_ h7z297_ b300_ (by decide)
        have d302_ : Int32.toInt n2 > Int32.toInt i7z297_ := Int.not_le.mp ((not_congr (zi_le _ _)).mp c298_)
        have b303_ : 0 ≤ Int32.toInt (Mz297_.1 144 (Int32.toNatClampNeg i7z297_)) ∧ Int32.toInt (Mz297_.1 144 (Int32.toNatClampNeg i7z297_)) ≤ 6 := pvok_r oz297_ 144 (Int32.toNatClampNeg i7z297_) rfl
        have b304_ : 0 ≤ Int32.toInt (Mz297_.1 131 (Int32.toNatClampNeg (Mz297_.1 144 (Int32.toNatClampNeg i7z297_)))) ∧ Int32.toInt (Mz297_.1 131 (Int32.toNatClampNeg (Mz297_.1 144 (Int32.toNatClampNeg i7z297_)))) ≤ 1 := pvok_r oz297_ 131 (Int32.toNatClampNeg (Mz297_.1 144 (Int32.toNatClampNeg i7z297_))) rfl
        refine pw_blk hT 9 (S' := (40, [some (pvR 124), some (pvI n1), some (pvI n2), some (pvI n3), some (pvI i4z297_), some (pvI i5z297_), some (pvI i6z297_), some (pvI i7z297_), some (pvI (Mz297_.1 144 (Int32.toNatClampNeg i7z297_)))], [pvI (Mz297_.1 131 (Int32.toNatClampNeg (Mz297_.1 144 (Int32.toNatClampNeg i7z297_))))], Mz297_)) rfl ⟨trivial, rfl, trivial, ⟨rfl, (zr_in (n := 7) b301_ (by decide) (by decide))⟩, trivial, trivial, rfl, trivial, ⟨rfl, (zr_in (n := 7) b303_ (by decide) (by decide))⟩, trivial⟩ ?_
        refine pw_if hT (c := (Mz297_.1 131 (Int32.toNatClampNeg (Mz297_.1 144 (Int32.toNatClampNeg i7z297_)))) = 0) rfl rfl (fun c305_ => ?_) (fun c305_ => ?_)
        · have b306_ : 0 ≤ Int32.toInt (Mz297_.1 131 (Int32.toNatClampNeg (Mz297_.1 144 (Int32.toNatClampNeg i7z297_)))) ∧ Int32.toInt (Mz297_.1 131 (Int32.toNatClampNeg (Mz297_.1 144 (Int32.toNatClampNeg i7z297_)))) ≤ 0 := (by have u0 := b304_; have u1 := (zi_eq _ _).mp c305_; have u2 := (show 0 ≤ Int32.toInt 0 ∧ Int32.toInt 0 ≤ 0 from (by decide)); omega)
          refine pw_blk hT 5 (S' := (55, [some (pvR 124), some (pvI n1), some (pvI n2), some (pvI n3), some (pvI i4z297_), some (pvI i5z297_), some (pvI i6z297_), some (pvI i7z297_), some (pvI (Mz297_.1 144 (Int32.toNatClampNeg i7z297_)))], [pvI (Mz297_.1 144 (Int32.toNatClampNeg i7z297_)), pvI i6z297_, pvI i5z297_, pvR 124, pvI i4z297_], Mz297_)) rfl ⟨trivial, trivial, trivial, trivial, trivial, trivial⟩ ?_
          refine pw_callGp hT (as := [pvR 124, pvI i5z297_, pvI i6z297_, pvI (Mz297_.1 144 (Int32.toNatClampNeg i7z297_))]) (lo1 := [some (pvR 124), some (pvI i5z297_), some (pvI i6z297_), some (pvI (Mz297_.1 144 (Int32.toNatClampNeg i7z297_)))]) (d1 := d) (rest := [pvI i4z297_]) rfl rfl rfl rfl rfl (fun _ => rfl) (Nat.zero_le _) rfl rfl rfl (sf_X10_way_124_x_x_x Mz297_ oz297_ i5z297_ i6z297_ (Mz297_.1 144 (Int32.toNatClampNeg i7z297_)) h5z297_ h6z297_ b303_ d) (fun x307_ b309_ => ?_)
          refine pw_blk hT 2 (S' := (61, [some (pvR 124), some (pvI n1), some (pvI n2), some (pvI n3), some (pvI i4z297_), some (pvI i5z297_), some (pvI i6z297_), some (pvI i7z297_), some (pvI (Mz297_.1 144 (Int32.toNatClampNeg i7z297_)))], [pvI (Mz297_.1 144 (Int32.toNatClampNeg i7z297_)), pvR 124, pvI x307_, pvI i4z297_], Mz297_)) rfl ⟨trivial, trivial, trivial⟩ ?_
          refine pw_callT hT (as := [pvR 124, pvI (Mz297_.1 144 (Int32.toNatClampNeg i7z297_))]) (lo1 := [some (pvR 124), some (pvI (Mz297_.1 144 (Int32.toNatClampNeg i7z297_)))]) (d1 := d) (rest := [pvI x307_, pvI i4z297_]) rfl rfl rfl rfl rfl (fun _ => rfl) (Nat.zero_le _) rfl rfl rfl (sf_X10_shutting_124_x Mz297_ oz297_ (Mz297_.1 144 (Int32.toNatClampNeg i7z297_)) b303_ d) ?_
          have b317_ : 0 ≤ Int32.toInt (Mz297_.1 125 (Int32.toNatClampNeg (Mz297_.1 144 (Int32.toNatClampNeg i7z297_)))) ∧ Int32.toInt (Mz297_.1 125 (Int32.toNatClampNeg (Mz297_.1 144 (Int32.toNatClampNeg i7z297_)))) ≤ 6 := pvok_r oz297_ 125 (Int32.toNatClampNeg (Mz297_.1 144 (Int32.toNatClampNeg i7z297_))) rfl
          by_cases c318_ : (Mz297_.1 125 (Int32.toNatClampNeg (Mz297_.1 144 (Int32.toNatClampNeg i7z297_)))) = 1
          · refine pw_eqI (if_pos c318_) ?_
            have b319_ : 1 ≤ Int32.toInt (Mz297_.1 125 (Int32.toNatClampNeg (Mz297_.1 144 (Int32.toNatClampNeg i7z297_)))) ∧ Int32.toInt (Mz297_.1 125 (Int32.toNatClampNeg (Mz297_.1 144 (Int32.toNatClampNeg i7z297_)))) ≤ 1 := (by have u0 := b317_; have u1 := (zi_eq _ _).mp c318_; have u2 := (show 1 ≤ Int32.toInt 1 ∧ Int32.toInt 1 ≤ 1 from (by decide)); omega)
            have b320_ : 0 ≤ Int32.toInt (Mz297_.1 129 (Int32.toNatClampNeg (Mz297_.1 144 (Int32.toNatClampNeg i7z297_)))) ∧ Int32.toInt (Mz297_.1 129 (Int32.toNatClampNeg (Mz297_.1 144 (Int32.toNatClampNeg i7z297_)))) ≤ 9 := pvok_r oz297_ 129 (Int32.toNatClampNeg (Mz297_.1 144 (Int32.toNatClampNeg i7z297_))) rfl
            have q321_ : Int32.toInt (2 * (Mz297_.1 129 (Int32.toNatClampNeg (Mz297_.1 144 (Int32.toNatClampNeg i7z297_))))) = 2 * Int32.toInt (Mz297_.1 129 (Int32.toNatClampNeg (Mz297_.1 144 (Int32.toNatClampNeg i7z297_)))) := by have u0 : Int32.toInt 2 = 2 := (by decide); have u1 := b320_; have u2 := zmul 2 (Mz297_.1 129 (Int32.toNatClampNeg (Mz297_.1 144 (Int32.toNatClampNeg i7z297_)))) (by rw [u0]; omega) (by rw [u0]; omega); rw [u0] at u2; omega
            have b322_ : 0 ≤ Int32.toInt (2 * (Mz297_.1 129 (Int32.toNatClampNeg (Mz297_.1 144 (Int32.toNatClampNeg i7z297_))))) ∧ Int32.toInt (2 * (Mz297_.1 129 (Int32.toNatClampNeg (Mz297_.1 144 (Int32.toNatClampNeg i7z297_))))) ≤ 18 := (by have u1 := b320_; omega)
            show PW 24 d (64, [some (pvR 124), some (pvI n1), some (pvI n2), some (pvI n3), some (pvI i4z297_), some (pvI i5z297_), some (pvI i6z297_), some (pvI i7z297_), some (pvI (Mz297_.1 144 (Int32.toNatClampNeg i7z297_)))], [pvI (2 * (Mz297_.1 129 (Int32.toNatClampNeg (Mz297_.1 144 (Int32.toNatClampNeg i7z297_))))), pvI x307_, pvI i4z297_], Mz297_) _
            obtain ⟨q324_, b323_⟩ : (Int32.toInt (x307_ + (2 * (Mz297_.1 129 (Int32.toNatClampNeg (Mz297_.1 144 (Int32.toNatClampNeg i7z297_)))))) = Int32.toInt x307_ + Int32.toInt (2 * (Mz297_.1 129 (Int32.toNatClampNeg (Mz297_.1 144 (Int32.toNatClampNeg i7z297_)))))) ∧ (0 ≤ Int32.toInt (x307_ + (2 * (Mz297_.1 129 (Int32.toNatClampNeg (Mz297_.1 144 (Int32.toNatClampNeg i7z297_)))))) ∧ Int32.toInt (x307_ + (2 * (Mz297_.1 129 (Int32.toNatClampNeg (Mz297_.1 144 (Int32.toNatClampNeg i7z297_)))))) ≤ 319) := zadd_r x307_ (2 * (Mz297_.1 129 (Int32.toNatClampNeg (Mz297_.1 144 (Int32.toNatClampNeg i7z297_))))) 0 319 b309_ b322_ (by decide) (by decide) (by decide) (by decide)
            obtain ⟨q326_, b325_⟩ : (Int32.toInt (i4z297_ + (x307_ + (2 * (Mz297_.1 129 (Int32.toNatClampNeg (Mz297_.1 144 (Int32.toNatClampNeg i7z297_))))))) = Int32.toInt i4z297_ + Int32.toInt (x307_ + (2 * (Mz297_.1 129 (Int32.toNatClampNeg (Mz297_.1 144 (Int32.toNatClampNeg i7z297_))))))) ∧ (0 ≤ Int32.toInt (i4z297_ + (x307_ + (2 * (Mz297_.1 129 (Int32.toNatClampNeg (Mz297_.1 144 (Int32.toNatClampNeg i7z297_))))))) ∧ Int32.toInt (i4z297_ + (x307_ + (2 * (Mz297_.1 129 (Int32.toNatClampNeg (Mz297_.1 144 (Int32.toNatClampNeg i7z297_))))))) ≤ 64319) := zadd_r i4z297_ (x307_ + (2 * (Mz297_.1 129 (Int32.toNatClampNeg (Mz297_.1 144 (Int32.toNatClampNeg i7z297_)))))) 0 64319 h4z297_ b323_ (by decide) (by decide) (by decide) (by decide)
            refine pw_blkw hT 8 (pc := 77) (lo := [some (pvR 124), some (pvI n1), some (pvI n2), some (pvI n3), some (pvI (i4z297_ + (x307_ + (2 * (Mz297_.1 129 (Int32.toNatClampNeg (Mz297_.1 144 (Int32.toNatClampNeg i7z297_)))))))), some (pvI i5z297_), some (pvI i6z297_), some (pvI i7z297_), some (pvI (Mz297_.1 144 (Int32.toNatClampNeg i7z297_)))]) (st := []) (M := pvu Mz297_ 143 (Int32.toNatClampNeg (Mz297_.1 144 (Int32.toNatClampNeg i7z297_))) (i4z297_ + (x307_ + (2 * (Mz297_.1 129 (Int32.toNatClampNeg (Mz297_.1 144 (Int32.toNatClampNeg i7z297_)))))))) rfl ⟨trivial, trivial, trivial, trivial, rfl, trivial, trivial, ⟨rfl, (zr_in (n := 7) b303_ (by decide) (by decide))⟩, trivial⟩ (fun M327_ e328_ => ?_)
            have o329_ : pvOk M327_ := pvok_u2 e328_ oz297_ rfl (zr_wide b325_ (by decide) (by decide))
            have f330_ : pvFr fp_X10_goes_124_x_x_x M M327_ := pvfr_u e328_ fz297_ rfl
            have b331_ : 0 ≤ Int32.toInt (M327_.1 127 (Int32.toNatClampNeg (Mz297_.1 144 (Int32.toNatClampNeg i7z297_)))) ∧ Int32.toInt (M327_.1 127 (Int32.toNatClampNeg (Mz297_.1 144 (Int32.toNatClampNeg i7z297_)))) ≤ 3 := pvok_r o329_ 127 (Int32.toNatClampNeg (Mz297_.1 144 (Int32.toNatClampNeg i7z297_))) rfl
            have b332_ : 0 ≤ Int32.toInt (M327_.1 128 (Int32.toNatClampNeg (Mz297_.1 144 (Int32.toNatClampNeg i7z297_)))) ∧ Int32.toInt (M327_.1 128 (Int32.toNatClampNeg (Mz297_.1 144 (Int32.toNatClampNeg i7z297_)))) ≤ 4 := pvok_r o329_ 128 (Int32.toNatClampNeg (Mz297_.1 144 (Int32.toNatClampNeg i7z297_))) rfl
            obtain ⟨q334_, b333_⟩ : (Int32.toInt (i7z297_ + 1) = Int32.toInt i7z297_ + Int32.toInt 1) ∧ (1 ≤ Int32.toInt (i7z297_ + 1) ∧ Int32.toInt (i7z297_ + 1) ≤ 7) := zadd_r i7z297_ 1 1 7 b301_ (show 1 ≤ Int32.toInt 1 ∧ Int32.toInt 1 ≤ 1 from (by decide)) (by decide) (by decide) (by decide) (by decide)
            have u335_ : Int32.toInt 1 = 1 := by decide
            refine pw_blk hT 12 (S' := (18, [some (pvR 124), some (pvI n1), some (pvI n2), some (pvI n3), some (pvI (i4z297_ + (x307_ + (2 * (Mz297_.1 129 (Int32.toNatClampNeg (Mz297_.1 144 (Int32.toNatClampNeg i7z297_)))))))), some (pvI (M327_.1 127 (Int32.toNatClampNeg (Mz297_.1 144 (Int32.toNatClampNeg i7z297_))))), some (pvI (M327_.1 128 (Int32.toNatClampNeg (Mz297_.1 144 (Int32.toNatClampNeg i7z297_))))), some (pvI (i7z297_ + 1)), some (pvI (Mz297_.1 144 (Int32.toNatClampNeg i7z297_)))], [], M327_)) rfl ⟨trivial, rfl, trivial, ⟨rfl, (zr_in (n := 7) b303_ (by decide) (by decide))⟩, trivial, trivial, rfl, trivial, ⟨rfl, (zr_in (n := 7) b303_ (by decide) (by decide))⟩, trivial, trivial, trivial, trivial⟩ ?_
            have j336_ : Int32.toInt (i4z297_ + (x307_ + (2 * (Mz297_.1 129 (Int32.toNatClampNeg (Mz297_.1 144 (Int32.toNatClampNeg i7z297_))))))) ≤ 60000 + 320 * Int32.toInt (i7z297_ + 1) := by omega
            have j337_ : 0 ≤ Int32.toInt (i4z297_ + (x307_ + (2 * (Mz297_.1 129 (Int32.toNatClampNeg (Mz297_.1 144 (Int32.toNatClampNeg i7z297_))))))) := by omega
            exact ihz297_ (i4z297_ + (x307_ + (2 * (Mz297_.1 129 (Int32.toNatClampNeg (Mz297_.1 144 (Int32.toNatClampNeg i7z297_))))))) (M327_.1 127 (Int32.toNatClampNeg (Mz297_.1 144 (Int32.toNatClampNeg i7z297_)))) (M327_.1 128 (Int32.toNatClampNeg (Mz297_.1 144 (Int32.toNatClampNeg i7z297_)))) (i7z297_ + 1) (some (pvI (Mz297_.1 144 (Int32.toNatClampNeg i7z297_)))) M327_ o329_ f330_ (by have u0 := b325_; omega) b331_ b332_ (zr_wide b333_ (by decide) (by decide)) j336_ j337_ (by omega)
          · refine pw_eqI (if_neg c318_) ?_
            by_cases c338_ : (Mz297_.1 125 (Int32.toNatClampNeg (Mz297_.1 144 (Int32.toNatClampNeg i7z297_)))) = 4
            · refine pw_eqI (if_pos c338_) ?_
              have b339_ : 4 ≤ Int32.toInt (Mz297_.1 125 (Int32.toNatClampNeg (Mz297_.1 144 (Int32.toNatClampNeg i7z297_)))) ∧ Int32.toInt (Mz297_.1 125 (Int32.toNatClampNeg (Mz297_.1 144 (Int32.toNatClampNeg i7z297_)))) ≤ 4 := (by have u0 := b317_; have u1 := (zi_eq _ _).mp c338_; have u2 := (show 4 ≤ Int32.toInt 4 ∧ Int32.toInt 4 ≤ 4 from (by decide)); omega)
              have b340_ : 0 ≤ Int32.toInt (Mz297_.1 129 (Int32.toNatClampNeg (Mz297_.1 144 (Int32.toNatClampNeg i7z297_)))) ∧ Int32.toInt (Mz297_.1 129 (Int32.toNatClampNeg (Mz297_.1 144 (Int32.toNatClampNeg i7z297_)))) ≤ 9 := pvok_r oz297_ 129 (Int32.toNatClampNeg (Mz297_.1 144 (Int32.toNatClampNeg i7z297_))) rfl
              have q341_ : Int32.toInt (2 * (Mz297_.1 129 (Int32.toNatClampNeg (Mz297_.1 144 (Int32.toNatClampNeg i7z297_))))) = 2 * Int32.toInt (Mz297_.1 129 (Int32.toNatClampNeg (Mz297_.1 144 (Int32.toNatClampNeg i7z297_)))) := by have u0 : Int32.toInt 2 = 2 := (by decide); have u1 := b340_; have u2 := zmul 2 (Mz297_.1 129 (Int32.toNatClampNeg (Mz297_.1 144 (Int32.toNatClampNeg i7z297_)))) (by rw [u0]; omega) (by rw [u0]; omega); rw [u0] at u2; omega
              have b342_ : 0 ≤ Int32.toInt (2 * (Mz297_.1 129 (Int32.toNatClampNeg (Mz297_.1 144 (Int32.toNatClampNeg i7z297_))))) ∧ Int32.toInt (2 * (Mz297_.1 129 (Int32.toNatClampNeg (Mz297_.1 144 (Int32.toNatClampNeg i7z297_))))) ≤ 18 := (by have u1 := b340_; omega)
              show PW 24 d (64, [some (pvR 124), some (pvI n1), some (pvI n2), some (pvI n3), some (pvI i4z297_), some (pvI i5z297_), some (pvI i6z297_), some (pvI i7z297_), some (pvI (Mz297_.1 144 (Int32.toNatClampNeg i7z297_)))], [pvI (2 * (Mz297_.1 129 (Int32.toNatClampNeg (Mz297_.1 144 (Int32.toNatClampNeg i7z297_))))), pvI x307_, pvI i4z297_], Mz297_) _
              obtain ⟨q344_, b343_⟩ : (Int32.toInt (x307_ + (2 * (Mz297_.1 129 (Int32.toNatClampNeg (Mz297_.1 144 (Int32.toNatClampNeg i7z297_)))))) = Int32.toInt x307_ + Int32.toInt (2 * (Mz297_.1 129 (Int32.toNatClampNeg (Mz297_.1 144 (Int32.toNatClampNeg i7z297_)))))) ∧ (0 ≤ Int32.toInt (x307_ + (2 * (Mz297_.1 129 (Int32.toNatClampNeg (Mz297_.1 144 (Int32.toNatClampNeg i7z297_)))))) ∧ Int32.toInt (x307_ + (2 * (Mz297_.1 129 (Int32.toNatClampNeg (Mz297_.1 144 (Int32.toNatClampNeg i7z297_)))))) ≤ 319) := zadd_r x307_ (2 * (Mz297_.1 129 (Int32.toNatClampNeg (Mz297_.1 144 (Int32.toNatClampNeg i7z297_))))) 0 319 b309_ b342_ (by decide) (by decide) (by decide) (by decide)
              obtain ⟨q346_, b345_⟩ : (Int32.toInt (i4z297_ + (x307_ + (2 * (Mz297_.1 129 (Int32.toNatClampNeg (Mz297_.1 144 (Int32.toNatClampNeg i7z297_))))))) = Int32.toInt i4z297_ + Int32.toInt (x307_ + (2 * (Mz297_.1 129 (Int32.toNatClampNeg (Mz297_.1 144 (Int32.toNatClampNeg i7z297_))))))) ∧ (0 ≤ Int32.toInt (i4z297_ + (x307_ + (2 * (Mz297_.1 129 (Int32.toNatClampNeg (Mz297_.1 144 (Int32.toNatClampNeg i7z297_))))))) ∧ Int32.toInt (i4z297_ + (x307_ + (2 * (Mz297_.1 129 (Int32.toNatClampNeg (Mz297_.1 144 (Int32.toNatClampNeg i7z297_))))))) ≤ 64319) := zadd_r i4z297_ (x307_ + (2 * (Mz297_.1 129 (Int32.toNatClampNeg (Mz297_.1 144 (Int32.toNatClampNeg i7z297_)))))) 0 64319 h4z297_ b343_ (by decide) (by decide) (by decide) (by decide)
              refine pw_blkw hT 8 (pc := 77) (lo := [some (pvR 124), some (pvI n1), some (pvI n2), some (pvI n3), some (pvI (i4z297_ + (x307_ + (2 * (Mz297_.1 129 (Int32.toNatClampNeg (Mz297_.1 144 (Int32.toNatClampNeg i7z297_)))))))), some (pvI i5z297_), some (pvI i6z297_), some (pvI i7z297_), some (pvI (Mz297_.1 144 (Int32.toNatClampNeg i7z297_)))]) (st := []) (M := pvu Mz297_ 143 (Int32.toNatClampNeg (Mz297_.1 144 (Int32.toNatClampNeg i7z297_))) (i4z297_ + (x307_ + (2 * (Mz297_.1 129 (Int32.toNatClampNeg (Mz297_.1 144 (Int32.toNatClampNeg i7z297_)))))))) rfl ⟨trivial, trivial, trivial, trivial, rfl, trivial, trivial, ⟨rfl, (zr_in (n := 7) b303_ (by decide) (by decide))⟩, trivial⟩ (fun M347_ e348_ => ?_)
              have o349_ : pvOk M347_ := pvok_u2 e348_ oz297_ rfl (zr_wide b345_ (by decide) (by decide))
              have f350_ : pvFr fp_X10_goes_124_x_x_x M M347_ := pvfr_u e348_ fz297_ rfl
              have b351_ : 0 ≤ Int32.toInt (M347_.1 127 (Int32.toNatClampNeg (Mz297_.1 144 (Int32.toNatClampNeg i7z297_)))) ∧ Int32.toInt (M347_.1 127 (Int32.toNatClampNeg (Mz297_.1 144 (Int32.toNatClampNeg i7z297_)))) ≤ 3 := pvok_r o349_ 127 (Int32.toNatClampNeg (Mz297_.1 144 (Int32.toNatClampNeg i7z297_))) rfl
              have b352_ : 0 ≤ Int32.toInt (M347_.1 128 (Int32.toNatClampNeg (Mz297_.1 144 (Int32.toNatClampNeg i7z297_)))) ∧ Int32.toInt (M347_.1 128 (Int32.toNatClampNeg (Mz297_.1 144 (Int32.toNatClampNeg i7z297_)))) ≤ 4 := pvok_r o349_ 128 (Int32.toNatClampNeg (Mz297_.1 144 (Int32.toNatClampNeg i7z297_))) rfl
              obtain ⟨q354_, b353_⟩ : (Int32.toInt (i7z297_ + 1) = Int32.toInt i7z297_ + Int32.toInt 1) ∧ (1 ≤ Int32.toInt (i7z297_ + 1) ∧ Int32.toInt (i7z297_ + 1) ≤ 7) := zadd_r i7z297_ 1 1 7 b301_ (show 1 ≤ Int32.toInt 1 ∧ Int32.toInt 1 ≤ 1 from (by decide)) (by decide) (by decide) (by decide) (by decide)
              have u355_ : Int32.toInt 1 = 1 := by decide
              refine pw_blk hT 12 (S' := (18, [some (pvR 124), some (pvI n1), some (pvI n2), some (pvI n3), some (pvI (i4z297_ + (x307_ + (2 * (Mz297_.1 129 (Int32.toNatClampNeg (Mz297_.1 144 (Int32.toNatClampNeg i7z297_)))))))), some (pvI (M347_.1 127 (Int32.toNatClampNeg (Mz297_.1 144 (Int32.toNatClampNeg i7z297_))))), some (pvI (M347_.1 128 (Int32.toNatClampNeg (Mz297_.1 144 (Int32.toNatClampNeg i7z297_))))), some (pvI (i7z297_ + 1)), some (pvI (Mz297_.1 144 (Int32.toNatClampNeg i7z297_)))], [], M347_)) rfl ⟨trivial, rfl, trivial, ⟨rfl, (zr_in (n := 7) b303_ (by decide) (by decide))⟩, trivial, trivial, rfl, trivial, ⟨rfl, (zr_in (n := 7) b303_ (by decide) (by decide))⟩, trivial, trivial, trivial, trivial⟩ ?_
              have j356_ : Int32.toInt (i4z297_ + (x307_ + (2 * (Mz297_.1 129 (Int32.toNatClampNeg (Mz297_.1 144 (Int32.toNatClampNeg i7z297_))))))) ≤ 60000 + 320 * Int32.toInt (i7z297_ + 1) := by omega
              have j357_ : 0 ≤ Int32.toInt (i4z297_ + (x307_ + (2 * (Mz297_.1 129 (Int32.toNatClampNeg (Mz297_.1 144 (Int32.toNatClampNeg i7z297_))))))) := by omega
              exact ihz297_ (i4z297_ + (x307_ + (2 * (Mz297_.1 129 (Int32.toNatClampNeg (Mz297_.1 144 (Int32.toNatClampNeg i7z297_))))))) (M347_.1 127 (Int32.toNatClampNeg (Mz297_.1 144 (Int32.toNatClampNeg i7z297_)))) (M347_.1 128 (Int32.toNatClampNeg (Mz297_.1 144 (Int32.toNatClampNeg i7z297_)))) (i7z297_ + 1) (some (pvI (Mz297_.1 144 (Int32.toNatClampNeg i7z297_)))) M347_ o349_ f350_ (by have u0 := b345_; omega) b351_ b352_ (zr_wide b353_ (by decide) (by decide)) j356_ j357_ (by omega)
            · refine pw_eqI (if_neg c338_) ?_
              have b358_ : 0 ≤ Int32.toInt (Mz297_.1 129 (Int32.toNatClampNeg (Mz297_.1 144 (Int32.toNatClampNeg i7z297_)))) ∧ Int32.toInt (Mz297_.1 129 (Int32.toNatClampNeg (Mz297_.1 144 (Int32.toNatClampNeg i7z297_)))) ≤ 9 := pvok_r oz297_ 129 (Int32.toNatClampNeg (Mz297_.1 144 (Int32.toNatClampNeg i7z297_))) rfl
              show PW 24 d (64, [some (pvR 124), some (pvI n1), some (pvI n2), some (pvI n3), some (pvI i4z297_), some (pvI i5z297_), some (pvI i6z297_), some (pvI i7z297_), some (pvI (Mz297_.1 144 (Int32.toNatClampNeg i7z297_)))], [pvI (Mz297_.1 129 (Int32.toNatClampNeg (Mz297_.1 144 (Int32.toNatClampNeg i7z297_)))), pvI x307_, pvI i4z297_], Mz297_) _
              obtain ⟨q360_, b359_⟩ : (Int32.toInt (x307_ + (Mz297_.1 129 (Int32.toNatClampNeg (Mz297_.1 144 (Int32.toNatClampNeg i7z297_))))) = Int32.toInt x307_ + Int32.toInt (Mz297_.1 129 (Int32.toNatClampNeg (Mz297_.1 144 (Int32.toNatClampNeg i7z297_))))) ∧ (0 ≤ Int32.toInt (x307_ + (Mz297_.1 129 (Int32.toNatClampNeg (Mz297_.1 144 (Int32.toNatClampNeg i7z297_))))) ∧ Int32.toInt (x307_ + (Mz297_.1 129 (Int32.toNatClampNeg (Mz297_.1 144 (Int32.toNatClampNeg i7z297_))))) ≤ 310) := zadd_r x307_ (Mz297_.1 129 (Int32.toNatClampNeg (Mz297_.1 144 (Int32.toNatClampNeg i7z297_)))) 0 310 b309_ b358_ (by decide) (by decide) (by decide) (by decide)
              obtain ⟨q362_, b361_⟩ : (Int32.toInt (i4z297_ + (x307_ + (Mz297_.1 129 (Int32.toNatClampNeg (Mz297_.1 144 (Int32.toNatClampNeg i7z297_)))))) = Int32.toInt i4z297_ + Int32.toInt (x307_ + (Mz297_.1 129 (Int32.toNatClampNeg (Mz297_.1 144 (Int32.toNatClampNeg i7z297_)))))) ∧ (0 ≤ Int32.toInt (i4z297_ + (x307_ + (Mz297_.1 129 (Int32.toNatClampNeg (Mz297_.1 144 (Int32.toNatClampNeg i7z297_)))))) ∧ Int32.toInt (i4z297_ + (x307_ + (Mz297_.1 129 (Int32.toNatClampNeg (Mz297_.1 144 (Int32.toNatClampNeg i7z297_)))))) ≤ 64310) := zadd_r i4z297_ (x307_ + (Mz297_.1 129 (Int32.toNatClampNeg (Mz297_.1 144 (Int32.toNatClampNeg i7z297_))))) 0 64310 h4z297_ b359_ (by decide) (by decide) (by decide) (by decide)
              refine pw_blkw hT 8 (pc := 77) (lo := [some (pvR 124), some (pvI n1), some (pvI n2), some (pvI n3), some (pvI (i4z297_ + (x307_ + (Mz297_.1 129 (Int32.toNatClampNeg (Mz297_.1 144 (Int32.toNatClampNeg i7z297_))))))), some (pvI i5z297_), some (pvI i6z297_), some (pvI i7z297_), some (pvI (Mz297_.1 144 (Int32.toNatClampNeg i7z297_)))]) (st := []) (M := pvu Mz297_ 143 (Int32.toNatClampNeg (Mz297_.1 144 (Int32.toNatClampNeg i7z297_))) (i4z297_ + (x307_ + (Mz297_.1 129 (Int32.toNatClampNeg (Mz297_.1 144 (Int32.toNatClampNeg i7z297_))))))) rfl ⟨trivial, trivial, trivial, trivial, rfl, trivial, trivial, ⟨rfl, (zr_in (n := 7) b303_ (by decide) (by decide))⟩, trivial⟩ (fun M363_ e364_ => ?_)
              have o365_ : pvOk M363_ := pvok_u2 e364_ oz297_ rfl (zr_wide b361_ (by decide) (by decide))
              have f366_ : pvFr fp_X10_goes_124_x_x_x M M363_ := pvfr_u e364_ fz297_ rfl
              have b367_ : 0 ≤ Int32.toInt (M363_.1 127 (Int32.toNatClampNeg (Mz297_.1 144 (Int32.toNatClampNeg i7z297_)))) ∧ Int32.toInt (M363_.1 127 (Int32.toNatClampNeg (Mz297_.1 144 (Int32.toNatClampNeg i7z297_)))) ≤ 3 := pvok_r o365_ 127 (Int32.toNatClampNeg (Mz297_.1 144 (Int32.toNatClampNeg i7z297_))) rfl
              have b368_ : 0 ≤ Int32.toInt (M363_.1 128 (Int32.toNatClampNeg (Mz297_.1 144 (Int32.toNatClampNeg i7z297_)))) ∧ Int32.toInt (M363_.1 128 (Int32.toNatClampNeg (Mz297_.1 144 (Int32.toNatClampNeg i7z297_)))) ≤ 4 := pvok_r o365_ 128 (Int32.toNatClampNeg (Mz297_.1 144 (Int32.toNatClampNeg i7z297_))) rfl
              obtain ⟨q370_, b369_⟩ : (Int32.toInt (i7z297_ + 1) = Int32.toInt i7z297_ + Int32.toInt 1) ∧ (1 ≤ Int32.toInt (i7z297_ + 1) ∧ Int32.toInt (i7z297_ + 1) ≤ 7) := zadd_r i7z297_ 1 1 7 b301_ (show 1 ≤ Int32.toInt 1 ∧ Int32.toInt 1 ≤ 1 from (by decide)) (by decide) (by decide) (by decide) (by decide)
              have u371_ : Int32.toInt 1 = 1 := by decide
              refine pw_blk hT 12 (S' := (18, [some (pvR 124), some (pvI n1), some (pvI n2), some (pvI n3), some (pvI (i4z297_ + (x307_ + (Mz297_.1 129 (Int32.toNatClampNeg (Mz297_.1 144 (Int32.toNatClampNeg i7z297_))))))), some (pvI (M363_.1 127 (Int32.toNatClampNeg (Mz297_.1 144 (Int32.toNatClampNeg i7z297_))))), some (pvI (M363_.1 128 (Int32.toNatClampNeg (Mz297_.1 144 (Int32.toNatClampNeg i7z297_))))), some (pvI (i7z297_ + 1)), some (pvI (Mz297_.1 144 (Int32.toNatClampNeg i7z297_)))], [], M363_)) rfl ⟨trivial, rfl, trivial, ⟨rfl, (zr_in (n := 7) b303_ (by decide) (by decide))⟩, trivial, trivial, rfl, trivial, ⟨rfl, (zr_in (n := 7) b303_ (by decide) (by decide))⟩, trivial, trivial, trivial, trivial⟩ ?_
              have j372_ : Int32.toInt (i4z297_ + (x307_ + (Mz297_.1 129 (Int32.toNatClampNeg (Mz297_.1 144 (Int32.toNatClampNeg i7z297_)))))) ≤ 60000 + 320 * Int32.toInt (i7z297_ + 1) := by omega
              have j373_ : 0 ≤ Int32.toInt (i4z297_ + (x307_ + (Mz297_.1 129 (Int32.toNatClampNeg (Mz297_.1 144 (Int32.toNatClampNeg i7z297_)))))) := by omega
              exact ihz297_ (i4z297_ + (x307_ + (Mz297_.1 129 (Int32.toNatClampNeg (Mz297_.1 144 (Int32.toNatClampNeg i7z297_)))))) (M363_.1 127 (Int32.toNatClampNeg (Mz297_.1 144 (Int32.toNatClampNeg i7z297_)))) (M363_.1 128 (Int32.toNatClampNeg (Mz297_.1 144 (Int32.toNatClampNeg i7z297_)))) (i7z297_ + 1) (some (pvI (Mz297_.1 144 (Int32.toNatClampNeg i7z297_)))) M363_ o365_ f366_ (by have u0 := b361_; omega) b367_ b368_ (zr_wide b369_ (by decide) (by decide)) j372_ j373_ (by omega)
        · have b374_ : 1 ≤ Int32.toInt (Mz297_.1 131 (Int32.toNatClampNeg (Mz297_.1 144 (Int32.toNatClampNeg i7z297_)))) ∧ Int32.toInt (Mz297_.1 131 (Int32.toNatClampNeg (Mz297_.1 144 (Int32.toNatClampNeg i7z297_)))) ≤ 1 := (by have u0 := b304_; have u1 := (not_congr (zi_eq _ _)).mp c305_; have u2 := (show 0 ≤ Int32.toInt 0 ∧ Int32.toInt 0 ≤ 0 from (by decide)); omega)
          obtain ⟨q376_, b375_⟩ : (Int32.toInt (i7z297_ + 1) = Int32.toInt i7z297_ + Int32.toInt 1) ∧ (1 ≤ Int32.toInt (i7z297_ + 1) ∧ Int32.toInt (i7z297_ + 1) ≤ 7) := zadd_r i7z297_ 1 1 7 b301_ (show 1 ≤ Int32.toInt 1 ∧ Int32.toInt 1 ≤ 1 from (by decide)) (by decide) (by decide) (by decide) (by decide)
          have u377_ : Int32.toInt 1 = 1 := by decide
          refine pw_blk hT 3 (S' := (18, [some (pvR 124), some (pvI n1), some (pvI n2), some (pvI n3), some (pvI i4z297_), some (pvI i5z297_), some (pvI i6z297_), some (pvI (i7z297_ + 1)), some (pvI (Mz297_.1 144 (Int32.toNatClampNeg i7z297_)))], [], Mz297_)) rfl ⟨trivial, trivial, trivial, trivial⟩ ?_
          have j378_ : Int32.toInt i4z297_ ≤ 60000 + 320 * Int32.toInt (i7z297_ + 1) := by omega
          have j379_ : 0 ≤ Int32.toInt i4z297_ := by omega
          exact ihz297_ i4z297_ i5z297_ i6z297_ (i7z297_ + 1) (some (pvI (Mz297_.1 144 (Int32.toNatClampNeg i7z297_)))) Mz297_ oz297_ fz297_ h4z297_ h5z297_ h6z297_ (zr_wide b375_ (by decide) (by decide)) j378_ j379_ (by omega)
  have j380_ : Int32.toInt n3 ≤ 60000 + 320 * Int32.toInt n1 := by omega
  have j381_ : 0 ≤ Int32.toInt n3 := by omega
  exact hlz297_ _ n3 (M.1 124 5) (M.1 124 6) n1 none M hok pvfr_0 (zr_wide hn3 (by decide) (by decide)) b1_ b2_ hn1 j380_ j381_ (Nat.lt_succ_self _)
set_option maxHeartbeats 4000000 in
set_option maxRecDepth 10000 in
theorem sf_X10_isOpenAt_124_x_x (M : pvM) (hok : pvOk M) (n1 : Int32) (n2 : Int32) (hn1 : 0 ≤ Int32.toInt n1 ∧ Int32.toInt n1 ≤ 6) (d : Nat) : PW 39 d (0, [some (pvR 124), some (pvI n1), some (pvI n2)], [], M) (fun r X => r = some (pvI ((if (M.1 143 (Int32.toNatClampNeg n1)) ≤ n2 then 0 else 1))) ∧ X = M) := by
  have hT : pvdom 39 = pvD_39 := rfl
  have b1_ : (-1) ≤ Int32.toInt (M.1 143 (Int32.toNatClampNeg n1)) ∧ Int32.toInt (M.1 143 (Int32.toNatClampNeg n1)) ≤ 99999 := pvok_r hok 143 (Int32.toNatClampNeg n1) rfl
  refine pw_blk hT 5 (S' := (7, [some (pvR 124), some (pvI n1), some (pvI n2)], [pvI (M.1 143 (Int32.toNatClampNeg n1)), pvI n2], M)) rfl ⟨trivial, trivial, rfl, trivial, ⟨rfl, (zr_in (n := 7) hn1 (by decide) (by decide))⟩, trivial⟩ ?_
  refine pw_ic hT (c := (M.1 143 (Int32.toNatClampNeg n1)) ≤ n2) rfl rfl (fun c2_ => ?_) (fun c2_ => ?_)
  · have b3_ : (-1) ≤ Int32.toInt n2 ∧ Int32.toInt n2 ≤ 2147483647 := zr_le_r (-1) c2_ (zbnd n2) b1_ (by decide)
    have d4_ : Int32.toInt (M.1 143 (Int32.toNatClampNeg n1)) ≤ Int32.toInt n2 := (zi_le _ _).mp c2_
    refine pw_blk hT 1 (S' := (15, [some (pvR 124), some (pvI n1), some (pvI n2)], [pvI 0], M)) rfl ⟨trivial, trivial⟩ ?_
    exact pw_ret hT rfl (r := some (pvI 0)) (M' := M) ⟨Or.inl rfl, rfl, rfl⟩ ⟨(by rw [if_pos c2_]), rfl⟩
  · have b5_ : (-2147483648) ≤ Int32.toInt n2 ∧ Int32.toInt n2 ≤ 99998 := zr_nle_r 99998 c2_ (zbnd n2) b1_ (by decide)
    have d6_ : Int32.toInt (M.1 143 (Int32.toNatClampNeg n1)) > Int32.toInt n2 := Int.not_le.mp ((not_congr (zi_le _ _)).mp c2_)
    refine pw_blk hT 2 (S' := (15, [some (pvR 124), some (pvI n1), some (pvI n2)], [pvI 1], M)) rfl ⟨trivial, trivial, trivial⟩ ?_
    exact pw_ret hT rfl (r := some (pvI 1)) (M' := M) ⟨Or.inr rfl, rfl, rfl⟩ ⟨(by rw [if_neg c2_]), rfl⟩
