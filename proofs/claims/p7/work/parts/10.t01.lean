set_option maxHeartbeats 4000000 in
set_option maxRecDepth 10000 in
theorem sf_X10_lastNow_124 (M : pvM) (hok : pvOk M) (d : Nat) : PW 45 d (0, [some (pvR 124)], [], M) (fun r X => (∃ x : Int32, r = some (pvI x) ∧ 0 ≤ Int32.toInt x ∧ Int32.toInt x ≤ 99) ∧ X = M) := by
  have hT : pvdom 45 = pvD_45 := rfl
  refine pw_blk hT 3 (S' := (4, [some (pvR 124)], [pvI 15, pvI 3, pvR 124], M)) rfl ⟨trivial, trivial, trivial, trivial⟩ ?_
  refine pw_callGp hT (as := [pvR 124, pvI 3, pvI 15]) (lo1 := [some (pvR 124), some (pvI 3), some (pvI 15), none, none]) (d1 := d) (rest := []) rfl rfl rfl rfl rfl (fun _ => rfl) (Nat.zero_le _) rfl rfl rfl (sf_X10_lastOf_124_x_x M hok 3 15 (zr_wide (show 3 ≤ Int32.toInt 3 ∧ Int32.toInt 3 ≤ 3 from (by decide)) (by decide) (by decide)) (zr_wide (show 15 ≤ Int32.toInt 15 ∧ Int32.toInt 15 ≤ 15 from (by decide)) (by decide) (by decide)) d) (fun x1_ b3_ => ?_)
  exact pw_ret hT rfl (r := some (pvI x1_)) (M' := M) ⟨rfl, rfl⟩ ⟨⟨_, rfl, b3_⟩, rfl⟩
def fpL_X10_holds_124_x_x : List (Nat × Nat × Nat) := [(0, 141, 0)]
def fp_X10_holds_124_x_x (q k : Nat) : Bool := pvfp fpL_X10_holds_124_x_x q k
theorem sf_X10_holds_124_x_x (M : pvM) (hok : pvOk M) (n1 : Int32) (n2 : Int32) (h1 : 0 ≤ Int32.toInt n1 ∧ Int32.toInt n1 ≤ 59) (h2 : 0 ≤ Int32.toInt n2 ∧ Int32.toInt n2 ≤ 6) (d : Nat) : PW 33 d (0, [some (pvR 124), some (pvI n1), some (pvI n2), none, none, none, none, none], [], M) (fun r X => (∃ x : Int32, r = some (pvI x) ∧ 0 ≤ Int32.toInt x ∧ Int32.toInt x ≤ 1) ∧ pvOk X ∧ pvFr fp_X10_holds_124_x_x M X) := sorry
def fpL_X10_rainOf_124_x : List (Nat × Nat × Nat) := [(0, 141, 0)]
def fp_X10_rainOf_124_x (q k : Nat) : Bool := pvfp fpL_X10_rainOf_124_x q k
theorem fp_X10_rainOf_124_x_fp_X10_holds_124_x_x (a b : Nat) (h : fp_X10_holds_124_x_x a b = true) : fp_X10_rainOf_124_x a b = true := pvfp_sub (l1 := fpL_X10_holds_124_x_x) (l2 := fpL_X10_rainOf_124_x) (by decide) a b h
set_option maxHeartbeats 4000000 in
set_option maxRecDepth 10000 in
theorem sf_X10_rainOf_124_x (M : pvM) (hok : pvOk M) (n1 : Int32) (hn1 : 0 ≤ Int32.toInt n1 ∧ Int32.toInt n1 ≤ 6) (d : Nat) : PW 67 d (0, [some (pvR 124), some (pvI n1), none, none], [], M) (fun r X => (∃ x : Int32, r = some (pvI x) ∧ 0 ≤ Int32.toInt x ∧ Int32.toInt x ≤ 6000) ∧ pvOk X ∧ pvFr fp_X10_rainOf_124_x M X) := by
  have hT : pvdom 67 = pvD_67 := rfl
  refine pw_blk hT 3 (S' := (3, [some (pvR 124), some (pvI n1), some (pvI 3), none], [pvR 124], M)) rfl ⟨trivial, trivial, trivial, trivial⟩ ?_
  refine pw_callT hT (as := [pvR 124]) (lo1 := [some (pvR 124)]) (d1 := d) (rest := []) rfl rfl rfl rfl rfl (fun _ => rfl) (Nat.zero_le _) rfl rfl rfl (sf_X10_firstClause_124 M hok d) ?_
  have b6_ : (-1) ≤ Int32.toInt (M.1 124 15) ∧ Int32.toInt (M.1 124 15) ≤ 5 := pvok_r hok 124 15 rfl
  by_cases c7_ : 0 ≤ (M.1 124 15)
  · refine pw_eqI (if_pos c7_) ?_
    have b8_ : 0 ≤ Int32.toInt (M.1 124 15) ∧ Int32.toInt (M.1 124 15) ≤ 5 := zr_le_r 0 c7_ b6_ (show 0 ≤ Int32.toInt 0 ∧ Int32.toInt 0 ≤ 0 from (by decide)) (by decide)
    have q9_ : Int32.toInt (10 * (M.1 124 15)) = 10 * Int32.toInt (M.1 124 15) := by have u0 : Int32.toInt 10 = 10 := (by decide); have u1 := b8_; have u2 := zmul 10 (M.1 124 15) (by rw [u0]; omega) (by rw [u0]; omega); rw [u0] at u2; omega
    have b10_ : 0 ≤ Int32.toInt (10 * (M.1 124 15)) ∧ Int32.toInt (10 * (M.1 124 15)) ≤ 50 := (by have u1 := b8_; omega)
    show PW 67 d (6, [some (pvR 124), some (pvI n1), some (pvI 3), none], [pvI (10 * (M.1 124 15))], M) _
    refine pw_blk hT 1 (S' := (7, [some (pvR 124), some (pvI n1), some (pvI 3), some (pvI (10 * (M.1 124 15)))], [], M)) rfl ⟨trivial, trivial⟩ ?_
    have hlz211_ : ∀ (nz211_ : Nat) (i2z211_ : Int32) (i3z211_ : Int32) (Mz211_ : pvM), (pvOk Mz211_) → (pvFr fp_X10_rainOf_124_x M Mz211_) → (Mz211_.1 124 15 = M.1 124 15) → ((-6000) ≤ Int32.toInt i2z211_ ∧ Int32.toInt i2z211_ ≤ 6000) → (0 ≤ Int32.toInt i3z211_ ∧ Int32.toInt i3z211_ ≤ 60) → (Int32.toInt i2z211_ ≤ 3 + 99 * Int32.toInt i3z211_) → (-(99 * Int32.toInt i3z211_) ≤ Int32.toInt i2z211_) → (zhide ((61 - Int32.toInt i3z211_).toNat < nz211_)) → PW 67 d (7, [some (pvR 124), some (pvI n1), some (pvI i2z211_), some (pvI i3z211_)], [], Mz211_) (fun r X => (∃ x : Int32, r = some (pvI x) ∧ 0 ≤ Int32.toInt x ∧ Int32.toInt x ≤ 6000) ∧ pvOk X ∧ pvFr fp_X10_rainOf_124_x M X) := by
      intro nz211_
      induction nz211_ with
      | zero => intro i2z211_ i3z211_ Mz211_ oz211_ fz211_ k124_15z211_ h2z211_ h3z211_ j0z211_ j1z211_ hmz211_; exact absurd (zshow hmz211_) (Nat.not_lt_zero _)
      | succ nz211_ ihz211_ =>
        intro i2z211_ i3z211_ Mz211_ oz211_ fz211_ k124_15z211_ h2z211_ h3z211_ j0z211_ j1z211_ hmz211_
        refine pw_blk hT 2 (S' := (9, [some (pvR 124), some (pvI n1), some (pvI i2z211_), some (pvI i3z211_)], [pvR 124, pvI i3z211_], Mz211_)) rfl ⟨trivial, trivial, trivial⟩ ?_
        refine pw_callT hT (as := [pvR 124]) (lo1 := [some (pvR 124)]) (d1 := d) (rest := [pvI i3z211_]) rfl rfl rfl rfl rfl (fun _ => rfl) (Nat.zero_le _) rfl rfl rfl (sf_X10_behindClauses_124 Mz211_ oz211_ d) ?_
        have e217_ : (Mz211_.1 124 15) = (M.1 124 15) := (k124_15z211_)
        have b218_ : 0 ≤ Int32.toInt (Mz211_.1 124 15) ∧ Int32.toInt (Mz211_.1 124 15) ≤ 5 := (by rw [e217_]; exact b8_)
        refine pw_eqI (if_pos (by have z0 := (show 0 ≤ Int32.toInt 0 ∧ Int32.toInt 0 ≤ 0 from (by decide)); have z1 := b218_; rw [zi_le]; omega)) ?_
        have q219_ : Int32.toInt (10 * (Mz211_.1 124 15)) = 10 * Int32.toInt (Mz211_.1 124 15) := by have u0 : Int32.toInt 10 = 10 := (by decide); have u1 := b218_; have u2 := zmul 10 (Mz211_.1 124 15) (by rw [u0]; omega) (by rw [u0]; omega); rw [u0] at u2; omega
        have b220_ : 0 ≤ Int32.toInt (10 * (Mz211_.1 124 15)) ∧ Int32.toInt (10 * (Mz211_.1 124 15)) ≤ 50 := (by have u1 := b218_; omega)
        have b221_ : 0 ≤ Int32.toInt (Mz211_.1 133 (Int32.toNatClampNeg (Mz211_.1 124 15))) ∧ Int32.toInt (Mz211_.1 133 (Int32.toNatClampNeg (Mz211_.1 124 15))) ≤ 10 := pvok_r oz211_ 133 (Int32.toNatClampNeg (Mz211_.1 124 15)) rfl
        obtain ⟨q223_, b222_⟩ : (Int32.toInt ((10 * (Mz211_.1 124 15)) + (Mz211_.1 133 (Int32.toNatClampNeg (Mz211_.1 124 15)))) = Int32.toInt (10 * (Mz211_.1 124 15)) + Int32.toInt (Mz211_.1 133 (Int32.toNatClampNeg (Mz211_.1 124 15)))) ∧ (0 ≤ Int32.toInt ((10 * (Mz211_.1 124 15)) + (Mz211_.1 133 (Int32.toNatClampNeg (Mz211_.1 124 15)))) ∧ Int32.toInt ((10 * (Mz211_.1 124 15)) + (Mz211_.1 133 (Int32.toNatClampNeg (Mz211_.1 124 15)))) ≤ 60) := zadd_r (10 * (Mz211_.1 124 15)) (Mz211_.1 133 (Int32.toNatClampNeg (Mz211_.1 124 15))) 0 60 b220_ b221_ (by decide) (by decide) (by decide) (by decide)
        show PW 67 d (12, [some (pvR 124), some (pvI n1), some (pvI i2z211_), some (pvI i3z211_)], [pvI ((10 * (Mz211_.1 124 15)) + (Mz211_.1 133 (Int32.toNatClampNeg (Mz211_.1 124 15)))), pvI i3z211_], Mz211_) _
        refine pw_ic hT (c := ((10 * (Mz211_.1 124 15)) + (Mz211_.1 133 (Int32.toNatClampNeg (Mz211_.1 124 15)))) ≤ i3z211_) rfl rfl (fun c224_ => ?_) (fun c224_ => ?_)
        · have d225_ : Int32.toInt ((10 * (Mz211_.1 124 15)) + (Mz211_.1 133 (Int32.toNatClampNeg (Mz211_.1 124 15)))) ≤ Int32.toInt i3z211_ := (zi_le _ _).mp c224_
          refine pw_blk hT 1 (S' := (72, [some (pvR 124), some (pvI n1), some (pvI i2z211_), some (pvI i3z211_)], [pvI i2z211_], Mz211_)) rfl ⟨trivial, trivial⟩ ?_
          refine pw_if hT (c := 0 ≤ i2z211_) rfl rfl (fun c226_ => ?_) (fun c226_ => ?_)
          · have b227_ : 0 ≤ Int32.toInt i2z211_ ∧ Int32.toInt i2z211_ ≤ 6000 := zr_le_r 0 c226_ h2z211_ (show 0 ≤ Int32.toInt 0 ∧ Int32.toInt 0 ≤ 0 from (by decide)) (by decide)
            refine pw_blk hT 1 (S' := (80, [some (pvR 124), some (pvI n1), some (pvI i2z211_), some (pvI i3z211_)], [pvI i2z211_], Mz211_)) rfl ⟨trivial, trivial⟩ ?_
            exact pw_ret hT rfl (r := some (pvI i2z211_)) (M' := Mz211_) ⟨rfl, rfl⟩ ⟨⟨_, rfl, b227_⟩, oz211_, fz211_⟩
          · have b228_ : (-6000) ≤ Int32.toInt i2z211_ ∧ Int32.toInt i2z211_ ≤ (-1) := zr_nle_r (-1) c226_ h2z211_ (show 0 ≤ Int32.toInt 0 ∧ Int32.toInt 0 ≤ 0 from (by decide)) (by decide)
            refine pw_blk hT 2 (S' := (80, [some (pvR 124), some (pvI n1), some (pvI i2z211_), some (pvI i3z211_)], [pvI 0], Mz211_)) rfl ⟨trivial, trivial, trivial⟩ ?_
            exact pw_ret hT rfl (r := some (pvI 0)) (M' := Mz211_) ⟨rfl, rfl⟩ ⟨⟨_, rfl, (zr_wide (show 0 ≤ Int32.toInt 0 ∧ Int32.toInt 0 ≤ 0 from (by decide)) (by decide) (by decide))⟩, oz211_, fz211_⟩
        · have b229_ : 1 ≤ Int32.toInt ((10 * (Mz211_.1 124 15)) + (Mz211_.1 133 (Int32.toNatClampNeg (Mz211_.1 124 15)))) ∧ Int32.toInt ((10 * (Mz211_.1 124 15)) + (Mz211_.1 133 (Int32.toNatClampNeg (Mz211_.1 124 15)))) ≤ 60 := zr_nle_l 1 c224_ b222_ h3z211_ (by decide)
          have b230_ : 0 ≤ Int32.toInt i3z211_ ∧ Int32.toInt i3z211_ ≤ 59 := zr_nle_r 59 c224_ h3z211_ b229_ (by decide)
          have d231_ : Int32.toInt ((10 * (Mz211_.1 124 15)) + (Mz211_.1 133 (Int32.toNatClampNeg (Mz211_.1 124 15)))) > Int32.toInt i3z211_ := Int.not_le.mp ((not_congr (zi_le _ _)).mp c224_)
          have b232_ : 0 ≤ Int32.toInt (Mz211_.1 134 (Int32.toNatClampNeg i3z211_)) ∧ Int32.toInt (Mz211_.1 134 (Int32.toNatClampNeg i3z211_)) ≤ 3 := pvok_r oz211_ 134 (Int32.toNatClampNeg i3z211_) rfl
          refine pw_blk hT 5 (S' := (22, [some (pvR 124), some (pvI n1), some (pvI i2z211_), some (pvI i3z211_)], [pvI 2, pvI (Mz211_.1 134 (Int32.toNatClampNeg i3z211_))], Mz211_)) rfl ⟨trivial, rfl, trivial, ⟨rfl, (zr_in (n := 60) b230_ (by decide) (by decide))⟩, trivial, trivial⟩ ?_
          refine pw_ic hT (c := 2 ≤ (Mz211_.1 134 (Int32.toNatClampNeg i3z211_))) rfl rfl (fun c233_ => ?_) (fun c233_ => ?_)
          · have b234_ : 2 ≤ Int32.toInt (Mz211_.1 134 (Int32.toNatClampNeg i3z211_)) ∧ Int32.toInt (Mz211_.1 134 (Int32.toNatClampNeg i3z211_)) ≤ 3 := zr_le_r 2 c233_ b232_ (show 2 ≤ Int32.toInt 2 ∧ Int32.toInt 2 ≤ 2 from (by decide)) (by decide)
            obtain ⟨q236_, b235_⟩ : (Int32.toInt (i3z211_ + 1) = Int32.toInt i3z211_ + 1) ∧ (1 ≤ Int32.toInt (i3z211_ + 1) ∧ Int32.toInt (i3z211_ + 1) ≤ 60) := zadd_k i3z211_ 1 1 1 60 b230_ (by decide) (by decide) (by decide) (by decide) (by decide)
            refine pw_blk hT 2 (S' := (7, [some (pvR 124), some (pvI n1), some (pvI i2z211_), some (pvI (i3z211_ + 1))], [], Mz211_)) rfl ⟨trivial, trivial, trivial⟩ ?_
            have j237_ : Int32.toInt i2z211_ ≤ 3 + 99 * Int32.toInt (i3z211_ + 1) := by omega
            have j238_ : -(99 * Int32.toInt (i3z211_ + 1)) ≤ Int32.toInt i2z211_ := by omega
            exact ihz211_ i2z211_ (i3z211_ + 1) Mz211_ oz211_ fz211_ (k124_15z211_) h2z211_ (zr_wide b235_ (by decide) (by decide)) j237_ j238_ (zhid (pvms_up (zshow hmz211_) h3z211_ q236_ (by decide) (by decide)))
          · have b239_ : 0 ≤ Int32.toInt (Mz211_.1 134 (Int32.toNatClampNeg i3z211_)) ∧ Int32.toInt (Mz211_.1 134 (Int32.toNatClampNeg i3z211_)) ≤ 1 := zr_nle_r 1 c233_ b232_ (show 2 ≤ Int32.toInt 2 ∧ Int32.toInt 2 ≤ 2 from (by decide)) (by decide)
            refine pw_blk hT 3 (S' := (28, [some (pvR 124), some (pvI n1), some (pvI i2z211_), some (pvI i3z211_)], [pvI n1, pvI i3z211_, pvR 124], Mz211_)) rfl ⟨trivial, trivial, trivial, trivial⟩ ?_
            refine pw_callG hT (as := [pvR 124, pvI i3z211_, pvI n1]) (lo1 := [some (pvR 124), some (pvI i3z211_), some (pvI n1), none, none, none, none, none]) (d1 := d) (rest := []) rfl rfl rfl rfl rfl (fun _ => rfl) (Nat.zero_le _) rfl rfl rfl (sf_X10_holds_124_x_x Mz211_ oz211_ i3z211_ n1 (show 0 ≤ Int32.toInt i3z211_ ∧ Int32.toInt i3z211_ ≤ 59 from (by omega)) (show 0 ≤ Int32.toInt n1 ∧ Int32.toInt n1 ≤ 6 from (by omega)) d) (fun x240_ M241_ b242_ o243_ g244_ => ?_)
            have f245_ : pvFr fp_X10_rainOf_124_x M M241_ := pvfr_t g244_ fz211_ fp_X10_rainOf_124_x_fp_X10_holds_124_x_x
            refine pw_ifn hT (c := x240_ = 0) rfl rfl (fun c246_ => ?_) (fun c246_ => ?_)
            · have b247_ : 1 ≤ Int32.toInt x240_ ∧ Int32.toInt x240_ ≤ 1 := (by have u0 := b242_; have u1 := (not_congr (zi_eq _ _)).mp c246_; have u2 := (show 0 ≤ Int32.toInt 0 ∧ Int32.toInt 0 ≤ 0 from (by decide)); omega)
              have b248_ : 0 ≤ Int32.toInt (M241_.1 134 (Int32.toNatClampNeg i3z211_)) ∧ Int32.toInt (M241_.1 134 (Int32.toNatClampNeg i3z211_)) ≤ 3 := pvok_r o243_ 134 (Int32.toNatClampNeg i3z211_) rfl
              refine pw_blk hT 5 (S' := (44, [some (pvR 124), some (pvI n1), some (pvI i2z211_), some (pvI i3z211_)], [pvI (M241_.1 134 (Int32.toNatClampNeg i3z211_)), pvI i2z211_], M241_)) rfl ⟨trivial, trivial, rfl, trivial, ⟨rfl, (zr_in (n := 60) b230_ (by decide) (by decide))⟩, trivial⟩ ?_
              refine pw_ifn hT (c := (M241_.1 134 (Int32.toNatClampNeg i3z211_)) = 0) rfl rfl (fun c249_ => ?_) (fun c249_ => ?_)
              · have b250_ : 1 ≤ Int32.toInt (M241_.1 134 (Int32.toNatClampNeg i3z211_)) ∧ Int32.toInt (M241_.1 134 (Int32.toNatClampNeg i3z211_)) ≤ 3 := (by have u0 := b248_; have u1 := (not_congr (zi_eq _ _)).mp c249_; have u2 := (show 0 ≤ Int32.toInt 0 ∧ Int32.toInt 0 ≤ 0 from (by decide)); omega)
                have b251_ : 0 ≤ Int32.toInt (M241_.1 135 (Int32.toNatClampNeg i3z211_)) ∧ Int32.toInt (M241_.1 135 (Int32.toNatClampNeg i3z211_)) ≤ 99 := pvok_r o243_ 135 (Int32.toNatClampNeg i3z211_) rfl
                have b252_ : (-99) ≤ Int32.toInt (-(M241_.1 135 (Int32.toNatClampNeg i3z211_))) ∧ Int32.toInt (-(M241_.1 135 (Int32.toNatClampNeg i3z211_))) ≤ 0 := (by have u0 := b251_; have u := pvneg (M241_.1 135 (Int32.toNatClampNeg i3z211_)) (by omega); omega)
                obtain ⟨q254_, b253_⟩ : (Int32.toInt (i2z211_ + (-(M241_.1 135 (Int32.toNatClampNeg i3z211_)))) = Int32.toInt i2z211_ + Int32.toInt (-(M241_.1 135 (Int32.toNatClampNeg i3z211_)))) ∧ ((-6099) ≤ Int32.toInt (i2z211_ + (-(M241_.1 135 (Int32.toNatClampNeg i3z211_)))) ∧ Int32.toInt (i2z211_ + (-(M241_.1 135 (Int32.toNatClampNeg i3z211_)))) ≤ 6000) := zadd_r i2z211_ (-(M241_.1 135 (Int32.toNatClampNeg i3z211_))) (-6099) 6000 h2z211_ b252_ (by decide) (by decide) (by decide) (by decide)
                obtain ⟨q256_, b255_⟩ : (Int32.toInt (i3z211_ + 1) = Int32.toInt i3z211_ + 1) ∧ (1 ≤ Int32.toInt (i3z211_ + 1) ∧ Int32.toInt (i3z211_ + 1) ≤ 60) := zadd_k i3z211_ 1 1 1 60 b230_ (by decide) (by decide) (by decide) (by decide) (by decide)
                refine pw_blk hT 9 (S' := (7, [some (pvR 124), some (pvI n1), some (pvI (i2z211_ + (-(M241_.1 135 (Int32.toNatClampNeg i3z211_))))), some (pvI (i3z211_ + 1))], [], M241_)) rfl ⟨trivial, rfl, trivial, ⟨rfl, (zr_in (n := 60) b230_ (by decide) (by decide))⟩, trivial, trivial, trivial, trivial, trivial, trivial⟩ ?_
                have j257_ : Int32.toInt (i2z211_ + (-(M241_.1 135 (Int32.toNatClampNeg i3z211_)))) ≤ 3 + 99 * Int32.toInt (i3z211_ + 1) := by omega
                have j258_ : -(99 * Int32.toInt (i3z211_ + 1)) ≤ Int32.toInt (i2z211_ + (-(M241_.1 135 (Int32.toNatClampNeg i3z211_)))) := by omega
                exact ihz211_ (i2z211_ + (-(M241_.1 135 (Int32.toNatClampNeg i3z211_)))) (i3z211_ + 1) M241_ o243_ f245_ ((g244_ 124 15 rfl).trans (k124_15z211_)) (by have u0 := b253_; omega) (zr_wide b255_ (by decide) (by decide)) j257_ j258_ (zhid (pvms_up (zshow hmz211_) h3z211_ q256_ (by decide) (by decide)))
              · have b259_ : 0 ≤ Int32.toInt (M241_.1 134 (Int32.toNatClampNeg i3z211_)) ∧ Int32.toInt (M241_.1 134 (Int32.toNatClampNeg i3z211_)) ≤ 0 := (by have u0 := b248_; have u1 := (zi_eq _ _).mp c249_; have u2 := (show 0 ≤ Int32.toInt 0 ∧ Int32.toInt 0 ≤ 0 from (by decide)); omega)
                have b260_ : 0 ≤ Int32.toInt (M241_.1 135 (Int32.toNatClampNeg i3z211_)) ∧ Int32.toInt (M241_.1 135 (Int32.toNatClampNeg i3z211_)) ≤ 99 := pvok_r o243_ 135 (Int32.toNatClampNeg i3z211_) rfl
                obtain ⟨q262_, b261_⟩ : (Int32.toInt (i2z211_ + (M241_.1 135 (Int32.toNatClampNeg i3z211_))) = Int32.toInt i2z211_ + Int32.toInt (M241_.1 135 (Int32.toNatClampNeg i3z211_))) ∧ ((-6000) ≤ Int32.toInt (i2z211_ + (M241_.1 135 (Int32.toNatClampNeg i3z211_))) ∧ Int32.toInt (i2z211_ + (M241_.1 135 (Int32.toNatClampNeg i3z211_))) ≤ 6099) := zadd_r i2z211_ (M241_.1 135 (Int32.toNatClampNeg i3z211_)) (-6000) 6099 h2z211_ b260_ (by decide) (by decide) (by decide) (by decide)
                obtain ⟨q264_, b263_⟩ : (Int32.toInt (i3z211_ + 1) = Int32.toInt i3z211_ + 1) ∧ (1 ≤ Int32.toInt (i3z211_ + 1) ∧ Int32.toInt (i3z211_ + 1) ≤ 60) := zadd_k i3z211_ 1 1 1 60 b230_ (by decide) (by decide) (by decide) (by decide) (by decide)
                refine pw_blk hT 9 (S' := (7, [some (pvR 124), some (pvI n1), some (pvI (i2z211_ + (M241_.1 135 (Int32.toNatClampNeg i3z211_)))), some (pvI (i3z211_ + 1))], [], M241_)) rfl ⟨trivial, rfl, trivial, ⟨rfl, (zr_in (n := 60) b230_ (by decide) (by decide))⟩, trivial, trivial, trivial, trivial, trivial, trivial⟩ ?_
                have j265_ : Int32.toInt (i2z211_ + (M241_.1 135 (Int32.toNatClampNeg i3z211_))) ≤ 3 + 99 * Int32.toInt (i3z211_ + 1) := by omega
                have j266_ : -(99 * Int32.toInt (i3z211_ + 1)) ≤ Int32.toInt (i2z211_ + (M241_.1 135 (Int32.toNatClampNeg i3z211_))) := by omega
                exact ihz211_ (i2z211_ + (M241_.1 135 (Int32.toNatClampNeg i3z211_))) (i3z211_ + 1) M241_ o243_ f245_ ((g244_ 124 15 rfl).trans (k124_15z211_)) (by have u0 := b261_; omega) (zr_wide b263_ (by decide) (by decide)) j265_ j266_ (zhid (pvms_up (zshow hmz211_) h3z211_ q264_ (by decide) (by decide)))
            · have b267_ : 0 ≤ Int32.toInt x240_ ∧ Int32.toInt x240_ ≤ 0 := (by have u0 := b242_; have u1 := (zi_eq _ _).mp c246_; have u2 := (show 0 ≤ Int32.toInt 0 ∧ Int32.toInt 0 ≤ 0 from (by decide)); omega)
              obtain ⟨q269_, b268_⟩ : (Int32.toInt (i3z211_ + 1) = Int32.toInt i3z211_ + 1) ∧ (1 ≤ Int32.toInt (i3z211_ + 1) ∧ Int32.toInt (i3z211_ + 1) ≤ 60) := zadd_k i3z211_ 1 1 1 60 b230_ (by decide) (by decide) (by decide) (by decide) (by decide)
              refine pw_blk hT 3 (S' := (7, [some (pvR 124), some (pvI n1), some (pvI i2z211_), some (pvI (i3z211_ + 1))], [], M241_)) rfl ⟨trivial, trivial, trivial, trivial⟩ ?_
              have j270_ : Int32.toInt i2z211_ ≤ 3 + 99 * Int32.toInt (i3z211_ + 1) := by omega
              have j271_ : -(99 * Int32.toInt (i3z211_ + 1)) ≤ Int32.toInt i2z211_ := by omega
              exact ihz211_ i2z211_ (i3z211_ + 1) M241_ o243_ f245_ ((g244_ 124 15 rfl).trans (k124_15z211_)) h2z211_ (zr_wide b268_ (by decide) (by decide)) j270_ j271_ (zhid (pvms_up (zshow hmz211_) h3z211_ q269_ (by decide) (by decide)))
    have u272_ : Int32.toInt 3 = 3 := by decide
    have j273_ : Int32.toInt 3 ≤ 3 + 99 * Int32.toInt (10 * (M.1 124 15)) := by omega
    have j274_ : -(99 * Int32.toInt (10 * (M.1 124 15))) ≤ Int32.toInt 3 := by omega
    exact hlz211_ _ 3 (10 * (M.1 124 15)) M hok pvfr_0 rfl (zr_wide (show 3 ≤ Int32.toInt 3 ∧ Int32.toInt 3 ≤ 3 from (by decide)) (by decide) (by decide)) (zr_wide b10_ (by decide) (by decide)) j273_ j274_ (zhid (Nat.lt_succ_self _))
  · refine pw_eqI (if_neg c7_) ?_
    have b275_ : (-1) ≤ Int32.toInt (M.1 124 15) ∧ Int32.toInt (M.1 124 15) ≤ (-1) := zr_nle_r (-1) c7_ b6_ (show 0 ≤ Int32.toInt 0 ∧ Int32.toInt 0 ≤ 0 from (by decide)) (by decide)
    show PW 67 d (6, [some (pvR 124), some (pvI n1), some (pvI 3), none], [pvI 0], M) _
    refine pw_blk hT 1 (S' := (7, [some (pvR 124), some (pvI n1), some (pvI 3), some (pvI 0)], [], M)) rfl ⟨trivial, trivial⟩ ?_
    have hlz304_ : ∀ (nz304_ : Nat) (i2z304_ : Int32) (i3z304_ : Int32), ((-6000) ≤ Int32.toInt i2z304_ ∧ Int32.toInt i2z304_ ≤ 6000) → (0 ≤ Int32.toInt i3z304_ ∧ Int32.toInt i3z304_ ≤ 0) → (Int32.toInt i2z304_ ≤ 3 + 99 * Int32.toInt i3z304_) → (-(99 * Int32.toInt i3z304_) ≤ Int32.toInt i2z304_) → (zhide (0 < nz304_)) → PW 67 d (7, [some (pvR 124), some (pvI n1), some (pvI i2z304_), some (pvI i3z304_)], [], M) (fun r X => (∃ x : Int32, r = some (pvI x) ∧ 0 ≤ Int32.toInt x ∧ Int32.toInt x ≤ 6000) ∧ pvOk X ∧ pvFr fp_X10_rainOf_124_x M X) := by
      intro nz304_
      induction nz304_ with
      | zero => intro i2z304_ i3z304_ h2z304_ h3z304_ j0z304_ j1z304_ hmz304_; exact absurd (zshow hmz304_) (Nat.not_lt_zero _)
      | succ nz304_ ihz304_ =>
        intro i2z304_ i3z304_ h2z304_ h3z304_ j0z304_ j1z304_ hmz304_
        refine pw_blk hT 2 (S' := (9, [some (pvR 124), some (pvI n1), some (pvI i2z304_), some (pvI i3z304_)], [pvR 124, pvI i3z304_], M)) rfl ⟨trivial, trivial, trivial⟩ ?_
        refine pw_callT hT (as := [pvR 124]) (lo1 := [some (pvR 124)]) (d1 := d) (rest := [pvI i3z304_]) rfl rfl rfl rfl rfl (fun _ => rfl) (Nat.zero_le _) rfl rfl rfl (sf_X10_behindClauses_124 M hok d) ?_
        refine pw_eqI (if_neg c7_) ?_
        show PW 67 d (12, [some (pvR 124), some (pvI n1), some (pvI i2z304_), some (pvI i3z304_)], [pvI 0, pvI i3z304_], M) _
        refine pw_ic hT (c := 0 ≤ i3z304_) rfl rfl (fun c310_ => ?_) (fun c310_ => absurd (by have z0 := (show 0 ≤ Int32.toInt 0 ∧ Int32.toInt 0 ≤ 0 from (by decide)); have z1 := h3z304_; rw [zi_le]; omega) c310_)
        refine pw_blk hT 1 (S' := (72, [some (pvR 124), some (pvI n1), some (pvI i2z304_), some (pvI i3z304_)], [pvI i2z304_], M)) rfl ⟨trivial, trivial⟩ ?_
        refine pw_if hT (c := 0 ≤ i2z304_) rfl rfl (fun c311_ => ?_) (fun c311_ => ?_)
        · have b312_ : 0 ≤ Int32.toInt i2z304_ ∧ Int32.toInt i2z304_ ≤ 6000 := zr_le_r 0 c311_ h2z304_ (show 0 ≤ Int32.toInt 0 ∧ Int32.toInt 0 ≤ 0 from (by decide)) (by decide)
          refine pw_blk hT 1 (S' := (80, [some (pvR 124), some (pvI n1), some (pvI i2z304_), some (pvI i3z304_)], [pvI i2z304_], M)) rfl ⟨trivial, trivial⟩ ?_
          exact pw_ret hT rfl (r := some (pvI i2z304_)) (M' := M) ⟨rfl, rfl⟩ ⟨⟨_, rfl, b312_⟩, hok, pvfr_0⟩
        · have b313_ : (-6000) ≤ Int32.toInt i2z304_ ∧ Int32.toInt i2z304_ ≤ (-1) := zr_nle_r (-1) c311_ h2z304_ (show 0 ≤ Int32.toInt 0 ∧ Int32.toInt 0 ≤ 0 from (by decide)) (by decide)
          refine pw_blk hT 2 (S' := (80, [some (pvR 124), some (pvI n1), some (pvI i2z304_), some (pvI i3z304_)], [pvI 0], M)) rfl ⟨trivial, trivial, trivial⟩ ?_
          exact pw_ret hT rfl (r := some (pvI 0)) (M' := M) ⟨rfl, rfl⟩ ⟨⟨_, rfl, (zr_wide (show 0 ≤ Int32.toInt 0 ∧ Int32.toInt 0 ≤ 0 from (by decide)) (by decide) (by decide))⟩, hok, pvfr_0⟩
    have u314_ : Int32.toInt 3 = 3 := by decide
    have u315_ : Int32.toInt 0 = 0 := by decide
    have j316_ : Int32.toInt 3 ≤ 3 + 99 * Int32.toInt 0 := by omega
    have j317_ : -(99 * Int32.toInt 0) ≤ Int32.toInt 3 := by omega
    exact hlz304_ _ 3 0 (zr_wide (show 3 ≤ Int32.toInt 3 ∧ Int32.toInt 3 ≤ 3 from (by decide)) (by decide) (by decide)) (show 0 ≤ Int32.toInt 0 ∧ Int32.toInt 0 ≤ 0 from (by decide)) j316_ j317_ (zhid (Nat.lt_succ_self _))
def fpL_X10_layRain_124 : List (Nat × Nat × Nat) := [(0, 124, 33), (0, 141, 0), (0, 142, 0)]
def fp_X10_layRain_124 (q k : Nat) : Bool := pvfp fpL_X10_layRain_124 q k
theorem fp_X10_layRain_124_fp_X10_rainOf_124_x (a b : Nat) (h : fp_X10_rainOf_124_x a b = true) : fp_X10_layRain_124 a b = true := pvfp_sub (l1 := fpL_X10_rainOf_124_x) (l2 := fpL_X10_layRain_124) (by decide) a b h
set_option maxHeartbeats 4000000 in
set_option maxRecDepth 10000 in
theorem sf_X10_layRain_124 (M : pvM) (hok : pvOk M) (d : Nat) : PW 50 d (0, [some (pvR 124), none, none], [], M) (fun r X => r = none ∧ pvOk X ∧ pvFr fp_X10_layRain_124 M X) := by
  have hT : pvdom 50 = pvD_50 := rfl
  refine pw_blk hT 1 (S' := (1, [some (pvR 124), none, none], [pvR 124], M)) rfl ⟨trivial, trivial⟩ ?_
  refine pw_callGp hT (as := [pvR 124]) (lo1 := [some (pvR 124)]) (d1 := d) (rest := []) rfl rfl rfl rfl rfl (fun _ => rfl) (Nat.zero_le _) rfl rfl rfl (sf_X10_lastNow_124 M hok d) (fun x1_ b3_ => ?_)
  refine pw_blk hT 3 (S' := (7, [some (pvR 124), some (pvI x1_), some (pvI 0)], [], M)) rfl ⟨trivial, trivial, trivial, trivial⟩ ?_
  have hlz450_ : ∀ (nz450_ : Nat) (i2z450_ : Int32) (Mz450_ : pvM), (pvOk Mz450_) → (pvFr fp_X10_layRain_124 M Mz450_) → (0 ≤ Int32.toInt i2z450_ ∧ Int32.toInt i2z450_ ≤ 7) → (zhide ((8 - Int32.toInt i2z450_).toNat < nz450_)) → PW 50 d (7, [some (pvR 124), some (pvI x1_), some (pvI i2z450_)], [], Mz450_) (fun r X => r = none ∧ pvOk X ∧ pvFr fp_X10_layRain_124 M X) := by
    intro nz450_
    induction nz450_ with
    | zero => intro i2z450_ Mz450_ oz450_ fz450_ h2z450_ hmz450_; exact absurd (zshow hmz450_) (Nat.not_lt_zero _)
    | succ nz450_ ihz450_ =>
      intro i2z450_ Mz450_ oz450_ fz450_ h2z450_ hmz450_
      have b451_ : 0 ≤ Int32.toInt (Mz450_.1 124 0) ∧ Int32.toInt (Mz450_.1 124 0) ≤ 7 := pvok_r oz450_ 124 0 rfl
      refine pw_blk hT 3 (S' := (12, [some (pvR 124), some (pvI x1_), some (pvI i2z450_)], [pvI (Mz450_.1 124 0), pvI i2z450_], Mz450_)) rfl ⟨trivial, trivial, rfl, trivial⟩ ?_
      refine pw_ic hT (c := (Mz450_.1 124 0) ≤ i2z450_) rfl rfl (fun c452_ => ?_) (fun c452_ => ?_)
      · have d453_ : Int32.toInt (Mz450_.1 124 0) ≤ Int32.toInt i2z450_ := (zi_le _ _).mp c452_
        refine pw_blkw hT 3 (pc := 71) (lo := [some (pvR 124), some (pvI x1_), some (pvI i2z450_)]) (st := []) (M := pvu Mz450_ 124 32 0) rfl ⟨trivial, trivial, rfl, trivial⟩ (fun M454_ e455_ => ?_)
        have o456_ : pvOk M454_ := pvok_u2 e455_ oz450_ rfl (zr_wide (show 0 ≤ Int32.toInt 0 ∧ Int32.toInt 0 ≤ 0 from (by decide)) (by decide) (by decide))
        have f457_ : pvFr fp_X10_layRain_124 M M454_ := pvfr_u e455_ fz450_ rfl
        exact pw_ret hT rfl (r := none) (M' := M454_) ⟨rfl, rfl⟩ ⟨rfl, o456_, f457_⟩
      · have b458_ : 1 ≤ Int32.toInt (Mz450_.1 124 0) ∧ Int32.toInt (Mz450_.1 124 0) ≤ 7 := zr_nle_l 1 c452_ b451_ h2z450_ (by decide)
        have b459_ : 0 ≤ Int32.toInt i2z450_ ∧ Int32.toInt i2z450_ ≤ 6 := zr_nle_r 6 c452_ h2z450_ b458_ (by decide)
        have d460_ : Int32.toInt (Mz450_.1 124 0) > Int32.toInt i2z450_ := Int.not_le.mp ((not_congr (zi_le _ _)).mp c452_)
        refine pw_blkw hT 3 (pc := 20) (lo := [some (pvR 124), some (pvI x1_), some (pvI i2z450_)]) (st := []) (M := pvu Mz450_ 124 32 0) rfl ⟨trivial, trivial, rfl, trivial⟩ (fun M461_ e462_ => ?_)
        have o463_ : pvOk M461_ := pvok_u2 e462_ oz450_ rfl (zr_wide (show 0 ≤ Int32.toInt 0 ∧ Int32.toInt 0 ≤ 0 from (by decide)) (by decide) (by decide))
        have f464_ : pvFr fp_X10_layRain_124 M M461_ := pvfr_u e462_ fz450_ rfl
        have e465_ : (M461_.1 124 0) = (Mz450_.1 124 0) := (pvu_n e462_ 124 0 (Or.inr (by decide)))
        have b466_ : 1 ≤ Int32.toInt (M461_.1 124 0) ∧ Int32.toInt (M461_.1 124 0) ≤ 7 := (by rw [e465_]; exact b458_)
        have hlz530_ : ∀ (nz530_ : Nat) (Mz530_ : pvM), (pvOk Mz530_) → (pvFr fp_X10_layRain_124 M Mz530_) → (Mz530_.1 124 0 = M461_.1 124 0) → (zhide ((100 - Int32.toInt (Mz530_.1 124 32)).toNat < nz530_)) → PW 50 d (20, [some (pvR 124), some (pvI x1_), some (pvI i2z450_)], [], Mz530_) (fun r X => r = none ∧ pvOk X ∧ pvFr fp_X10_layRain_124 M X) := by
          intro nz530_
          induction nz530_ with
          | zero => intro Mz530_ oz530_ fz530_ k124_0z530_ hmz530_; exact absurd (zshow hmz530_) (Nat.not_lt_zero _)
          | succ nz530_ ihz530_ =>
            intro Mz530_ oz530_ fz530_ k124_0z530_ hmz530_
            have b531_ : 0 ≤ Int32.toInt (Mz530_.1 124 32) ∧ Int32.toInt (Mz530_.1 124 32) ≤ 99 := pvok_r oz530_ 124 32 rfl
            refine pw_blk hT 3 (S' := (25, [some (pvR 124), some (pvI x1_), some (pvI i2z450_)], [pvI x1_, pvI (Mz530_.1 124 32)], Mz530_)) rfl ⟨trivial, rfl, trivial, trivial⟩ ?_
            refine pw_ic hT (c := x1_ ≤ (Mz530_.1 124 32)) rfl rfl (fun c532_ => ?_) (fun c532_ => ?_)
            · have d533_ : Int32.toInt x1_ ≤ Int32.toInt (Mz530_.1 124 32) := (zi_le _ _).mp c532_
              obtain ⟨q535_, b534_⟩ : (Int32.toInt (i2z450_ + 1) = Int32.toInt i2z450_ + 1) ∧ (1 ≤ Int32.toInt (i2z450_ + 1) ∧ Int32.toInt (i2z450_ + 1) ≤ 7) := zadd_k i2z450_ 1 1 1 7 b459_ (by decide) (by decide) (by decide) (by decide) (by decide)
              refine pw_blk hT 2 (S' := (7, [some (pvR 124), some (pvI x1_), some (pvI (i2z450_ + 1))], [], Mz530_)) rfl ⟨trivial, trivial, trivial⟩ ?_
              exact ihz450_ (i2z450_ + 1) Mz530_ oz530_ fz530_ (zr_wide b534_ (by decide) (by decide)) (zhid (pvms_up (zshow hmz450_) h2z450_ q535_ (by decide) (by decide)))
            · have b536_ : 1 ≤ Int32.toInt x1_ ∧ Int32.toInt x1_ ≤ 99 := zr_nle_l 1 c532_ b3_ b531_ (by decide)
              have b537_ : 0 ≤ Int32.toInt (Mz530_.1 124 32) ∧ Int32.toInt (Mz530_.1 124 32) ≤ 98 := zr_nle_r 98 c532_ b531_ b536_ (by decide)
              have d538_ : Int32.toInt x1_ > Int32.toInt (Mz530_.1 124 32) := Int.not_le.mp ((not_congr (zi_le _ _)).mp c532_)
              have q539_ : Int32.toInt (99 * i2z450_) = 99 * Int32.toInt i2z450_ := by have u0 : Int32.toInt 99 = 99 := (by decide); have u1 := b459_; have u2 := zmul 99 i2z450_ (by rw [u0]; omega) (by rw [u0]; omega); rw [u0] at u2; omega
              have b540_ : 0 ≤ Int32.toInt (99 * i2z450_) ∧ Int32.toInt (99 * i2z450_) ≤ 594 := (by have u1 := b459_; omega)
              obtain ⟨q542_, b541_⟩ : (Int32.toInt ((99 * i2z450_) + (Mz530_.1 124 32)) = Int32.toInt (99 * i2z450_) + Int32.toInt (Mz530_.1 124 32)) ∧ (0 ≤ Int32.toInt ((99 * i2z450_) + (Mz530_.1 124 32)) ∧ Int32.toInt ((99 * i2z450_) + (Mz530_.1 124 32)) ≤ 692) := zadd_r (99 * i2z450_) (Mz530_.1 124 32) 0 692 b540_ b537_ (by decide) (by decide) (by decide) (by decide)
              refine pw_blk hT 10 (S' := (43, [some (pvR 124), some (pvI x1_), some (pvI i2z450_)], [pvI i2z450_, pvR 124, pvI ((99 * i2z450_) + (Mz530_.1 124 32)), pvR 142], Mz530_)) rfl ⟨trivial, rfl, trivial, trivial, trivial, trivial, rfl, trivial, trivial, trivial, trivial⟩ ?_
              refine pw_callG hT (as := [pvR 124, pvI i2z450_]) (lo1 := [some (pvR 124), some (pvI i2z450_), none, none]) (d1 := d) (rest := [pvI ((99 * i2z450_) + (Mz530_.1 124 32)), pvR 142]) rfl rfl rfl rfl rfl (fun _ => rfl) (Nat.zero_le _) rfl rfl rfl (sf_X10_rainOf_124_x Mz530_ oz530_ i2z450_ b459_ d) (fun x543_ M544_ b545_ o546_ g547_ => ?_)
              have f548_ : pvFr fp_X10_layRain_124 M M544_ := pvfr_t g547_ fz530_ fp_X10_layRain_124_fp_X10_rainOf_124_x
              refine pw_blkw hT 1 (pc := 47) (lo := [some (pvR 124), some (pvI x1_), some (pvI i2z450_)]) (st := []) (M := pvu M544_ 142 (Int32.toNatClampNeg ((99 * i2z450_) + (Mz530_.1 124 32))) x543_) rfl ⟨⟨rfl, (zr_in (n := 693) b541_ (by decide) (by decide))⟩, trivial⟩ (fun M549_ e550_ => ?_)
              have o551_ : pvOk M549_ := pvok_u2 e550_ o546_ rfl b545_
              have f552_ : pvFr fp_X10_layRain_124 M M549_ := pvfr_u e550_ f548_ rfl
              have e553_ : (M549_.1 124 32) = (Mz530_.1 124 32) := ((pvu_n e550_ 124 32 (Or.inl (by decide))).trans (g547_ 124 32 rfl))
              have b554_ : 0 ≤ Int32.toInt (M549_.1 124 32) ∧ Int32.toInt (M549_.1 124 32) ≤ 98 := (by rw [e553_]; exact b537_)
              obtain ⟨q556_, b555_⟩ : (Int32.toInt ((M549_.1 124 32) + 1) = Int32.toInt (M549_.1 124 32) + 1) ∧ (1 ≤ Int32.toInt ((M549_.1 124 32) + 1) ∧ Int32.toInt ((M549_.1 124 32) + 1) ≤ 99) := zadd_k (M549_.1 124 32) 1 1 1 99 b554_ (by decide) (by decide) (by decide) (by decide) (by decide)
              refine pw_blkw hT 6 (pc := 57) (lo := [some (pvR 124), some (pvI x1_), some (pvI i2z450_)]) (st := []) (M := pvu M549_ 124 32 ((M549_.1 124 32) + 1)) rfl ⟨trivial, trivial, rfl, trivial, trivial, rfl, trivial⟩ (fun M557_ e558_ => ?_)
              have o559_ : pvOk M557_ := pvok_u2 e558_ o551_ rfl (zr_wide b555_ (by decide) (by decide))
              have f560_ : pvFr fp_X10_layRain_124 M M557_ := pvfr_u e558_ f552_ rfl
              refine pw_blk hT 1 (S' := (20, [some (pvR 124), some (pvI x1_), some (pvI i2z450_)], [], M557_)) rfl ⟨trivial, trivial⟩ ?_
              exact ihz530_ M557_ o559_ f560_ ((((pvu_n e558_ 124 0 (Or.inr (by decide))).trans (pvu_n e550_ 124 0 (Or.inl (by decide)))).trans (g547_ 124 0 rfl)).trans (k124_0z530_)) (zhid (by have hm0 := zshow hmz530_; have z1 : Int32.toInt (M557_.1 124 32) = Int32.toInt ((M549_.1 124 32) + 1) := congrArg Int32.toInt (pvu_s e558_); have z2 : Int32.toInt (M549_.1 124 32) = Int32.toInt (Mz530_.1 124 32) := congrArg Int32.toInt ((pvu_n e550_ 124 32 (Or.inl (by decide))).trans (g547_ 124 32 rfl)); omega))
        exact hlz530_ _ M461_ o463_ f464_ rfl (zhid (Nat.lt_succ_self _))
  exact hlz450_ _ 0 M hok pvfr_0 (zr_wide (show 0 ≤ Int32.toInt 0 ∧ Int32.toInt 0 ≤ 0 from (by decide)) (by decide) (by decide)) (zhid (Nat.lt_succ_self _))
def fpL_X10_layRound_124 : List (Nat × Nat × Nat) := [(0, 124, 36), (0, 144, 0)]
def fp_X10_layRound_124 (q k : Nat) : Bool := pvfp fpL_X10_layRound_124 q k
set_option maxHeartbeats 4000000 in
set_option maxRecDepth 10000 in
theorem sf_X10_layRound_124 (M : pvM) (hok : pvOk M) (d : Nat) : PW 51 d (0, [some (pvR 124), none], [], M) (fun r X => r = none ∧ pvOk X ∧ pvFr fp_X10_layRound_124 M X) := by
  have hT : pvdom 51 = pvD_51 := rfl
  have b1_ : 0 ≤ Int32.toInt (M.1 124 37) ∧ Int32.toInt (M.1 124 37) ≤ 7 := pvok_r hok 124 37 rfl
  refine pw_blkw hT 4 (pc := 8) (lo := [some (pvR 124), none]) (st := []) (M := pvu M 124 35 (M.1 124 37)) rfl ⟨trivial, trivial, rfl, rfl, trivial⟩ (fun M2_ e3_ => ?_)
  have o4_ : pvOk M2_ := pvok_u2 e3_ hok rfl b1_
  have f5_ : pvFr fp_X10_layRound_124 M M2_ := pvfr_u e3_ pvfr_0 rfl
  refine pw_blk hT 2 (S' := (10, [some (pvR 124), some (pvI 0)], [], M2_)) rfl ⟨trivial, trivial, trivial⟩ ?_
  have hlz48_ : ∀ (nz48_ : Nat) (i1z48_ : Int32) (Mz48_ : pvM), (pvOk Mz48_) → (pvFr fp_X10_layRound_124 M Mz48_) → (0 ≤ Int32.toInt i1z48_ ∧ Int32.toInt i1z48_ ≤ 7) → (zhide ((8 - Int32.toInt i1z48_).toNat < nz48_)) → PW 51 d (10, [some (pvR 124), some (pvI i1z48_)], [], Mz48_) (fun r X => r = none ∧ pvOk X ∧ pvFr fp_X10_layRound_124 M X) := by
    intro nz48_
    induction nz48_ with
    | zero => intro i1z48_ Mz48_ oz48_ fz48_ h1z48_ hmz48_; exact absurd (zshow hmz48_) (Nat.not_lt_zero _)
    | succ nz48_ ihz48_ =>
      intro i1z48_ Mz48_ oz48_ fz48_ h1z48_ hmz48_
      refine pw_blk hT 2 (S' := (13, [some (pvR 124), some (pvI i1z48_)], [pvI 7, pvI i1z48_], Mz48_)) rfl ⟨trivial, trivial, trivial⟩ ?_
      refine pw_ic hT (c := 7 ≤ i1z48_) rfl rfl (fun c49_ => ?_) (fun c49_ => ?_)
      · have b50_ : 7 ≤ Int32.toInt i1z48_ ∧ Int32.toInt i1z48_ ≤ 7 := zr_le_r 7 c49_ h1z48_ (show 7 ≤ Int32.toInt 7 ∧ Int32.toInt 7 ≤ 7 from (by decide)) (by decide)
        exact pw_ret hT rfl (r := none) (M' := Mz48_) ⟨rfl, rfl⟩ ⟨rfl, oz48_, fz48_⟩
      · have b51_ : 0 ≤ Int32.toInt i1z48_ ∧ Int32.toInt i1z48_ ≤ 6 := zr_nle_r 6 c49_ h1z48_ (show 7 ≤ Int32.toInt 7 ∧ Int32.toInt 7 ≤ 7 from (by decide)) (by decide)
        have b52_ : 0 ≤ Int32.toInt (Mz48_.1 145 (Int32.toNatClampNeg i1z48_)) ∧ Int32.toInt (Mz48_.1 145 (Int32.toNatClampNeg i1z48_)) ≤ 6 := pvok_r oz48_ 145 (Int32.toNatClampNeg i1z48_) rfl
        refine pw_blkw hT 8 (pc := 28) (lo := [some (pvR 124), some (pvI i1z48_)]) (st := []) (M := pvu Mz48_ 144 (Int32.toNatClampNeg i1z48_) (Mz48_.1 145 (Int32.toNatClampNeg i1z48_))) rfl ⟨trivial, rfl, trivial, trivial, rfl, trivial, ⟨rfl, (zr_in (n := 7) b51_ (by decide) (by decide))⟩, ⟨rfl, (zr_in (n := 7) b51_ (by decide) (by decide))⟩, trivial⟩ (fun M53_ e54_ => ?_)
        have o55_ : pvOk M53_ := pvok_u2 e54_ oz48_ rfl b52_
        have f56_ : pvFr fp_X10_layRound_124 M M53_ := pvfr_u e54_ fz48_ rfl
        obtain ⟨q58_, b57_⟩ : (Int32.toInt (i1z48_ + 1) = Int32.toInt i1z48_ + 1) ∧ (1 ≤ Int32.toInt (i1z48_ + 1) ∧ Int32.toInt (i1z48_ + 1) ≤ 7) := zadd_k i1z48_ 1 1 1 7 b51_ (by decide) (by decide) (by decide) (by decide) (by decide)
        refine pw_blk hT 2 (S' := (10, [some (pvR 124), some (pvI (i1z48_ + 1))], [], M53_)) rfl ⟨trivial, trivial, trivial⟩ ?_
        exact ihz48_ (i1z48_ + 1) M53_ o55_ f56_ (zr_wide b57_ (by decide) (by decide)) (zhid (pvms_up (zshow hmz48_) h1z48_ q58_ (by decide) (by decide)))
  exact hlz48_ _ 0 M2_ o4_ f5_ (zr_wide (show 0 ≤ Int32.toInt 0 ∧ Int32.toInt 0 ≤ 0 from (by decide)) (by decide) (by decide)) (zhid (Nat.lt_succ_self _))
def fpL_X10_layOpen_124 : List (Nat × Nat × Nat) := [(0, 143, 0)]
def fp_X10_layOpen_124 (q k : Nat) : Bool := pvfp fpL_X10_layOpen_124 q k
set_option maxHeartbeats 4000000 in
set_option maxRecDepth 10000 in
theorem sf_X10_layOpen_124 (M : pvM) (hok : pvOk M) (d : Nat) : PW 48 d (0, [some (pvR 124), none], [], M) (fun r X => r = none ∧ pvOk X ∧ pvFr fp_X10_layOpen_124 M X) := by
  have hT : pvdom 48 = pvD_48 := rfl
  refine pw_blk hT 2 (S' := (2, [some (pvR 124), some (pvI 0)], [], M)) rfl ⟨trivial, trivial, trivial⟩ ?_
  have hlz77_ : ∀ (nz77_ : Nat) (i1z77_ : Int32) (Mz77_ : pvM), (pvOk Mz77_) → (pvFr fp_X10_layOpen_124 M Mz77_) → (0 ≤ Int32.toInt i1z77_ ∧ Int32.toInt i1z77_ ≤ 7) → (zhide ((8 - Int32.toInt i1z77_).toNat < nz77_)) → PW 48 d (2, [some (pvR 124), some (pvI i1z77_)], [], Mz77_) (fun r X => r = none ∧ pvOk X ∧ pvFr fp_X10_layOpen_124 M X) := by
    intro nz77_
    induction nz77_ with
    | zero => intro i1z77_ Mz77_ oz77_ fz77_ h1z77_ hmz77_; exact absurd (zshow hmz77_) (Nat.not_lt_zero _)
    | succ nz77_ ihz77_ =>
      intro i1z77_ Mz77_ oz77_ fz77_ h1z77_ hmz77_
      refine pw_blk hT 2 (S' := (5, [some (pvR 124), some (pvI i1z77_)], [pvI 7, pvI i1z77_], Mz77_)) rfl ⟨trivial, trivial, trivial⟩ ?_
      refine pw_ic hT (c := 7 ≤ i1z77_) rfl rfl (fun c78_ => ?_) (fun c78_ => ?_)
      · have b79_ : 7 ≤ Int32.toInt i1z77_ ∧ Int32.toInt i1z77_ ≤ 7 := zr_le_r 7 c78_ h1z77_ (show 7 ≤ Int32.toInt 7 ∧ Int32.toInt 7 ≤ 7 from (by decide)) (by decide)
        exact pw_ret hT rfl (r := none) (M' := Mz77_) ⟨rfl, rfl⟩ ⟨rfl, oz77_, fz77_⟩
      · have b80_ : 0 ≤ Int32.toInt i1z77_ ∧ Int32.toInt i1z77_ ≤ 6 := zr_nle_r 6 c78_ h1z77_ (show 7 ≤ Int32.toInt 7 ∧ Int32.toInt 7 ≤ 7 from (by decide)) (by decide)
        have b81_ : 0 ≤ Int32.toInt (Mz77_.1 131 (Int32.toNatClampNeg i1z77_)) ∧ Int32.toInt (Mz77_.1 131 (Int32.toNatClampNeg i1z77_)) ≤ 1 := pvok_r oz77_ 131 (Int32.toNatClampNeg i1z77_) rfl
        refine pw_blk hT 7 (S' := (19, [some (pvR 124), some (pvI i1z77_)], [pvI (Mz77_.1 131 (Int32.toNatClampNeg i1z77_)), pvI i1z77_, pvR 143], Mz77_)) rfl ⟨trivial, rfl, trivial, trivial, rfl, trivial, ⟨rfl, (zr_in (n := 7) b80_ (by decide) (by decide))⟩, trivial⟩ ?_
        refine pw_if hT (c := (Mz77_.1 131 (Int32.toNatClampNeg i1z77_)) = 0) rfl rfl (fun c82_ => ?_) (fun c82_ => ?_)
        · have b83_ : 0 ≤ Int32.toInt (Mz77_.1 131 (Int32.toNatClampNeg i1z77_)) ∧ Int32.toInt (Mz77_.1 131 (Int32.toNatClampNeg i1z77_)) ≤ 0 := (by have u0 := b81_; have u1 := (zi_eq _ _).mp c82_; have u2 := (show 0 ≤ Int32.toInt 0 ∧ Int32.toInt 0 ≤ 0 from (by decide)); omega)
          refine pw_blkw hT 2 (pc := 30) (lo := [some (pvR 124), some (pvI i1z77_)]) (st := []) (M := pvu Mz77_ 143 (Int32.toNatClampNeg i1z77_) 99999) rfl ⟨trivial, ⟨rfl, (zr_in (n := 7) b80_ (by decide) (by decide))⟩, trivial⟩ (fun M84_ e85_ => ?_)
          have o86_ : pvOk M84_ := pvok_u2 e85_ oz77_ rfl (zr_wide (show 99999 ≤ Int32.toInt 99999 ∧ Int32.toInt 99999 ≤ 99999 from (by decide)) (by decide) (by decide))
          have f87_ : pvFr fp_X10_layOpen_124 M M84_ := pvfr_u e85_ fz77_ rfl
          obtain ⟨q89_, b88_⟩ : (Int32.toInt (i1z77_ + 1) = Int32.toInt i1z77_ + 1) ∧ (1 ≤ Int32.toInt (i1z77_ + 1) ∧ Int32.toInt (i1z77_ + 1) ≤ 7) := zadd_k i1z77_ 1 1 1 7 b80_ (by decide) (by decide) (by decide) (by decide) (by decide)
          refine pw_blk hT 2 (S' := (2, [some (pvR 124), some (pvI (i1z77_ + 1))], [], M84_)) rfl ⟨trivial, trivial, trivial⟩ ?_
          exact ihz77_ (i1z77_ + 1) M84_ o86_ f87_ (zr_wide b88_ (by decide) (by decide)) (zhid (pvms_up (zshow hmz77_) h1z77_ q89_ (by decide) (by decide)))
        · have b90_ : 1 ≤ Int32.toInt (Mz77_.1 131 (Int32.toNatClampNeg i1z77_)) ∧ Int32.toInt (Mz77_.1 131 (Int32.toNatClampNeg i1z77_)) ≤ 1 := (by have u0 := b81_; have u1 := (not_congr (zi_eq _ _)).mp c82_; have u2 := (show 0 ≤ Int32.toInt 0 ∧ Int32.toInt 0 ≤ 0 from (by decide)); omega)
          refine pw_blkw hT 3 (pc := 30) (lo := [some (pvR 124), some (pvI i1z77_)]) (st := []) (M := pvu Mz77_ 143 (Int32.toNatClampNeg i1z77_) (-1)) rfl ⟨trivial, trivial, ⟨rfl, (zr_in (n := 7) b80_ (by decide) (by decide))⟩, trivial⟩ (fun M91_ e92_ => ?_)
          have o93_ : pvOk M91_ := pvok_u2 e92_ oz77_ rfl (zr_wide (show (-1) ≤ Int32.toInt (-1) ∧ Int32.toInt (-1) ≤ (-1) from (by decide)) (by decide) (by decide))
          have f94_ : pvFr fp_X10_layOpen_124 M M91_ := pvfr_u e92_ fz77_ rfl
          obtain ⟨q96_, b95_⟩ : (Int32.toInt (i1z77_ + 1) = Int32.toInt i1z77_ + 1) ∧ (1 ≤ Int32.toInt (i1z77_ + 1) ∧ Int32.toInt (i1z77_ + 1) ≤ 7) := zadd_k i1z77_ 1 1 1 7 b80_ (by decide) (by decide) (by decide) (by decide) (by decide)
          refine pw_blk hT 2 (S' := (2, [some (pvR 124), some (pvI (i1z77_ + 1))], [], M91_)) rfl ⟨trivial, trivial, trivial⟩ ?_
          exact ihz77_ (i1z77_ + 1) M91_ o93_ f94_ (zr_wide b95_ (by decide) (by decide)) (zhid (pvms_up (zshow hmz77_) h1z77_ q96_ (by decide) (by decide)))
  exact hlz77_ _ 0 M hok pvfr_0 (zr_wide (show 0 ≤ Int32.toInt 0 ∧ Int32.toInt 0 ≤ 0 from (by decide)) (by decide) (by decide)) (zhid (Nat.lt_succ_self _))
set_option maxHeartbeats 4000000 in
set_option maxRecDepth 10000 in
theorem sf_X10_way_124_x_x_x (M : pvM) (hok : pvOk M) (n1 : Int32) (n2 : Int32) (n3 : Int32) (hn1 : 0 ≤ Int32.toInt n1 ∧ Int32.toInt n1 ≤ 3) (hn2 : 0 ≤ Int32.toInt n2 ∧ Int32.toInt n2 ≤ 4) (hn3 : 0 ≤ Int32.toInt n3 ∧ Int32.toInt n3 ≤ 6) (d : Nat) : PW 95 d (0, [some (pvR 124), some (pvI n1), some (pvI n2), some (pvI n3)], [], M) (fun r X => (∃ x : Int32, r = some (pvI x) ∧ 0 ≤ Int32.toInt x ∧ Int32.toInt x ≤ 301) ∧ X = M) := by
  have hT : pvdom 95 = pvD_95 := rfl
  refine pw_blk hT 3 (S' := (3, [some (pvR 124), some (pvI n1), some (pvI n2), some (pvI n3)], [pvI 2, pvI 2, pvR 124], M)) rfl ⟨trivial, trivial, trivial, trivial⟩ ?_
  refine pw_callGp hT (as := [pvR 124, pvI 2, pvI 2]) (lo1 := [some (pvR 124), some (pvI 2), some (pvI 2), none, none]) (d1 := d) (rest := []) rfl rfl rfl rfl rfl (fun _ => rfl) (Nat.zero_le _) rfl rfl rfl (sf_X10_lastOf_124_x_x M hok 2 2 (zr_wide (show 2 ≤ Int32.toInt 2 ∧ Int32.toInt 2 ≤ 2 from (by decide)) (by decide) (by decide)) (zr_wide (show 2 ≤ Int32.toInt 2 ∧ Int32.toInt 2 ≤ 2 from (by decide)) (by decide) (by decide)) d) (fun x1_ b3_ => ?_)
  have b6_ : 0 ≤ Int32.toInt (M.1 127 (Int32.toNatClampNeg n3)) ∧ Int32.toInt (M.1 127 (Int32.toNatClampNeg n3)) ≤ 3 := pvok_r hok 127 (Int32.toNatClampNeg n3) rfl
  refine pw_blk hT 6 (S' := (14, [some (pvR 124), some (pvI n1), some (pvI n2), some (pvI n3)], [pvI (M.1 127 (Int32.toNatClampNeg n3)), pvI n1, pvR 124, pvI x1_], M)) rfl ⟨trivial, trivial, trivial, rfl, trivial, ⟨rfl, (zr_in (n := 7) hn3 (by decide) (by decide))⟩, trivial⟩ ?_
  refine pw_callT hT (as := [pvR 124, pvI n1, pvI (M.1 127 (Int32.toNatClampNeg n3))]) (lo1 := [some (pvR 124), some (pvI n1), some (pvI (M.1 127 (Int32.toNatClampNeg n3)))]) (d1 := d) (rest := [pvI x1_]) rfl rfl rfl rfl rfl (fun _ => rfl) (Nat.zero_le _) rfl rfl rfl (sf_X10_apart_124_x_x M hok n1 (M.1 127 (Int32.toNatClampNeg n3)) (zr_wide hn1 (by decide) (by decide)) (zr_wide b6_ (by decide) (by decide)) d) ?_
  by_cases c12_ : (M.1 127 (Int32.toNatClampNeg n3)) ≤ n1
  · refine pw_eqI (if_pos c12_) ?_
    have d13_ : Int32.toInt (M.1 127 (Int32.toNatClampNeg n3)) ≤ Int32.toInt n1 := (zi_le _ _).mp c12_
    obtain ⟨q15_, b14_⟩ : (Int32.toInt (n1 - (M.1 127 (Int32.toNatClampNeg n3))) = Int32.toInt n1 - Int32.toInt (M.1 127 (Int32.toNatClampNeg n3))) ∧ ((-3) ≤ Int32.toInt (n1 - (M.1 127 (Int32.toNatClampNeg n3))) ∧ Int32.toInt (n1 - (M.1 127 (Int32.toNatClampNeg n3))) ≤ 3) := zsub_r n1 (M.1 127 (Int32.toNatClampNeg n3)) (-3) 3 hn1 b6_ (by decide) (by decide) (by decide) (by decide)
    have b16_ : 0 ≤ Int32.toInt (n1 - (M.1 127 (Int32.toNatClampNeg n3))) ∧ Int32.toInt (n1 - (M.1 127 (Int32.toNatClampNeg n3))) ≤ 3 := (by have u0 := b14_; omega)
    show PW 95 d (17, [some (pvR 124), some (pvI n1), some (pvI n2), some (pvI n3)], [pvI (n1 - (M.1 127 (Int32.toNatClampNeg n3))), pvI x1_], M) _
    have b17_ : 0 ≤ Int32.toInt (x1_ * (n1 - (M.1 127 (Int32.toNatClampNeg n3)))) ∧ Int32.toInt (x1_ * (n1 - (M.1 127 (Int32.toNatClampNeg n3)))) ≤ 297 := (by have u := zmul_b x1_ (n1 - (M.1 127 (Int32.toNatClampNeg n3))) 99 3 (by have u0 := b3_; omega) (by have u0 := b16_; omega) (by decide); omega)
    have b18_ : 0 ≤ Int32.toInt (M.1 128 (Int32.toNatClampNeg n3)) ∧ Int32.toInt (M.1 128 (Int32.toNatClampNeg n3)) ≤ 4 := pvok_r hok 128 (Int32.toNatClampNeg n3) rfl
    refine pw_blk hT 7 (S' := (26, [some (pvR 124), some (pvI n1), some (pvI n2), some (pvI n3)], [pvI (M.1 128 (Int32.toNatClampNeg n3)), pvI n2, pvR 124, pvI (x1_ * (n1 - (M.1 127 (Int32.toNatClampNeg n3))))], M)) rfl ⟨trivial, trivial, trivial, trivial, rfl, trivial, ⟨rfl, (zr_in (n := 7) hn3 (by decide) (by decide))⟩, trivial⟩ ?_
    refine pw_callT hT (as := [pvR 124, pvI n2, pvI (M.1 128 (Int32.toNatClampNeg n3))]) (lo1 := [some (pvR 124), some (pvI n2), some (pvI (M.1 128 (Int32.toNatClampNeg n3)))]) (d1 := d) (rest := [pvI (x1_ * (n1 - (M.1 127 (Int32.toNatClampNeg n3))))]) rfl rfl rfl rfl rfl (fun _ => rfl) (Nat.zero_le _) rfl rfl rfl (sf_X10_apart_124_x_x M hok n2 (M.1 128 (Int32.toNatClampNeg n3)) hn2 b18_ d) ?_
    by_cases c24_ : (M.1 128 (Int32.toNatClampNeg n3)) ≤ n2
    · refine pw_eqI (if_pos c24_) ?_
      have d25_ : Int32.toInt (M.1 128 (Int32.toNatClampNeg n3)) ≤ Int32.toInt n2 := (zi_le _ _).mp c24_
      obtain ⟨q27_, b26_⟩ : (Int32.toInt (n2 - (M.1 128 (Int32.toNatClampNeg n3))) = Int32.toInt n2 - Int32.toInt (M.1 128 (Int32.toNatClampNeg n3))) ∧ ((-4) ≤ Int32.toInt (n2 - (M.1 128 (Int32.toNatClampNeg n3))) ∧ Int32.toInt (n2 - (M.1 128 (Int32.toNatClampNeg n3))) ≤ 4) := zsub_r n2 (M.1 128 (Int32.toNatClampNeg n3)) (-4) 4 hn2 b18_ (by decide) (by decide) (by decide) (by decide)
      have b28_ : 0 ≤ Int32.toInt (n2 - (M.1 128 (Int32.toNatClampNeg n3))) ∧ Int32.toInt (n2 - (M.1 128 (Int32.toNatClampNeg n3))) ≤ 4 := (by have u0 := b26_; omega)
      show PW 95 d (29, [some (pvR 124), some (pvI n1), some (pvI n2), some (pvI n3)], [pvI (n2 - (M.1 128 (Int32.toNatClampNeg n3))), pvI (x1_ * (n1 - (M.1 127 (Int32.toNatClampNeg n3))))], M) _
      obtain ⟨q30_, b29_⟩ : (Int32.toInt ((x1_ * (n1 - (M.1 127 (Int32.toNatClampNeg n3)))) + (n2 - (M.1 128 (Int32.toNatClampNeg n3)))) = Int32.toInt (x1_ * (n1 - (M.1 127 (Int32.toNatClampNeg n3)))) + Int32.toInt (n2 - (M.1 128 (Int32.toNatClampNeg n3)))) ∧ (0 ≤ Int32.toInt ((x1_ * (n1 - (M.1 127 (Int32.toNatClampNeg n3)))) + (n2 - (M.1 128 (Int32.toNatClampNeg n3)))) ∧ Int32.toInt ((x1_ * (n1 - (M.1 127 (Int32.toNatClampNeg n3)))) + (n2 - (M.1 128 (Int32.toNatClampNeg n3)))) ≤ 301) := zadd_r (x1_ * (n1 - (M.1 127 (Int32.toNatClampNeg n3)))) (n2 - (M.1 128 (Int32.toNatClampNeg n3))) 0 301 b17_ b28_ (by decide) (by decide) (by decide) (by decide)
      refine pw_blk hT 1 (S' := (30, [some (pvR 124), some (pvI n1), some (pvI n2), some (pvI n3)], [pvI ((x1_ * (n1 - (M.1 127 (Int32.toNatClampNeg n3)))) + (n2 - (M.1 128 (Int32.toNatClampNeg n3))))], M)) rfl ⟨trivial, trivial⟩ ?_
      exact pw_ret hT rfl (r := some (pvI ((x1_ * (n1 - (M.1 127 (Int32.toNatClampNeg n3)))) + (n2 - (M.1 128 (Int32.toNatClampNeg n3)))))) (M' := M) ⟨rfl, rfl⟩ ⟨⟨_, rfl, b29_⟩, rfl⟩
    · refine pw_eqI (if_neg c24_) ?_
      have b31_ : 1 ≤ Int32.toInt (M.1 128 (Int32.toNatClampNeg n3)) ∧ Int32.toInt (M.1 128 (Int32.toNatClampNeg n3)) ≤ 4 := zr_nle_l 1 c24_ b18_ hn2 (by decide)
      have b32_ : 0 ≤ Int32.toInt n2 ∧ Int32.toInt n2 ≤ 3 := zr_nle_r 3 c24_ hn2 b31_ (by decide)
      have d33_ : Int32.toInt (M.1 128 (Int32.toNatClampNeg n3)) > Int32.toInt n2 := Int.not_le.mp ((not_congr (zi_le _ _)).mp c24_)
      obtain ⟨q35_, b34_⟩ : (Int32.toInt ((M.1 128 (Int32.toNatClampNeg n3)) - n2) = Int32.toInt (M.1 128 (Int32.toNatClampNeg n3)) - Int32.toInt n2) ∧ ((-2) ≤ Int32.toInt ((M.1 128 (Int32.toNatClampNeg n3)) - n2) ∧ Int32.toInt ((M.1 128 (Int32.toNatClampNeg n3)) - n2) ≤ 4) := zsub_r (M.1 128 (Int32.toNatClampNeg n3)) n2 (-2) 4 b31_ b32_ (by decide) (by decide) (by decide) (by decide)
      have b36_ : 1 ≤ Int32.toInt ((M.1 128 (Int32.toNatClampNeg n3)) - n2) ∧ Int32.toInt ((M.1 128 (Int32.toNatClampNeg n3)) - n2) ≤ 4 := (by have u0 := b34_; omega)
      show PW 95 d (29, [some (pvR 124), some (pvI n1), some (pvI n2), some (pvI n3)], [pvI ((M.1 128 (Int32.toNatClampNeg n3)) - n2), pvI (x1_ * (n1 - (M.1 127 (Int32.toNatClampNeg n3))))], M) _
      obtain ⟨q38_, b37_⟩ : (Int32.toInt ((x1_ * (n1 - (M.1 127 (Int32.toNatClampNeg n3)))) + ((M.1 128 (Int32.toNatClampNeg n3)) - n2)) = Int32.toInt (x1_ * (n1 - (M.1 127 (Int32.toNatClampNeg n3)))) + Int32.toInt ((M.1 128 (Int32.toNatClampNeg n3)) - n2)) ∧ (1 ≤ Int32.toInt ((x1_ * (n1 - (M.1 127 (Int32.toNatClampNeg n3)))) + ((M.1 128 (Int32.toNatClampNeg n3)) - n2)) ∧ Int32.toInt ((x1_ * (n1 - (M.1 127 (Int32.toNatClampNeg n3)))) + ((M.1 128 (Int32.toNatClampNeg n3)) - n2)) ≤ 301) := zadd_r (x1_ * (n1 - (M.1 127 (Int32.toNatClampNeg n3)))) ((M.1 128 (Int32.toNatClampNeg n3)) - n2) 1 301 b17_ b36_ (by decide) (by decide) (by decide) (by decide)
      refine pw_blk hT 1 (S' := (30, [some (pvR 124), some (pvI n1), some (pvI n2), some (pvI n3)], [pvI ((x1_ * (n1 - (M.1 127 (Int32.toNatClampNeg n3)))) + ((M.1 128 (Int32.toNatClampNeg n3)) - n2))], M)) rfl ⟨trivial, trivial⟩ ?_
      exact pw_ret hT rfl (r := some (pvI ((x1_ * (n1 - (M.1 127 (Int32.toNatClampNeg n3)))) + ((M.1 128 (Int32.toNatClampNeg n3)) - n2)))) (M' := M) ⟨rfl, rfl⟩ ⟨⟨_, rfl, (zr_wide b37_ (by decide) (by decide))⟩, rfl⟩
  · refine pw_eqI (if_neg c12_) ?_
    have b39_ : 1 ≤ Int32.toInt (M.1 127 (Int32.toNatClampNeg n3)) ∧ Int32.toInt (M.1 127 (Int32.toNatClampNeg n3)) ≤ 3 := zr_nle_l 1 c12_ b6_ hn1 (by decide)
    have b40_ : 0 ≤ Int32.toInt n1 ∧ Int32.toInt n1 ≤ 2 := zr_nle_r 2 c12_ hn1 b39_ (by decide)
    have d41_ : Int32.toInt (M.1 127 (Int32.toNatClampNeg n3)) > Int32.toInt n1 := Int.not_le.mp ((not_congr (zi_le _ _)).mp c12_)
    obtain ⟨q43_, b42_⟩ : (Int32.toInt ((M.1 127 (Int32.toNatClampNeg n3)) - n1) = Int32.toInt (M.1 127 (Int32.toNatClampNeg n3)) - Int32.toInt n1) ∧ ((-1) ≤ Int32.toInt ((M.1 127 (Int32.toNatClampNeg n3)) - n1) ∧ Int32.toInt ((M.1 127 (Int32.toNatClampNeg n3)) - n1) ≤ 3) := zsub_r (M.1 127 (Int32.toNatClampNeg n3)) n1 (-1) 3 b39_ b40_ (by decide) (by decide) (by decide) (by decide)
    have b44_ : 1 ≤ Int32.toInt ((M.1 127 (Int32.toNatClampNeg n3)) - n1) ∧ Int32.toInt ((M.1 127 (Int32.toNatClampNeg n3)) - n1) ≤ 3 := (by have u0 := b42_; omega)
    show PW 95 d (17, [some (pvR 124), some (pvI n1), some (pvI n2), some (pvI n3)], [pvI ((M.1 127 (Int32.toNatClampNeg n3)) - n1), pvI x1_], M) _
    have b45_ : 0 ≤ Int32.toInt (x1_ * ((M.1 127 (Int32.toNatClampNeg n3)) - n1)) ∧ Int32.toInt (x1_ * ((M.1 127 (Int32.toNatClampNeg n3)) - n1)) ≤ 297 := (by have u := zmul_b x1_ ((M.1 127 (Int32.toNatClampNeg n3)) - n1) 99 3 (by have u0 := b3_; omega) (by have u0 := b44_; omega) (by decide); omega)
    have b46_ : 0 ≤ Int32.toInt (M.1 128 (Int32.toNatClampNeg n3)) ∧ Int32.toInt (M.1 128 (Int32.toNatClampNeg n3)) ≤ 4 := pvok_r hok 128 (Int32.toNatClampNeg n3) rfl
    refine pw_blk hT 7 (S' := (26, [some (pvR 124), some (pvI n1), some (pvI n2), some (pvI n3)], [pvI (M.1 128 (Int32.toNatClampNeg n3)), pvI n2, pvR 124, pvI (x1_ * ((M.1 127 (Int32.toNatClampNeg n3)) - n1))], M)) rfl ⟨trivial, trivial, trivial, trivial, rfl, trivial, ⟨rfl, (zr_in (n := 7) hn3 (by decide) (by decide))⟩, trivial⟩ ?_
    refine pw_callT hT (as := [pvR 124, pvI n2, pvI (M.1 128 (Int32.toNatClampNeg n3))]) (lo1 := [some (pvR 124), some (pvI n2), some (pvI (M.1 128 (Int32.toNatClampNeg n3)))]) (d1 := d) (rest := [pvI (x1_ * ((M.1 127 (Int32.toNatClampNeg n3)) - n1))]) rfl rfl rfl rfl rfl (fun _ => rfl) (Nat.zero_le _) rfl rfl rfl (sf_X10_apart_124_x_x M hok n2 (M.1 128 (Int32.toNatClampNeg n3)) hn2 b46_ d) ?_
    by_cases c52_ : (M.1 128 (Int32.toNatClampNeg n3)) ≤ n2
    · refine pw_eqI (if_pos c52_) ?_
      have d53_ : Int32.toInt (M.1 128 (Int32.toNatClampNeg n3)) ≤ Int32.toInt n2 := (zi_le _ _).mp c52_
      obtain ⟨q55_, b54_⟩ : (Int32.toInt (n2 - (M.1 128 (Int32.toNatClampNeg n3))) = Int32.toInt n2 - Int32.toInt (M.1 128 (Int32.toNatClampNeg n3))) ∧ ((-4) ≤ Int32.toInt (n2 - (M.1 128 (Int32.toNatClampNeg n3))) ∧ Int32.toInt (n2 - (M.1 128 (Int32.toNatClampNeg n3))) ≤ 4) := zsub_r n2 (M.1 128 (Int32.toNatClampNeg n3)) (-4) 4 hn2 b46_ (by decide) (by decide) (by decide) (by decide)
      have b56_ : 0 ≤ Int32.toInt (n2 - (M.1 128 (Int32.toNatClampNeg n3))) ∧ Int32.toInt (n2 - (M.1 128 (Int32.toNatClampNeg n3))) ≤ 4 := (by have u0 := b54_; omega)
      show PW 95 d (29, [some (pvR 124), some (pvI n1), some (pvI n2), some (pvI n3)], [pvI (n2 - (M.1 128 (Int32.toNatClampNeg n3))), pvI (x1_ * ((M.1 127 (Int32.toNatClampNeg n3)) - n1))], M) _
      obtain ⟨q58_, b57_⟩ : (Int32.toInt ((x1_ * ((M.1 127 (Int32.toNatClampNeg n3)) - n1)) + (n2 - (M.1 128 (Int32.toNatClampNeg n3)))) = Int32.toInt (x1_ * ((M.1 127 (Int32.toNatClampNeg n3)) - n1)) + Int32.toInt (n2 - (M.1 128 (Int32.toNatClampNeg n3)))) ∧ (0 ≤ Int32.toInt ((x1_ * ((M.1 127 (Int32.toNatClampNeg n3)) - n1)) + (n2 - (M.1 128 (Int32.toNatClampNeg n3)))) ∧ Int32.toInt ((x1_ * ((M.1 127 (Int32.toNatClampNeg n3)) - n1)) + (n2 - (M.1 128 (Int32.toNatClampNeg n3)))) ≤ 301) := zadd_r (x1_ * ((M.1 127 (Int32.toNatClampNeg n3)) - n1)) (n2 - (M.1 128 (Int32.toNatClampNeg n3))) 0 301 b45_ b56_ (by decide) (by decide) (by decide) (by decide)
      refine pw_blk hT 1 (S' := (30, [some (pvR 124), some (pvI n1), some (pvI n2), some (pvI n3)], [pvI ((x1_ * ((M.1 127 (Int32.toNatClampNeg n3)) - n1)) + (n2 - (M.1 128 (Int32.toNatClampNeg n3))))], M)) rfl ⟨trivial, trivial⟩ ?_
      exact pw_ret hT rfl (r := some (pvI ((x1_ * ((M.1 127 (Int32.toNatClampNeg n3)) - n1)) + (n2 - (M.1 128 (Int32.toNatClampNeg n3)))))) (M' := M) ⟨rfl, rfl⟩ ⟨⟨_, rfl, b57_⟩, rfl⟩
    · refine pw_eqI (if_neg c52_) ?_
      have b59_ : 1 ≤ Int32.toInt (M.1 128 (Int32.toNatClampNeg n3)) ∧ Int32.toInt (M.1 128 (Int32.toNatClampNeg n3)) ≤ 4 := zr_nle_l 1 c52_ b46_ hn2 (by decide)
      have b60_ : 0 ≤ Int32.toInt n2 ∧ Int32.toInt n2 ≤ 3 := zr_nle_r 3 c52_ hn2 b59_ (by decide)
      have d61_ : Int32.toInt (M.1 128 (Int32.toNatClampNeg n3)) > Int32.toInt n2 := Int.not_le.mp ((not_congr (zi_le _ _)).mp c52_)
      obtain ⟨q63_, b62_⟩ : (Int32.toInt ((M.1 128 (Int32.toNatClampNeg n3)) - n2) = Int32.toInt (M.1 128 (Int32.toNatClampNeg n3)) - Int32.toInt n2) ∧ ((-2) ≤ Int32.toInt ((M.1 128 (Int32.toNatClampNeg n3)) - n2) ∧ Int32.toInt ((M.1 128 (Int32.toNatClampNeg n3)) - n2) ≤ 4) := zsub_r (M.1 128 (Int32.toNatClampNeg n3)) n2 (-2) 4 b59_ b60_ (by decide) (by decide) (by decide) (by decide)
      have b64_ : 1 ≤ Int32.toInt ((M.1 128 (Int32.toNatClampNeg n3)) - n2) ∧ Int32.toInt ((M.1 128 (Int32.toNatClampNeg n3)) - n2) ≤ 4 := (by have u0 := b62_; omega)
      show PW 95 d (29, [some (pvR 124), some (pvI n1), some (pvI n2), some (pvI n3)], [pvI ((M.1 128 (Int32.toNatClampNeg n3)) - n2), pvI (x1_ * ((M.1 127 (Int32.toNatClampNeg n3)) - n1))], M) _
      obtain ⟨q66_, b65_⟩ : (Int32.toInt ((x1_ * ((M.1 127 (Int32.toNatClampNeg n3)) - n1)) + ((M.1 128 (Int32.toNatClampNeg n3)) - n2)) = Int32.toInt (x1_ * ((M.1 127 (Int32.toNatClampNeg n3)) - n1)) + Int32.toInt ((M.1 128 (Int32.toNatClampNeg n3)) - n2)) ∧ (1 ≤ Int32.toInt ((x1_ * ((M.1 127 (Int32.toNatClampNeg n3)) - n1)) + ((M.1 128 (Int32.toNatClampNeg n3)) - n2)) ∧ Int32.toInt ((x1_ * ((M.1 127 (Int32.toNatClampNeg n3)) - n1)) + ((M.1 128 (Int32.toNatClampNeg n3)) - n2)) ≤ 301) := zadd_r (x1_ * ((M.1 127 (Int32.toNatClampNeg n3)) - n1)) ((M.1 128 (Int32.toNatClampNeg n3)) - n2) 1 301 b45_ b64_ (by decide) (by decide) (by decide) (by decide)
      refine pw_blk hT 1 (S' := (30, [some (pvR 124), some (pvI n1), some (pvI n2), some (pvI n3)], [pvI ((x1_ * ((M.1 127 (Int32.toNatClampNeg n3)) - n1)) + ((M.1 128 (Int32.toNatClampNeg n3)) - n2))], M)) rfl ⟨trivial, trivial⟩ ?_
      exact pw_ret hT rfl (r := some (pvI ((x1_ * ((M.1 127 (Int32.toNatClampNeg n3)) - n1)) + ((M.1 128 (Int32.toNatClampNeg n3)) - n2)))) (M' := M) ⟨rfl, rfl⟩ ⟨⟨_, rfl, (zr_wide b65_ (by decide) (by decide))⟩, rfl⟩
set_option maxHeartbeats 4000000 in
set_option maxRecDepth 10000 in
theorem sf_X10_shutting_124_x (M : pvM) (hok : pvOk M) (n1 : Int32) (hn1 : 0 ≤ Int32.toInt n1 ∧ Int32.toInt n1 ≤ 6) (d : Nat) : PW 76 d (0, [some (pvR 124), some (pvI n1)], [], M) (fun r X => r = some (pvI ((if (M.1 125 (Int32.toNatClampNeg n1)) = 1 then (2 * (M.1 129 (Int32.toNatClampNeg n1))) else (if (M.1 125 (Int32.toNatClampNeg n1)) = 4 then (2 * (M.1 129 (Int32.toNatClampNeg n1))) else (M.1 129 (Int32.toNatClampNeg n1)))))) ∧ X = M) := by
  have hT : pvdom 76 = pvD_76 := rfl
  have b1_ : 0 ≤ Int32.toInt (M.1 125 (Int32.toNatClampNeg n1)) ∧ Int32.toInt (M.1 125 (Int32.toNatClampNeg n1)) ≤ 6 := pvok_r hok 125 (Int32.toNatClampNeg n1) rfl
  refine pw_blk hT 5 (S' := (7, [some (pvR 124), some (pvI n1)], [pvI 1, pvI (M.1 125 (Int32.toNatClampNeg n1))], M)) rfl ⟨trivial, rfl, trivial, ⟨rfl, (zr_in (n := 7) hn1 (by decide) (by decide))⟩, trivial, trivial⟩ ?_
  refine pw_ic hT (c := (M.1 125 (Int32.toNatClampNeg n1)) = 1) rfl rfl (fun c2_ => ?_) (fun c2_ => ?_)
  · have b3_ : 1 ≤ Int32.toInt (M.1 125 (Int32.toNatClampNeg n1)) ∧ Int32.toInt (M.1 125 (Int32.toNatClampNeg n1)) ≤ 1 := (by have u0 := b1_; have u1 := (zi_eq _ _).mp c2_; have u2 := (show 1 ≤ Int32.toInt 1 ∧ Int32.toInt 1 ≤ 1 from (by decide)); omega)
    have b4_ : 0 ≤ Int32.toInt (M.1 129 (Int32.toNatClampNeg n1)) ∧ Int32.toInt (M.1 129 (Int32.toNatClampNeg n1)) ≤ 9 := pvok_r hok 129 (Int32.toNatClampNeg n1) rfl
    have q5_ : Int32.toInt (2 * (M.1 129 (Int32.toNatClampNeg n1))) = 2 * Int32.toInt (M.1 129 (Int32.toNatClampNeg n1)) := by have u0 : Int32.toInt 2 = 2 := (by decide); have u1 := b4_; have u2 := zmul 2 (M.1 129 (Int32.toNatClampNeg n1)) (by rw [u0]; omega) (by rw [u0]; omega); rw [u0] at u2; omega
    have b6_ : 0 ≤ Int32.toInt (2 * (M.1 129 (Int32.toNatClampNeg n1))) ∧ Int32.toInt (2 * (M.1 129 (Int32.toNatClampNeg n1))) ≤ 18 := (by have u1 := b4_; omega)
    refine pw_blk hT 7 (S' := (37, [some (pvR 124), some (pvI n1)], [pvI (2 * (M.1 129 (Int32.toNatClampNeg n1)))], M)) rfl ⟨trivial, trivial, rfl, trivial, ⟨rfl, (zr_in (n := 7) hn1 (by decide) (by decide))⟩, trivial, trivial, trivial⟩ ?_
    exact pw_ret hT rfl (r := some (pvI (2 * (M.1 129 (Int32.toNatClampNeg n1))))) (M' := M) ⟨rfl, rfl⟩ ⟨(by rw [if_pos c2_]), rfl⟩
  · refine pw_blk hT 5 (S' := (17, [some (pvR 124), some (pvI n1)], [pvI 4, pvI (M.1 125 (Int32.toNatClampNeg n1))], M)) rfl ⟨trivial, rfl, trivial, ⟨rfl, (zr_in (n := 7) hn1 (by decide) (by decide))⟩, trivial, trivial⟩ ?_
    refine pw_icn hT (c := (M.1 125 (Int32.toNatClampNeg n1)) = 4) rfl rfl (fun c7_ => ?_) (fun c7_ => ?_)
    · have b8_ : 0 ≤ Int32.toInt (M.1 129 (Int32.toNatClampNeg n1)) ∧ Int32.toInt (M.1 129 (Int32.toNatClampNeg n1)) ≤ 9 := pvok_r hok 129 (Int32.toNatClampNeg n1) rfl
      refine pw_blk hT 4 (S' := (37, [some (pvR 124), some (pvI n1)], [pvI (M.1 129 (Int32.toNatClampNeg n1))], M)) rfl ⟨trivial, rfl, trivial, ⟨rfl, (zr_in (n := 7) hn1 (by decide) (by decide))⟩, trivial⟩ ?_
      exact pw_ret hT rfl (r := some (pvI (M.1 129 (Int32.toNatClampNeg n1)))) (M' := M) ⟨rfl, rfl⟩ ⟨(by rw [if_neg c2_, if_neg c7_]), rfl⟩
    · have b9_ : 4 ≤ Int32.toInt (M.1 125 (Int32.toNatClampNeg n1)) ∧ Int32.toInt (M.1 125 (Int32.toNatClampNeg n1)) ≤ 4 := (by have u0 := b1_; have u1 := (zi_eq _ _).mp c7_; have u2 := (show 4 ≤ Int32.toInt 4 ∧ Int32.toInt 4 ≤ 4 from (by decide)); omega)
      have b10_ : 0 ≤ Int32.toInt (M.1 129 (Int32.toNatClampNeg n1)) ∧ Int32.toInt (M.1 129 (Int32.toNatClampNeg n1)) ≤ 9 := pvok_r hok 129 (Int32.toNatClampNeg n1) rfl
      have q11_ : Int32.toInt (2 * (M.1 129 (Int32.toNatClampNeg n1))) = 2 * Int32.toInt (M.1 129 (Int32.toNatClampNeg n1)) := by have u0 : Int32.toInt 2 = 2 := (by decide); have u1 := b10_; have u2 := zmul 2 (M.1 129 (Int32.toNatClampNeg n1)) (by rw [u0]; omega) (by rw [u0]; omega); rw [u0] at u2; omega
      have b12_ : 0 ≤ Int32.toInt (2 * (M.1 129 (Int32.toNatClampNeg n1))) ∧ Int32.toInt (2 * (M.1 129 (Int32.toNatClampNeg n1))) ≤ 18 := (by have u1 := b10_; omega)
      refine pw_blk hT 7 (S' := (37, [some (pvR 124), some (pvI n1)], [pvI (2 * (M.1 129 (Int32.toNatClampNeg n1)))], M)) rfl ⟨trivial, trivial, rfl, trivial, ⟨rfl, (zr_in (n := 7) hn1 (by decide) (by decide))⟩, trivial, trivial, trivial⟩ ?_
      exact pw_ret hT rfl (r := some (pvI (2 * (M.1 129 (Int32.toNatClampNeg n1))))) (M' := M) ⟨rfl, rfl⟩ ⟨(by rw [if_neg c2_, if_pos c7_]), rfl⟩
def fpL_X10_goes_124_x_x_x : List (Nat × Nat × Nat) := [(0, 143, 0)]
def fp_X10_goes_124_x_x_x (q k : Nat) : Bool := pvfp fpL_X10_goes_124_x_x_x q k
set_option maxHeartbeats 4000000 in
set_option maxRecDepth 10000 in
theorem sf_X10_goes_124_x_x_x (M : pvM) (hok : pvOk M) (n1 : Int32) (n2 : Int32) (n3 : Int32) (hn1 : 0 ≤ Int32.toInt n1 ∧ Int32.toInt n1 ≤ 7) (hn2 : 0 ≤ Int32.toInt n2 ∧ Int32.toInt n2 ≤ 7) (hn3 : 0 ≤ Int32.toInt n3 ∧ Int32.toInt n3 ≤ 60000) (d : Nat) : PW 24 d (0, [some (pvR 124), some (pvI n1), some (pvI n2), some (pvI n3), none, none, none, none, none], [], M) (fun r X => (∃ x : Int32, r = some (pvI x) ∧ 0 ≤ Int32.toInt x ∧ Int32.toInt x ≤ 64000) ∧ pvOk X ∧ pvFr fp_X10_goes_124_x_x_x M X) := by
  have hT : pvdom 24 = pvD_24 := rfl
  have b1_ : 0 ≤ Int32.toInt (M.1 124 5) ∧ Int32.toInt (M.1 124 5) ≤ 3 := pvok_r hok 124 5 rfl
  have b2_ : 0 ≤ Int32.toInt (M.1 124 6) ∧ Int32.toInt (M.1 124 6) ≤ 4 := pvok_r hok 124 6 rfl
  refine pw_blk hT 10 (S' := (18, [some (pvR 124), some (pvI n1), some (pvI n2), some (pvI n3), some (pvI n3), some (pvI (M.1 124 5)), some (pvI (M.1 124 6)), some (pvI n1), none], [], M)) rfl ⟨trivial, trivial, trivial, rfl, trivial, trivial, rfl, trivial, trivial, trivial, trivial⟩ ?_
  have hlz281_ : ∀ (nz281_ : Nat) (i4z281_ : Int32) (i5z281_ : Int32) (i6z281_ : Int32) (i7z281_ : Int32) (v8z281_ : Option pvV) (Mz281_ : pvM), (pvOk Mz281_) → (pvFr fp_X10_goes_124_x_x_x M Mz281_) → (0 ≤ Int32.toInt i4z281_ ∧ Int32.toInt i4z281_ ≤ 64000) → (0 ≤ Int32.toInt i5z281_ ∧ Int32.toInt i5z281_ ≤ 3) → (0 ≤ Int32.toInt i6z281_ ∧ Int32.toInt i6z281_ ≤ 4) → (0 ≤ Int32.toInt i7z281_ ∧ Int32.toInt i7z281_ ≤ 7) → (Int32.toInt i4z281_ ≤ 60000 + 320 * Int32.toInt i7z281_) → (0 ≤ Int32.toInt i4z281_) → (zhide ((8 - Int32.toInt i7z281_).toNat < nz281_)) → PW 24 d (18, [some (pvR 124), some (pvI n1), some (pvI n2), some (pvI n3), some (pvI i4z281_), some (pvI i5z281_), some (pvI i6z281_), some (pvI i7z281_), v8z281_], [], Mz281_) (fun r X => (∃ x : Int32, r = some (pvI x) ∧ 0 ≤ Int32.toInt x ∧ Int32.toInt x ≤ 64000) ∧ pvOk X ∧ pvFr fp_X10_goes_124_x_x_x M X) := by
    intro nz281_
    induction nz281_ with
    | zero => intro i4z281_ i5z281_ i6z281_ i7z281_ v8z281_ Mz281_ oz281_ fz281_ h4z281_ h5z281_ h6z281_ h7z281_ j0z281_ j1z281_ hmz281_; exact absurd (zshow hmz281_) (Nat.not_lt_zero _)
    | succ nz281_ ihz281_ =>
      intro i4z281_ i5z281_ i6z281_ i7z281_ v8z281_ Mz281_ oz281_ fz281_ h4z281_ h5z281_ h6z281_ h7z281_ j0z281_ j1z281_ hmz281_
      refine pw_blk hT 2 (S' := (21, [some (pvR 124), some (pvI n1), some (pvI n2), some (pvI n3), some (pvI i4z281_), some (pvI i5z281_), some (pvI i6z281_), some (pvI i7z281_), v8z281_], [pvI n2, pvI i7z281_], Mz281_)) rfl ⟨trivial, trivial, trivial⟩ ?_
      refine pw_ic hT (c := n2 ≤ i7z281_) rfl rfl (fun c282_ => ?_) (fun c282_ => ?_)
      · have d283_ : Int32.toInt n2 ≤ Int32.toInt i7z281_ := (zi_le _ _).mp c282_
        refine pw_blk hT 1 (S' := (103, [some (pvR 124), some (pvI n1), some (pvI n2), some (pvI n3), some (pvI i4z281_), some (pvI i5z281_), some (pvI i6z281_), some (pvI i7z281_), v8z281_], [pvI i4z281_], Mz281_)) rfl ⟨trivial, trivial⟩ ?_
        exact pw_ret hT rfl (r := some (pvI i4z281_)) (M' := Mz281_) ⟨rfl, rfl⟩ ⟨⟨_, rfl, h4z281_⟩, oz281_, fz281_⟩
      · have b284_ : 1 ≤ Int32.toInt n2 ∧ Int32.toInt n2 ≤ 7 := zr_nle_l 1 c282_ hn2 h7z281_ (by decide)
        have b285_ : 0 ≤ Int32.toInt i7z281_ ∧ Int32.toInt i7z281_ ≤ 6 := zr_nle_r 6 c282_ h7z281_ b284_ (by decide)
        have d286_ : Int32.toInt n2 > Int32.toInt i7z281_ := Int.not_le.mp ((not_congr (zi_le _ _)).mp c282_)
        have b287_ : 0 ≤ Int32.toInt (Mz281_.1 144 (Int32.toNatClampNeg i7z281_)) ∧ Int32.toInt (Mz281_.1 144 (Int32.toNatClampNeg i7z281_)) ≤ 6 := pvok_r oz281_ 144 (Int32.toNatClampNeg i7z281_) rfl
        have b288_ : 0 ≤ Int32.toInt (Mz281_.1 131 (Int32.toNatClampNeg (Mz281_.1 144 (Int32.toNatClampNeg i7z281_)))) ∧ Int32.toInt (Mz281_.1 131 (Int32.toNatClampNeg (Mz281_.1 144 (Int32.toNatClampNeg i7z281_)))) ≤ 1 := pvok_r oz281_ 131 (Int32.toNatClampNeg (Mz281_.1 144 (Int32.toNatClampNeg i7z281_))) rfl
        refine pw_blk hT 9 (S' := (40, [some (pvR 124), some (pvI n1), some (pvI n2), some (pvI n3), some (pvI i4z281_), some (pvI i5z281_), some (pvI i6z281_), some (pvI i7z281_), some (pvI (Mz281_.1 144 (Int32.toNatClampNeg i7z281_)))], [pvI (Mz281_.1 131 (Int32.toNatClampNeg (Mz281_.1 144 (Int32.toNatClampNeg i7z281_))))], Mz281_)) rfl ⟨trivial, rfl, trivial, ⟨rfl, (zr_in (n := 7) b285_ (by decide) (by decide))⟩, trivial, trivial, rfl, trivial, ⟨rfl, (zr_in (n := 7) b287_ (by decide) (by decide))⟩, trivial⟩ ?_
        refine pw_if hT (c := (Mz281_.1 131 (Int32.toNatClampNeg (Mz281_.1 144 (Int32.toNatClampNeg i7z281_)))) = 0) rfl rfl (fun c289_ => ?_) (fun c289_ => ?_)
        · have b290_ : 0 ≤ Int32.toInt (Mz281_.1 131 (Int32.toNatClampNeg (Mz281_.1 144 (Int32.toNatClampNeg i7z281_)))) ∧ Int32.toInt (Mz281_.1 131 (Int32.toNatClampNeg (Mz281_.1 144 (Int32.toNatClampNeg i7z281_)))) ≤ 0 := (by have u0 := b288_; have u1 := (zi_eq _ _).mp c289_; have u2 := (show 0 ≤ Int32.toInt 0 ∧ Int32.toInt 0 ≤ 0 from (by decide)); omega)
          refine pw_blk hT 5 (S' := (55, [some (pvR 124), some (pvI n1), some (pvI n2), some (pvI n3), some (pvI i4z281_), some (pvI i5z281_), some (pvI i6z281_), some (pvI i7z281_), some (pvI (Mz281_.1 144 (Int32.toNatClampNeg i7z281_)))], [pvI (Mz281_.1 144 (Int32.toNatClampNeg i7z281_)), pvI i6z281_, pvI i5z281_, pvR 124, pvI i4z281_], Mz281_)) rfl ⟨trivial, trivial, trivial, trivial, trivial, trivial⟩ ?_
          refine pw_callGp hT (as := [pvR 124, pvI i5z281_, pvI i6z281_, pvI (Mz281_.1 144 (Int32.toNatClampNeg i7z281_))]) (lo1 := [some (pvR 124), some (pvI i5z281_), some (pvI i6z281_), some (pvI (Mz281_.1 144 (Int32.toNatClampNeg i7z281_)))]) (d1 := d) (rest := [pvI i4z281_]) rfl rfl rfl rfl rfl (fun _ => rfl) (Nat.zero_le _) rfl rfl rfl (sf_X10_way_124_x_x_x Mz281_ oz281_ i5z281_ i6z281_ (Mz281_.1 144 (Int32.toNatClampNeg i7z281_)) h5z281_ h6z281_ b287_ d) (fun x291_ b293_ => ?_)
          refine pw_blk hT 2 (S' := (61, [some (pvR 124), some (pvI n1), some (pvI n2), some (pvI n3), some (pvI i4z281_), some (pvI i5z281_), some (pvI i6z281_), some (pvI i7z281_), some (pvI (Mz281_.1 144 (Int32.toNatClampNeg i7z281_)))], [pvI (Mz281_.1 144 (Int32.toNatClampNeg i7z281_)), pvR 124, pvI x291_, pvI i4z281_], Mz281_)) rfl ⟨trivial, trivial, trivial⟩ ?_
          refine pw_callT hT (as := [pvR 124, pvI (Mz281_.1 144 (Int32.toNatClampNeg i7z281_))]) (lo1 := [some (pvR 124), some (pvI (Mz281_.1 144 (Int32.toNatClampNeg i7z281_)))]) (d1 := d) (rest := [pvI x291_, pvI i4z281_]) rfl rfl rfl rfl rfl (fun _ => rfl) (Nat.zero_le _) rfl rfl rfl (sf_X10_shutting_124_x Mz281_ oz281_ (Mz281_.1 144 (Int32.toNatClampNeg i7z281_)) b287_ d) ?_
          have b301_ : 0 ≤ Int32.toInt (Mz281_.1 125 (Int32.toNatClampNeg (Mz281_.1 144 (Int32.toNatClampNeg i7z281_)))) ∧ Int32.toInt (Mz281_.1 125 (Int32.toNatClampNeg (Mz281_.1 144 (Int32.toNatClampNeg i7z281_)))) ≤ 6 := pvok_r oz281_ 125 (Int32.toNatClampNeg (Mz281_.1 144 (Int32.toNatClampNeg i7z281_))) rfl
          by_cases c302_ : (Mz281_.1 125 (Int32.toNatClampNeg (Mz281_.1 144 (Int32.toNatClampNeg i7z281_)))) = 1
          · refine pw_eqI (if_pos c302_) ?_
            have b303_ : 1 ≤ Int32.toInt (Mz281_.1 125 (Int32.toNatClampNeg (Mz281_.1 144 (Int32.toNatClampNeg i7z281_)))) ∧ Int32.toInt (Mz281_.1 125 (Int32.toNatClampNeg (Mz281_.1 144 (Int32.toNatClampNeg i7z281_)))) ≤ 1 := (by have u0 := b301_; have u1 := (zi_eq _ _).mp c302_; have u2 := (show 1 ≤ Int32.toInt 1 ∧ Int32.toInt 1 ≤ 1 from (by decide)); omega)
            have b304_ : 0 ≤ Int32.toInt (Mz281_.1 129 (Int32.toNatClampNeg (Mz281_.1 144 (Int32.toNatClampNeg i7z281_)))) ∧ Int32.toInt (Mz281_.1 129 (Int32.toNatClampNeg (Mz281_.1 144 (Int32.toNatClampNeg i7z281_)))) ≤ 9 := pvok_r oz281_ 129 (Int32.toNatClampNeg (Mz281_.1 144 (Int32.toNatClampNeg i7z281_))) rfl
            have q305_ : Int32.toInt (2 * (Mz281_.1 129 (Int32.toNatClampNeg (Mz281_.1 144 (Int32.toNatClampNeg i7z281_))))) = 2 * Int32.toInt (Mz281_.1 129 (Int32.toNatClampNeg (Mz281_.1 144 (Int32.toNatClampNeg i7z281_)))) := by have u0 : Int32.toInt 2 = 2 := (by decide); have u1 := b304_; have u2 := zmul 2 (Mz281_.1 129 (Int32.toNatClampNeg (Mz281_.1 144 (Int32.toNatClampNeg i7z281_)))) (by rw [u0]; omega) (by rw [u0]; omega); rw [u0] at u2; omega
            have b306_ : 0 ≤ Int32.toInt (2 * (Mz281_.1 129 (Int32.toNatClampNeg (Mz281_.1 144 (Int32.toNatClampNeg i7z281_))))) ∧ Int32.toInt (2 * (Mz281_.1 129 (Int32.toNatClampNeg (Mz281_.1 144 (Int32.toNatClampNeg i7z281_))))) ≤ 18 := (by have u1 := b304_; omega)
            show PW 24 d (64, [some (pvR 124), some (pvI n1), some (pvI n2), some (pvI n3), some (pvI i4z281_), some (pvI i5z281_), some (pvI i6z281_), some (pvI i7z281_), some (pvI (Mz281_.1 144 (Int32.toNatClampNeg i7z281_)))], [pvI (2 * (Mz281_.1 129 (Int32.toNatClampNeg (Mz281_.1 144 (Int32.toNatClampNeg i7z281_))))), pvI x291_, pvI i4z281_], Mz281_) _
            obtain ⟨q308_, b307_⟩ : (Int32.toInt (x291_ + (2 * (Mz281_.1 129 (Int32.toNatClampNeg (Mz281_.1 144 (Int32.toNatClampNeg i7z281_)))))) = Int32.toInt x291_ + Int32.toInt (2 * (Mz281_.1 129 (Int32.toNatClampNeg (Mz281_.1 144 (Int32.toNatClampNeg i7z281_)))))) ∧ (0 ≤ Int32.toInt (x291_ + (2 * (Mz281_.1 129 (Int32.toNatClampNeg (Mz281_.1 144 (Int32.toNatClampNeg i7z281_)))))) ∧ Int32.toInt (x291_ + (2 * (Mz281_.1 129 (Int32.toNatClampNeg (Mz281_.1 144 (Int32.toNatClampNeg i7z281_)))))) ≤ 319) := zadd_r x291_ (2 * (Mz281_.1 129 (Int32.toNatClampNeg (Mz281_.1 144 (Int32.toNatClampNeg i7z281_))))) 0 319 b293_ b306_ (by decide) (by decide) (by decide) (by decide)
            obtain ⟨q310_, b309_⟩ : (Int32.toInt (i4z281_ + (x291_ + (2 * (Mz281_.1 129 (Int32.toNatClampNeg (Mz281_.1 144 (Int32.toNatClampNeg i7z281_))))))) = Int32.toInt i4z281_ + Int32.toInt (x291_ + (2 * (Mz281_.1 129 (Int32.toNatClampNeg (Mz281_.1 144 (Int32.toNatClampNeg i7z281_))))))) ∧ (0 ≤ Int32.toInt (i4z281_ + (x291_ + (2 * (Mz281_.1 129 (Int32.toNatClampNeg (Mz281_.1 144 (Int32.toNatClampNeg i7z281_))))))) ∧ Int32.toInt (i4z281_ + (x291_ + (2 * (Mz281_.1 129 (Int32.toNatClampNeg (Mz281_.1 144 (Int32.toNatClampNeg i7z281_))))))) ≤ 64319) := zadd_r i4z281_ (x291_ + (2 * (Mz281_.1 129 (Int32.toNatClampNeg (Mz281_.1 144 (Int32.toNatClampNeg i7z281_)))))) 0 64319 h4z281_ b307_ (by decide) (by decide) (by decide) (by decide)
            refine pw_blkw hT 8 (pc := 77) (lo := [some (pvR 124), some (pvI n1), some (pvI n2), some (pvI n3), some (pvI (i4z281_ + (x291_ + (2 * (Mz281_.1 129 (Int32.toNatClampNeg (Mz281_.1 144 (Int32.toNatClampNeg i7z281_)))))))), some (pvI i5z281_), some (pvI i6z281_), some (pvI i7z281_), some (pvI (Mz281_.1 144 (Int32.toNatClampNeg i7z281_)))]) (st := []) (M := pvu Mz281_ 143 (Int32.toNatClampNeg (Mz281_.1 144 (Int32.toNatClampNeg i7z281_))) (i4z281_ + (x291_ + (2 * (Mz281_.1 129 (Int32.toNatClampNeg (Mz281_.1 144 (Int32.toNatClampNeg i7z281_)))))))) rfl ⟨trivial, trivial, trivial, trivial, rfl, trivial, trivial, ⟨rfl, (zr_in (n := 7) b287_ (by decide) (by decide))⟩, trivial⟩ (fun M311_ e312_ => ?_)
            have o313_ : pvOk M311_ := pvok_u2 e312_ oz281_ rfl (zr_wide b309_ (by decide) (by decide))
            have f314_ : pvFr fp_X10_goes_124_x_x_x M M311_ := pvfr_u e312_ fz281_ rfl
            have b315_ : 0 ≤ Int32.toInt (M311_.1 127 (Int32.toNatClampNeg (Mz281_.1 144 (Int32.toNatClampNeg i7z281_)))) ∧ Int32.toInt (M311_.1 127 (Int32.toNatClampNeg (Mz281_.1 144 (Int32.toNatClampNeg i7z281_)))) ≤ 3 := pvok_r o313_ 127 (Int32.toNatClampNeg (Mz281_.1 144 (Int32.toNatClampNeg i7z281_))) rfl
            have b316_ : 0 ≤ Int32.toInt (M311_.1 128 (Int32.toNatClampNeg (Mz281_.1 144 (Int32.toNatClampNeg i7z281_)))) ∧ Int32.toInt (M311_.1 128 (Int32.toNatClampNeg (Mz281_.1 144 (Int32.toNatClampNeg i7z281_)))) ≤ 4 := pvok_r o313_ 128 (Int32.toNatClampNeg (Mz281_.1 144 (Int32.toNatClampNeg i7z281_))) rfl
            obtain ⟨q318_, b317_⟩ : (Int32.toInt (i7z281_ + 1) = Int32.toInt i7z281_ + 1) ∧ (1 ≤ Int32.toInt (i7z281_ + 1) ∧ Int32.toInt (i7z281_ + 1) ≤ 7) := zadd_k i7z281_ 1 1 1 7 b285_ (by decide) (by decide) (by decide) (by decide) (by decide)
            refine pw_blk hT 12 (S' := (18, [some (pvR 124), some (pvI n1), some (pvI n2), some (pvI n3), some (pvI (i4z281_ + (x291_ + (2 * (Mz281_.1 129 (Int32.toNatClampNeg (Mz281_.1 144 (Int32.toNatClampNeg i7z281_)))))))), some (pvI (M311_.1 127 (Int32.toNatClampNeg (Mz281_.1 144 (Int32.toNatClampNeg i7z281_))))), some (pvI (M311_.1 128 (Int32.toNatClampNeg (Mz281_.1 144 (Int32.toNatClampNeg i7z281_))))), some (pvI (i7z281_ + 1)), some (pvI (Mz281_.1 144 (Int32.toNatClampNeg i7z281_)))], [], M311_)) rfl ⟨trivial, rfl, trivial, ⟨rfl, (zr_in (n := 7) b287_ (by decide) (by decide))⟩, trivial, trivial, rfl, trivial, ⟨rfl, (zr_in (n := 7) b287_ (by decide) (by decide))⟩, trivial, trivial, trivial, trivial⟩ ?_
            have j319_ : Int32.toInt (i4z281_ + (x291_ + (2 * (Mz281_.1 129 (Int32.toNatClampNeg (Mz281_.1 144 (Int32.toNatClampNeg i7z281_))))))) ≤ 60000 + 320 * Int32.toInt (i7z281_ + 1) := by omega
            have j320_ : 0 ≤ Int32.toInt (i4z281_ + (x291_ + (2 * (Mz281_.1 129 (Int32.toNatClampNeg (Mz281_.1 144 (Int32.toNatClampNeg i7z281_))))))) := by omega
            exact ihz281_ (i4z281_ + (x291_ + (2 * (Mz281_.1 129 (Int32.toNatClampNeg (Mz281_.1 144 (Int32.toNatClampNeg i7z281_))))))) (M311_.1 127 (Int32.toNatClampNeg (Mz281_.1 144 (Int32.toNatClampNeg i7z281_)))) (M311_.1 128 (Int32.toNatClampNeg (Mz281_.1 144 (Int32.toNatClampNeg i7z281_)))) (i7z281_ + 1) (some (pvI (Mz281_.1 144 (Int32.toNatClampNeg i7z281_)))) M311_ o313_ f314_ (by have u0 := b309_; omega) b315_ b316_ (zr_wide b317_ (by decide) (by decide)) j319_ j320_ (zhid (pvms_up (zshow hmz281_) h7z281_ q318_ (by decide) (by decide)))
          · refine pw_eqI (if_neg c302_) ?_
            by_cases c321_ : (Mz281_.1 125 (Int32.toNatClampNeg (Mz281_.1 144 (Int32.toNatClampNeg i7z281_)))) = 4
            · refine pw_eqI (if_pos c321_) ?_
              have b322_ : 4 ≤ Int32.toInt (Mz281_.1 125 (Int32.toNatClampNeg (Mz281_.1 144 (Int32.toNatClampNeg i7z281_)))) ∧ Int32.toInt (Mz281_.1 125 (Int32.toNatClampNeg (Mz281_.1 144 (Int32.toNatClampNeg i7z281_)))) ≤ 4 := (by have u0 := b301_; have u1 := (zi_eq _ _).mp c321_; have u2 := (show 4 ≤ Int32.toInt 4 ∧ Int32.toInt 4 ≤ 4 from (by decide)); omega)
              have b323_ : 0 ≤ Int32.toInt (Mz281_.1 129 (Int32.toNatClampNeg (Mz281_.1 144 (Int32.toNatClampNeg i7z281_)))) ∧ Int32.toInt (Mz281_.1 129 (Int32.toNatClampNeg (Mz281_.1 144 (Int32.toNatClampNeg i7z281_)))) ≤ 9 := pvok_r oz281_ 129 (Int32.toNatClampNeg (Mz281_.1 144 (Int32.toNatClampNeg i7z281_))) rfl
              have q324_ : Int32.toInt (2 * (Mz281_.1 129 (Int32.toNatClampNeg (Mz281_.1 144 (Int32.toNatClampNeg i7z281_))))) = 2 * Int32.toInt (Mz281_.1 129 (Int32.toNatClampNeg (Mz281_.1 144 (Int32.toNatClampNeg i7z281_)))) := by have u0 : Int32.toInt 2 = 2 := (by decide); have u1 := b323_; have u2 := zmul 2 (Mz281_.1 129 (Int32.toNatClampNeg (Mz281_.1 144 (Int32.toNatClampNeg i7z281_)))) (by rw [u0]; omega) (by rw [u0]; omega); rw [u0] at u2; omega
              have b325_ : 0 ≤ Int32.toInt (2 * (Mz281_.1 129 (Int32.toNatClampNeg (Mz281_.1 144 (Int32.toNatClampNeg i7z281_))))) ∧ Int32.toInt (2 * (Mz281_.1 129 (Int32.toNatClampNeg (Mz281_.1 144 (Int32.toNatClampNeg i7z281_))))) ≤ 18 := (by have u1 := b323_; omega)
              show PW 24 d (64, [some (pvR 124), some (pvI n1), some (pvI n2), some (pvI n3), some (pvI i4z281_), some (pvI i5z281_), some (pvI i6z281_), some (pvI i7z281_), some (pvI (Mz281_.1 144 (Int32.toNatClampNeg i7z281_)))], [pvI (2 * (Mz281_.1 129 (Int32.toNatClampNeg (Mz281_.1 144 (Int32.toNatClampNeg i7z281_))))), pvI x291_, pvI i4z281_], Mz281_) _
              obtain ⟨q327_, b326_⟩ : (Int32.toInt (x291_ + (2 * (Mz281_.1 129 (Int32.toNatClampNeg (Mz281_.1 144 (Int32.toNatClampNeg i7z281_)))))) = Int32.toInt x291_ + Int32.toInt (2 * (Mz281_.1 129 (Int32.toNatClampNeg (Mz281_.1 144 (Int32.toNatClampNeg i7z281_)))))) ∧ (0 ≤ Int32.toInt (x291_ + (2 * (Mz281_.1 129 (Int32.toNatClampNeg (Mz281_.1 144 (Int32.toNatClampNeg i7z281_)))))) ∧ Int32.toInt (x291_ + (2 * (Mz281_.1 129 (Int32.toNatClampNeg (Mz281_.1 144 (Int32.toNatClampNeg i7z281_)))))) ≤ 319) := zadd_r x291_ (2 * (Mz281_.1 129 (Int32.toNatClampNeg (Mz281_.1 144 (Int32.toNatClampNeg i7z281_))))) 0 319 b293_ b325_ (by decide) (by decide) (by decide) (by decide)
              obtain ⟨q329_, b328_⟩ : (Int32.toInt (i4z281_ + (x291_ + (2 * (Mz281_.1 129 (Int32.toNatClampNeg (Mz281_.1 144 (Int32.toNatClampNeg i7z281_))))))) = Int32.toInt i4z281_ + Int32.toInt (x291_ + (2 * (Mz281_.1 129 (Int32.toNatClampNeg (Mz281_.1 144 (Int32.toNatClampNeg i7z281_))))))) ∧ (0 ≤ Int32.toInt (i4z281_ + (x291_ + (2 * (Mz281_.1 129 (Int32.toNatClampNeg (Mz281_.1 144 (Int32.toNatClampNeg i7z281_))))))) ∧ Int32.toInt (i4z281_ + (x291_ + (2 * (Mz281_.1 129 (Int32.toNatClampNeg (Mz281_.1 144 (Int32.toNatClampNeg i7z281_))))))) ≤ 64319) := zadd_r i4z281_ (x291_ + (2 * (Mz281_.1 129 (Int32.toNatClampNeg (Mz281_.1 144 (Int32.toNatClampNeg i7z281_)))))) 0 64319 h4z281_ b326_ (by decide) (by decide) (by decide) (by decide)
              refine pw_blkw hT 8 (pc := 77) (lo := [some (pvR 124), some (pvI n1), some (pvI n2), some (pvI n3), some (pvI (i4z281_ + (x291_ + (2 * (Mz281_.1 129 (Int32.toNatClampNeg (Mz281_.1 144 (Int32.toNatClampNeg i7z281_)))))))), some (pvI i5z281_), some (pvI i6z281_), some (pvI i7z281_), some (pvI (Mz281_.1 144 (Int32.toNatClampNeg i7z281_)))]) (st := []) (M := pvu Mz281_ 143 (Int32.toNatClampNeg (Mz281_.1 144 (Int32.toNatClampNeg i7z281_))) (i4z281_ + (x291_ + (2 * (Mz281_.1 129 (Int32.toNatClampNeg (Mz281_.1 144 (Int32.toNatClampNeg i7z281_)))))))) rfl ⟨trivial, trivial, trivial, trivial, rfl, trivial, trivial, ⟨rfl, (zr_in (n := 7) b287_ (by decide) (by decide))⟩, trivial⟩ (fun M330_ e331_ => ?_)
              have o332_ : pvOk M330_ := pvok_u2 e331_ oz281_ rfl (zr_wide b328_ (by decide) (by decide))
              have f333_ : pvFr fp_X10_goes_124_x_x_x M M330_ := pvfr_u e331_ fz281_ rfl
              have b334_ : 0 ≤ Int32.toInt (M330_.1 127 (Int32.toNatClampNeg (Mz281_.1 144 (Int32.toNatClampNeg i7z281_)))) ∧ Int32.toInt (M330_.1 127 (Int32.toNatClampNeg (Mz281_.1 144 (Int32.toNatClampNeg i7z281_)))) ≤ 3 := pvok_r o332_ 127 (Int32.toNatClampNeg (Mz281_.1 144 (Int32.toNatClampNeg i7z281_))) rfl
              have b335_ : 0 ≤ Int32.toInt (M330_.1 128 (Int32.toNatClampNeg (Mz281_.1 144 (Int32.toNatClampNeg i7z281_)))) ∧ Int32.toInt (M330_.1 128 (Int32.toNatClampNeg (Mz281_.1 144 (Int32.toNatClampNeg i7z281_)))) ≤ 4 := pvok_r o332_ 128 (Int32.toNatClampNeg (Mz281_.1 144 (Int32.toNatClampNeg i7z281_))) rfl
              obtain ⟨q337_, b336_⟩ : (Int32.toInt (i7z281_ + 1) = Int32.toInt i7z281_ + 1) ∧ (1 ≤ Int32.toInt (i7z281_ + 1) ∧ Int32.toInt (i7z281_ + 1) ≤ 7) := zadd_k i7z281_ 1 1 1 7 b285_ (by decide) (by decide) (by decide) (by decide) (by decide)
              refine pw_blk hT 12 (S' := (18, [some (pvR 124), some (pvI n1), some (pvI n2), some (pvI n3), some (pvI (i4z281_ + (x291_ + (2 * (Mz281_.1 129 (Int32.toNatClampNeg (Mz281_.1 144 (Int32.toNatClampNeg i7z281_)))))))), some (pvI (M330_.1 127 (Int32.toNatClampNeg (Mz281_.1 144 (Int32.toNatClampNeg i7z281_))))), some (pvI (M330_.1 128 (Int32.toNatClampNeg (Mz281_.1 144 (Int32.toNatClampNeg i7z281_))))), some (pvI (i7z281_ + 1)), some (pvI (Mz281_.1 144 (Int32.toNatClampNeg i7z281_)))], [], M330_)) rfl ⟨trivial, rfl, trivial, ⟨rfl, (zr_in (n := 7) b287_ (by decide) (by decide))⟩, trivial, trivial, rfl, trivial, ⟨rfl, (zr_in (n := 7) b287_ (by decide) (by decide))⟩, trivial, trivial, trivial, trivial⟩ ?_
              have j338_ : Int32.toInt (i4z281_ + (x291_ + (2 * (Mz281_.1 129 (Int32.toNatClampNeg (Mz281_.1 144 (Int32.toNatClampNeg i7z281_))))))) ≤ 60000 + 320 * Int32.toInt (i7z281_ + 1) := by omega
              have j339_ : 0 ≤ Int32.toInt (i4z281_ + (x291_ + (2 * (Mz281_.1 129 (Int32.toNatClampNeg (Mz281_.1 144 (Int32.toNatClampNeg i7z281_))))))) := by omega
              exact ihz281_ (i4z281_ + (x291_ + (2 * (Mz281_.1 129 (Int32.toNatClampNeg (Mz281_.1 144 (Int32.toNatClampNeg i7z281_))))))) (M330_.1 127 (Int32.toNatClampNeg (Mz281_.1 144 (Int32.toNatClampNeg i7z281_)))) (M330_.1 128 (Int32.toNatClampNeg (Mz281_.1 144 (Int32.toNatClampNeg i7z281_)))) (i7z281_ + 1) (some (pvI (Mz281_.1 144 (Int32.toNatClampNeg i7z281_)))) M330_ o332_ f333_ (by have u0 := b328_; omega) b334_ b335_ (zr_wide b336_ (by decide) (by decide)) j338_ j339_ (zhid (pvms_up (zshow hmz281_) h7z281_ q337_ (by decide) (by decide)))
            · refine pw_eqI (if_neg c321_) ?_
              have b340_ : 0 ≤ Int32.toInt (Mz281_.1 129 (Int32.toNatClampNeg (Mz281_.1 144 (Int32.toNatClampNeg i7z281_)))) ∧ Int32.toInt (Mz281_.1 129 (Int32.toNatClampNeg (Mz281_.1 144 (Int32.toNatClampNeg i7z281_)))) ≤ 9 := pvok_r oz281_ 129 (Int32.toNatClampNeg (Mz281_.1 144 (Int32.toNatClampNeg i7z281_))) rfl
              show PW 24 d (64, [some (pvR 124), some (pvI n1), some (pvI n2), some (pvI n3), some (pvI i4z281_), some (pvI i5z281_), some (pvI i6z281_), some (pvI i7z281_), some (pvI (Mz281_.1 144 (Int32.toNatClampNeg i7z281_)))], [pvI (Mz281_.1 129 (Int32.toNatClampNeg (Mz281_.1 144 (Int32.toNatClampNeg i7z281_)))), pvI x291_, pvI i4z281_], Mz281_) _
              obtain ⟨q342_, b341_⟩ : (Int32.toInt (x291_ + (Mz281_.1 129 (Int32.toNatClampNeg (Mz281_.1 144 (Int32.toNatClampNeg i7z281_))))) = Int32.toInt x291_ + Int32.toInt (Mz281_.1 129 (Int32.toNatClampNeg (Mz281_.1 144 (Int32.toNatClampNeg i7z281_))))) ∧ (0 ≤ Int32.toInt (x291_ + (Mz281_.1 129 (Int32.toNatClampNeg (Mz281_.1 144 (Int32.toNatClampNeg i7z281_))))) ∧ Int32.toInt (x291_ + (Mz281_.1 129 (Int32.toNatClampNeg (Mz281_.1 144 (Int32.toNatClampNeg i7z281_))))) ≤ 310) := zadd_r x291_ (Mz281_.1 129 (Int32.toNatClampNeg (Mz281_.1 144 (Int32.toNatClampNeg i7z281_)))) 0 310 b293_ b340_ (by decide) (by decide) (by decide) (by decide)
              obtain ⟨q344_, b343_⟩ : (Int32.toInt (i4z281_ + (x291_ + (Mz281_.1 129 (Int32.toNatClampNeg (Mz281_.1 144 (Int32.toNatClampNeg i7z281_)))))) = Int32.toInt i4z281_ + Int32.toInt (x291_ + (Mz281_.1 129 (Int32.toNatClampNeg (Mz281_.1 144 (Int32.toNatClampNeg i7z281_)))))) ∧ (0 ≤ Int32.toInt (i4z281_ + (x291_ + (Mz281_.1 129 (Int32.toNatClampNeg (Mz281_.1 144 (Int32.toNatClampNeg i7z281_)))))) ∧ Int32.toInt (i4z281_ + (x291_ + (Mz281_.1 129 (Int32.toNatClampNeg (Mz281_.1 144 (Int32.toNatClampNeg i7z281_)))))) ≤ 64310) := zadd_r i4z281_ (x291_ + (Mz281_.1 129 (Int32.toNatClampNeg (Mz281_.1 144 (Int32.toNatClampNeg i7z281_))))) 0 64310 h4z281_ b341_ (by decide) (by decide) (by decide) (by decide)
              refine pw_blkw hT 8 (pc := 77) (lo := [some (pvR 124), some (pvI n1), some (pvI n2), some (pvI n3), some (pvI (i4z281_ + (x291_ + (Mz281_.1 129 (Int32.toNatClampNeg (Mz281_.1 144 (Int32.toNatClampNeg i7z281_))))))), some (pvI i5z281_), some (pvI i6z281_), some (pvI i7z281_), some (pvI (Mz281_.1 144 (Int32.toNatClampNeg i7z281_)))]) (st := []) (M := pvu Mz281_ 143 (Int32.toNatClampNeg (Mz281_.1 144 (Int32.toNatClampNeg i7z281_))) (i4z281_ + (x291_ + (Mz281_.1 129 (Int32.toNatClampNeg (Mz281_.1 144 (Int32.toNatClampNeg i7z281_))))))) rfl ⟨trivial, trivial, trivial, trivial, rfl, trivial, trivial, ⟨rfl, (zr_in (n := 7) b287_ (by decide) (by decide))⟩, trivial⟩ (fun M345_ e346_ => ?_)
              have o347_ : pvOk M345_ := pvok_u2 e346_ oz281_ rfl (zr_wide b343_ (by decide) (by decide))
              have f348_ : pvFr fp_X10_goes_124_x_x_x M M345_ := pvfr_u e346_ fz281_ rfl
              have b349_ : 0 ≤ Int32.toInt (M345_.1 127 (Int32.toNatClampNeg (Mz281_.1 144 (Int32.toNatClampNeg i7z281_)))) ∧ Int32.toInt (M345_.1 127 (Int32.toNatClampNeg (Mz281_.1 144 (Int32.toNatClampNeg i7z281_)))) ≤ 3 := pvok_r o347_ 127 (Int32.toNatClampNeg (Mz281_.1 144 (Int32.toNatClampNeg i7z281_))) rfl
              have b350_ : 0 ≤ Int32.toInt (M345_.1 128 (Int32.toNatClampNeg (Mz281_.1 144 (Int32.toNatClampNeg i7z281_)))) ∧ Int32.toInt (M345_.1 128 (Int32.toNatClampNeg (Mz281_.1 144 (Int32.toNatClampNeg i7z281_)))) ≤ 4 := pvok_r o347_ 128 (Int32.toNatClampNeg (Mz281_.1 144 (Int32.toNatClampNeg i7z281_))) rfl
              obtain ⟨q352_, b351_⟩ : (Int32.toInt (i7z281_ + 1) = Int32.toInt i7z281_ + 1) ∧ (1 ≤ Int32.toInt (i7z281_ + 1) ∧ Int32.toInt (i7z281_ + 1) ≤ 7) := zadd_k i7z281_ 1 1 1 7 b285_ (by decide) (by decide) (by decide) (by decide) (by decide)
              refine pw_blk hT 12 (S' := (18, [some (pvR 124), some (pvI n1), some (pvI n2), some (pvI n3), some (pvI (i4z281_ + (x291_ + (Mz281_.1 129 (Int32.toNatClampNeg (Mz281_.1 144 (Int32.toNatClampNeg i7z281_))))))), some (pvI (M345_.1 127 (Int32.toNatClampNeg (Mz281_.1 144 (Int32.toNatClampNeg i7z281_))))), some (pvI (M345_.1 128 (Int32.toNatClampNeg (Mz281_.1 144 (Int32.toNatClampNeg i7z281_))))), some (pvI (i7z281_ + 1)), some (pvI (Mz281_.1 144 (Int32.toNatClampNeg i7z281_)))], [], M345_)) rfl ⟨trivial, rfl, trivial, ⟨rfl, (zr_in (n := 7) b287_ (by decide) (by decide))⟩, trivial, trivial, rfl, trivial, ⟨rfl, (zr_in (n := 7) b287_ (by decide) (by decide))⟩, trivial, trivial, trivial, trivial⟩ ?_
              have j353_ : Int32.toInt (i4z281_ + (x291_ + (Mz281_.1 129 (Int32.toNatClampNeg (Mz281_.1 144 (Int32.toNatClampNeg i7z281_)))))) ≤ 60000 + 320 * Int32.toInt (i7z281_ + 1) := by omega
              have j354_ : 0 ≤ Int32.toInt (i4z281_ + (x291_ + (Mz281_.1 129 (Int32.toNatClampNeg (Mz281_.1 144 (Int32.toNatClampNeg i7z281_)))))) := by omega
              exact ihz281_ (i4z281_ + (x291_ + (Mz281_.1 129 (Int32.toNatClampNeg (Mz281_.1 144 (Int32.toNatClampNeg i7z281_)))))) (M345_.1 127 (Int32.toNatClampNeg (Mz281_.1 144 (Int32.toNatClampNeg i7z281_)))) (M345_.1 128 (Int32.toNatClampNeg (Mz281_.1 144 (Int32.toNatClampNeg i7z281_)))) (i7z281_ + 1) (some (pvI (Mz281_.1 144 (Int32.toNatClampNeg i7z281_)))) M345_ o347_ f348_ (by have u0 := b343_; omega) b349_ b350_ (zr_wide b351_ (by decide) (by decide)) j353_ j354_ (zhid (pvms_up (zshow hmz281_) h7z281_ q352_ (by decide) (by decide)))
        · have b355_ : 1 ≤ Int32.toInt (Mz281_.1 131 (Int32.toNatClampNeg (Mz281_.1 144 (Int32.toNatClampNeg i7z281_)))) ∧ Int32.toInt (Mz281_.1 131 (Int32.toNatClampNeg (Mz281_.1 144 (Int32.toNatClampNeg i7z281_)))) ≤ 1 := (by have u0 := b288_; have u1 := (not_congr (zi_eq _ _)).mp c289_; have u2 := (show 0 ≤ Int32.toInt 0 ∧ Int32.toInt 0 ≤ 0 from (by decide)); omega)
          obtain ⟨q357_, b356_⟩ : (Int32.toInt (i7z281_ + 1) = Int32.toInt i7z281_ + 1) ∧ (1 ≤ Int32.toInt (i7z281_ + 1) ∧ Int32.toInt (i7z281_ + 1) ≤ 7) := zadd_k i7z281_ 1 1 1 7 b285_ (by decide) (by decide) (by decide) (by decide) (by decide)
          refine pw_blk hT 3 (S' := (18, [some (pvR 124), some (pvI n1), some (pvI n2), some (pvI n3), some (pvI i4z281_), some (pvI i5z281_), some (pvI i6z281_), some (pvI (i7z281_ + 1)), some (pvI (Mz281_.1 144 (Int32.toNatClampNeg i7z281_)))], [], Mz281_)) rfl ⟨trivial, trivial, trivial, trivial⟩ ?_
          have j358_ : Int32.toInt i4z281_ ≤ 60000 + 320 * Int32.toInt (i7z281_ + 1) := by omega
          have j359_ : 0 ≤ Int32.toInt i4z281_ := by omega
          exact ihz281_ i4z281_ i5z281_ i6z281_ (i7z281_ + 1) (some (pvI (Mz281_.1 144 (Int32.toNatClampNeg i7z281_)))) Mz281_ oz281_ fz281_ h4z281_ h5z281_ h6z281_ (zr_wide b356_ (by decide) (by decide)) j358_ j359_ (zhid (pvms_up (zshow hmz281_) h7z281_ q357_ (by decide) (by decide)))
  have j360_ : Int32.toInt n3 ≤ 60000 + 320 * Int32.toInt n1 := by omega
  have j361_ : 0 ≤ Int32.toInt n3 := by omega
  exact hlz281_ _ n3 (M.1 124 5) (M.1 124 6) n1 none M hok pvfr_0 (zr_wide hn3 (by decide) (by decide)) b1_ b2_ hn1 j360_ j361_ (zhid (Nat.lt_succ_self _))
set_option maxHeartbeats 4000000 in
set_option maxRecDepth 10000 in
theorem sf_X10_isOpenAt_124_x_x (M : pvM) (hok : pvOk M) (n1 : Int32) (n2 : Int32) (hn1 : 0 ≤ Int32.toInt n1 ∧ Int32.toInt n1 ≤ 6) (d : Nat) : PW 39 d (0, [some (pvR 124), some (pvI n1), some (pvI n2)], [], M) (fun r X => r = some (pvI ((if (M.1 143 (Int32.toNatClampNeg n1)) ≤ n2 then 0 else 1))) ∧ X = M) := by
  have hT : pvdom 39 = pvD_39 := rfl
  have b1_ : (-1) ≤ Int32.toInt (M.1 143 (Int32.toNatClampNeg n1)) ∧ Int32.toInt (M.1 143 (Int32.toNatClampNeg n1)) ≤ 99999 := pvok_r hok 143 (Int32.toNatClampNeg n1) rfl
  refine pw_blk hT 5 (S' := (7, [some (pvR 124), some (pvI n1), some (pvI n2)], [pvI (M.1 143 (Int32.toNatClampNeg n1)), pvI n2], M)) rfl ⟨trivial, trivial, rfl, trivial, ⟨rfl, (zr_in (n := 7) hn1 (by decide) (by decide))⟩, trivial⟩ ?_
  refine pw_ic hT (c := (M.1 143 (Int32.toNatClampNeg n1)) ≤ n2) rfl rfl (fun c2_ => ?_) (fun c2_ => ?_)
  · have b3_ : (-1) ≤ Int32.toInt n2 ∧ Int32.toInt n2 ≤ 2147483647 := zr_le_r (-1) c2_ (zbnd n2) b1_ (by decide)
    have d4_ : Int32.toInt (M.1 143 (Int32.toNatClampNeg n1)) ≤ Int32.toInt n2 := (zi_le _ _).mp c2_
    refine pw_blk hT 1 (S' := (15, [some (pvR 124), some (pvI n1), some (pvI n2)], [pvI 0], M)) rfl ⟨trivial, trivial⟩ ?_
    exact pw_ret hT rfl (r := some (pvI 0)) (M' := M) ⟨Or.inl rfl, rfl, rfl⟩ ⟨(by rw [if_pos c2_]), rfl⟩
  · have b5_ : (-2147483648) ≤ Int32.toInt n2 ∧ Int32.toInt n2 ≤ 99998 := zr_nle_r 99998 c2_ (zbnd n2) b1_ (by decide)
    have d6_ : Int32.toInt (M.1 143 (Int32.toNatClampNeg n1)) > Int32.toInt n2 := Int.not_le.mp ((not_congr (zi_le _ _)).mp c2_)
    refine pw_blk hT 2 (S' := (15, [some (pvR 124), some (pvI n1), some (pvI n2)], [pvI 1], M)) rfl ⟨trivial, trivial, trivial⟩ ?_
    exact pw_ret hT rfl (r := some (pvI 1)) (M' := M) ⟨Or.inr rfl, rfl, rfl⟩ ⟨(by rw [if_neg c2_]), rfl⟩
