def fpL_X10_rainOf_124_x : List (Nat × Nat × Nat) := [(0, 141, 0)]
def fp_X10_rainOf_124_x (q k : Nat) : Bool := pvfp fpL_X10_rainOf_124_x q k
theorem fp_X10_rainOf_124_x_fp_X10_holds_124_x_x (a b : Nat) (h : fp_X10_holds_124_x_x a b = true) : fp_X10_rainOf_124_x a b = true := pvfp_sub (l1 := fpL_X10_holds_124_x_x) (l2 := fpL_X10_rainOf_124_x) (by decide) a b h
set_option maxHeartbeats 4000000 in
set_option maxRecDepth 10000 in
theorem sf_X10_rainOf_124_x (M : pvM) (hok : pvOk M) (n1 : Int32) (hn1 : 0 ≤ Int32.toInt n1 ∧ Int32.toInt n1 ≤ 6) (hz : pvWF M) (d : Nat) : PW 67 d (0, [some (pvR 124), some (pvI n1), none, none], [], M) (fun r X => (∃ x : Int32, r = some (pvI x) ∧ 0 ≤ Int32.toInt x ∧ Int32.toInt x ≤ 6000) ∧ pvOk X ∧ pvFr fp_X10_rainOf_124_x M X) := by
  have hT : pvdom 67 = pvD_67 := rfl
  refine pw_blk hT 3 (S' := (3, [some (pvR 124), some (pvI n1), some (pvI 3), none], [pvR 124], M)) rfl ⟨trivial, trivial, trivial, trivial⟩ ?_
  refine pw_callT hT (as := [pvR 124]) (lo1 := [some (pvR 124)]) (d1 := d) (rest := []) rfl rfl rfl rfl rfl (fun _ => rfl) (Nat.zero_le _) rfl rfl rfl (sf_X10_firstClause_124 M hok d) ?_
  have b6_ : (-1) ≤ Int32.toInt (M.1 124 15) ∧ Int32.toInt (M.1 124 15) ≤ 5 := pvok_r hok 124 15 rfl
  by_cases c7_ : 0 ≤ (M.1 124 15)
  · refine pw_eqI (if_pos c7_) ?_
    have b8_ : 0 ≤ Int32.toInt (M.1 124 15) ∧ Int32.toInt (M.1 124 15) ≤ 5 := zr_le_r 0 c7_ b6_ (show 0 ≤ Int32.toInt 0 ∧ Int32.toInt 0 ≤ 0 from (by decide)) (by decide)
    have q9_ : Int32.toInt (10 * (M.1 124 15)) = 10 * Int32.toInt (M.1 124 15) := by have u0 : Int32.toInt 10 = 10 := (by decide); have u1 := b8_; have u2 := zmul 10 (M.1 124 15) (by rw [u0]; omega) (by rw [u0]; omega); rw [u0] at u2; omega
    have b10_ : 0 ≤ Int32.toInt (10 * (M.1 124 15)) ∧ Int32.toInt (10 * (M.1 124 15)) ≤ 50 := (by have u1 := b8_; omega)
    show PW 67 d (6, [some (pvR 124), some (pvI n1), some (pvI 3), none], [pvI (10 * (M.1 124 15))], M) _
    refine pw_blk hT 1 (S' := (7, [some (pvR 124), some (pvI n1), some (pvI 3), some (pvI (10 * (M.1 124 15)))], [], M)) rfl ⟨trivial, trivial⟩ ?_
    have hlz211_ : ∀ (nz211_ : Nat) (i2z211_ : Int32) (i3z211_ : Int32) (Mz211_ : pvM), (pvOk Mz211_) → (pvFr fp_X10_rainOf_124_x M Mz211_) → (Mz211_.1 124 15 = M.1 124 15) → ((-6000) ≤ Int32.toInt i2z211_ ∧ Int32.toInt i2z211_ ≤ 6000) → (0 ≤ Int32.toInt i3z211_ ∧ Int32.toInt i3z211_ ≤ 60) → (Int32.toInt i2z211_ ≤ 3 + 99 * Int32.toInt i3z211_) → (-(99 * Int32.toInt i3z211_) ≤ Int32.toInt i2z211_) → (10 * Int32.toInt (Mz211_.1 124 15) ≤ Int32.toInt i3z211_) → (zhide ((61 - Int32.toInt i3z211_).toNat < nz211_)) → PW 67 d (7, [some (pvR 124), some (pvI n1), some (pvI i2z211_), some (pvI i3z211_)], [], Mz211_) (fun r X => (∃ x : Int32, r = some (pvI x) ∧ 0 ≤ Int32.toInt x ∧ Int32.toInt x ≤ 6000) ∧ pvOk X ∧ pvFr fp_X10_rainOf_124_x M X) := by
      intro nz211_
      induction nz211_ with
      | zero => intro i2z211_ i3z211_ Mz211_ oz211_ fz211_ k124_15z211_ h2z211_ h3z211_ j0z211_ j1z211_ j2z211_ hmz211_; exact absurd (zshow hmz211_) (Nat.not_lt_zero _)
      | succ nz211_ ihz211_ =>
        intro i2z211_ i3z211_ Mz211_ oz211_ fz211_ k124_15z211_ h2z211_ h3z211_ j0z211_ j1z211_ j2z211_ hmz211_
        have e212_ : (Mz211_.1 124 15) = (M.1 124 15) := (k124_15z211_)
        have b213_ : 0 ≤ Int32.toInt (Mz211_.1 124 15) ∧ Int32.toInt (Mz211_.1 124 15) ≤ 5 := (by rw [e212_]; exact b8_)
        refine pw_blk hT 2 (S' := (9, [some (pvR 124), some (pvI n1), some (pvI i2z211_), some (pvI i3z211_)], [pvR 124, pvI i3z211_], Mz211_)) rfl ⟨trivial, trivial, trivial⟩ ?_
        refine pw_callT hT (as := [pvR 124]) (lo1 := [some (pvR 124)]) (d1 := d) (rest := [pvI i3z211_]) rfl rfl rfl rfl rfl (fun _ => rfl) (Nat.zero_le _) rfl rfl rfl (sf_X10_behindClauses_124 Mz211_ oz211_ d) ?_
        refine pw_eqI (if_pos (by have z0 := (show 0 ≤ Int32.toInt 0 ∧ Int32.toInt 0 ≤ 0 from (by decide)); have z1 := b213_; rw [zi_le]; omega)) ?_
        have q219_ : Int32.toInt (10 * (Mz211_.1 124 15)) = 10 * Int32.toInt (Mz211_.1 124 15) := by have u0 : Int32.toInt 10 = 10 := (by decide); have u1 := b213_; have u2 := zmul 10 (Mz211_.1 124 15) (by rw [u0]; omega) (by rw [u0]; omega); rw [u0] at u2; omega
        have b220_ : 0 ≤ Int32.toInt (10 * (Mz211_.1 124 15)) ∧ Int32.toInt (10 * (Mz211_.1 124 15)) ≤ 50 := (by have u1 := b213_; omega)
        have b221_ : 0 ≤ Int32.toInt (Mz211_.1 133 (Int32.toNatClampNeg (Mz211_.1 124 15))) ∧ Int32.toInt (Mz211_.1 133 (Int32.toNatClampNeg (Mz211_.1 124 15))) ≤ 10 := pvok_r oz211_ 133 (Int32.toNatClampNeg (Mz211_.1 124 15)) rfl
        obtain ⟨q223_, b222_⟩ : (Int32.toInt ((10 * (Mz211_.1 124 15)) + (Mz211_.1 133 (Int32.toNatClampNeg (Mz211_.1 124 15)))) = Int32.toInt (10 * (Mz211_.1 124 15)) + Int32.toInt (Mz211_.1 133 (Int32.toNatClampNeg (Mz211_.1 124 15)))) ∧ (0 ≤ Int32.toInt ((10 * (Mz211_.1 124 15)) + (Mz211_.1 133 (Int32.toNatClampNeg (Mz211_.1 124 15)))) ∧ Int32.toInt ((10 * (Mz211_.1 124 15)) + (Mz211_.1 133 (Int32.toNatClampNeg (Mz211_.1 124 15)))) ≤ 60) := zadd_r (10 * (Mz211_.1 124 15)) (Mz211_.1 133 (Int32.toNatClampNeg (Mz211_.1 124 15))) 0 60 b220_ b221_ (by decide) (by decide) (by decide) (by decide)
        show PW 67 d (12, [some (pvR 124), some (pvI n1), some (pvI i2z211_), some (pvI i3z211_)], [pvI ((10 * (Mz211_.1 124 15)) + (Mz211_.1 133 (Int32.toNatClampNeg (Mz211_.1 124 15)))), pvI i3z211_], Mz211_) _
        refine pw_ic hT (c := ((10 * (Mz211_.1 124 15)) + (Mz211_.1 133 (Int32.toNatClampNeg (Mz211_.1 124 15)))) ≤ i3z211_) rfl rfl (fun c224_ => ?_) (fun c224_ => ?_)
        · have d225_ : Int32.toInt ((10 * (Mz211_.1 124 15)) + (Mz211_.1 133 (Int32.toNatClampNeg (Mz211_.1 124 15)))) ≤ Int32.toInt i3z211_ := (zi_le _ _).mp c224_
          refine pw_blk hT 1 (S' := (72, [some (pvR 124), some (pvI n1), some (pvI i2z211_), some (pvI i3z211_)], [pvI i2z211_], Mz211_)) rfl ⟨trivial, trivial⟩ ?_
          refine pw_if hT (c := 0 ≤ i2z211_) rfl rfl (fun c226_ => ?_) (fun c226_ => ?_)
          · have b227_ : 0 ≤ Int32.toInt i2z211_ ∧ Int32.toInt i2z211_ ≤ 6000 := zr_le_r 0 c226_ h2z211_ (show 0 ≤ Int32.toInt 0 ∧ Int32.toInt 0 ≤ 0 from (by decide)) (by decide)
            refine pw_blk hT 1 (S' := (80, [some (pvR 124), some (pvI n1), some (pvI i2z211_), some (pvI i3z211_)], [pvI i2z211_], Mz211_)) rfl ⟨trivial, trivial⟩ ?_
            exact pw_ret hT rfl (r := some (pvI i2z211_)) (M' := Mz211_) ⟨rfl, rfl⟩ ⟨⟨_, rfl, b227_⟩, oz211_, fz211_⟩
          · have b228_ : (-6000) ≤ Int32.toInt i2z211_ ∧ Int32.toInt i2z211_ ≤ (-1) := zr_nle_r (-1) c226_ h2z211_ (show 0 ≤ Int32.toInt 0 ∧ Int32.toInt 0 ≤ 0 from (by decide)) (by decide)
            refine pw_blk hT 2 (S' := (80, [some (pvR 124), some (pvI n1), some (pvI i2z211_), some (pvI i3z211_)], [pvI 0], Mz211_)) rfl ⟨trivial, trivial, trivial⟩ ?_
            exact pw_ret hT rfl (r := some (pvI 0)) (M' := Mz211_) ⟨rfl, rfl⟩ ⟨⟨_, rfl, (zr_wide (show 0 ≤ Int32.toInt 0 ∧ Int32.toInt 0 ≤ 0 from (by decide)) (by decide) (by decide))⟩, oz211_, fz211_⟩
        · have b229_ : 1 ≤ Int32.toInt ((10 * (Mz211_.1 124 15)) + (Mz211_.1 133 (Int32.toNatClampNeg (Mz211_.1 124 15)))) ∧ Int32.toInt ((10 * (Mz211_.1 124 15)) + (Mz211_.1 133 (Int32.toNatClampNeg (Mz211_.1 124 15)))) ≤ 60 := zr_nle_l 1 c224_ b222_ h3z211_ (by decide)
          have b230_ : 0 ≤ Int32.toInt i3z211_ ∧ Int32.toInt i3z211_ ≤ 59 := zr_nle_r 59 c224_ h3z211_ b229_ (by decide)
          have d231_ : Int32.toInt ((10 * (Mz211_.1 124 15)) + (Mz211_.1 133 (Int32.toNatClampNeg (Mz211_.1 124 15)))) > Int32.toInt i3z211_ := Int.not_le.mp ((not_congr (zi_le _ _)).mp c224_)
          have b232_ : 0 ≤ Int32.toInt (Mz211_.1 134 (Int32.toNatClampNeg i3z211_)) ∧ Int32.toInt (Mz211_.1 134 (Int32.toNatClampNeg i3z211_)) ≤ 3 := pvok_r oz211_ 134 (Int32.toNatClampNeg i3z211_) rfl
          refine pw_blk hT 5 (S' := (22, [some (pvR 124), some (pvI n1), some (pvI i2z211_), some (pvI i3z211_)], [pvI 2, pvI (Mz211_.1 134 (Int32.toNatClampNeg i3z211_))], Mz211_)) rfl ⟨trivial, rfl, trivial, ⟨rfl, (zr_in (n := 60) b230_ (by decide) (by decide))⟩, trivial, trivial⟩ ?_
          refine pw_ic hT (c := 2 ≤ (Mz211_.1 134 (Int32.toNatClampNeg i3z211_))) rfl rfl (fun c233_ => ?_) (fun c233_ => ?_)
          · have b234_ : 2 ≤ Int32.toInt (Mz211_.1 134 (Int32.toNatClampNeg i3z211_)) ∧ Int32.toInt (Mz211_.1 134 (Int32.toNatClampNeg i3z211_)) ≤ 3 := zr_le_r 2 c233_ b232_ (show 2 ≤ Int32.toInt 2 ∧ Int32.toInt 2 ≤ 2 from (by decide)) (by decide)
            obtain ⟨q236_, b235_⟩ : (Int32.toInt (i3z211_ + 1) = Int32.toInt i3z211_ + 1) ∧ (1 ≤ Int32.toInt (i3z211_ + 1) ∧ Int32.toInt (i3z211_ + 1) ≤ 60) := zadd_k i3z211_ 1 1 1 60 b230_ (by decide) (by decide) (by decide) (by decide) (by decide)
            refine pw_blk hT 2 (S' := (7, [some (pvR 124), some (pvI n1), some (pvI i2z211_), some (pvI (i3z211_ + 1))], [], Mz211_)) rfl ⟨trivial, trivial, trivial⟩ ?_
            have j237_ : Int32.toInt i2z211_ ≤ 3 + 99 * Int32.toInt (i3z211_ + 1) := by have y01 : Int32.toInt (Mz211_.1 124 15) = Int32.toInt (M.1 124 15) := congrArg Int32.toInt (k124_15z211_); omega
            have j238_ : -(99 * Int32.toInt (i3z211_ + 1)) ≤ Int32.toInt i2z211_ := by have y01 : Int32.toInt (Mz211_.1 124 15) = Int32.toInt (M.1 124 15) := congrArg Int32.toInt (k124_15z211_); omega
            have j239_ : 10 * Int32.toInt (Mz211_.1 124 15) ≤ Int32.toInt (i3z211_ + 1) := by have y01 : Int32.toInt (Mz211_.1 124 15) = Int32.toInt (M.1 124 15) := congrArg Int32.toInt (k124_15z211_); omega
            exact ihz211_ i2z211_ (i3z211_ + 1) Mz211_ oz211_ fz211_ (k124_15z211_) h2z211_ (zr_wide b235_ (by decide) (by decide)) j237_ j238_ j239_ (zhid (by have hm0 := zshow hmz211_; have y01 : Int32.toInt (Mz211_.1 124 15) = Int32.toInt (M.1 124 15) := congrArg Int32.toInt (k124_15z211_); omega))
          · have b240_ : 0 ≤ Int32.toInt (Mz211_.1 134 (Int32.toNatClampNeg i3z211_)) ∧ Int32.toInt (Mz211_.1 134 (Int32.toNatClampNeg i3z211_)) ≤ 1 := zr_nle_r 1 c233_ b232_ (show 2 ≤ Int32.toInt 2 ∧ Int32.toInt 2 ≤ 2 from (by decide)) (by decide)
            refine pw_blk hT 3 (S' := (28, [some (pvR 124), some (pvI n1), some (pvI i2z211_), some (pvI i3z211_)], [pvI n1, pvI i3z211_, pvR 124], Mz211_)) rfl ⟨trivial, trivial, trivial, trivial⟩ ?_
            refine pw_callG hT (as := [pvR 124, pvI i3z211_, pvI n1]) (lo1 := [some (pvR 124), some (pvI i3z211_), some (pvI n1), none, none, none, none, none]) (d1 := d) (rest := []) rfl rfl rfl rfl rfl (fun _ => rfl) (Nat.zero_le _) rfl rfl rfl (sf_X10_holds_124_x_x Mz211_ oz211_ i3z211_ n1 b230_ hn1 (pvWc_of (pvWF_fr (L := fpL_X10_rainOf_124_x) rfl fz211_ hz) (by omega) (by omega) (by omega) (by omega)) d) (fun x241_ M242_ b243_ o244_ g245_ => ?_)
            have f246_ : pvFr fp_X10_rainOf_124_x M M242_ := pvfr_t g245_ fz211_ fp_X10_rainOf_124_x_fp_X10_holds_124_x_x
            refine pw_ifn hT (c := x241_ = 0) rfl rfl (fun c247_ => ?_) (fun c247_ => ?_)
            · have b248_ : 1 ≤ Int32.toInt x241_ ∧ Int32.toInt x241_ ≤ 1 := (by have u0 := b243_; have u1 := (not_congr (zi_eq _ _)).mp c247_; have u2 := (show 0 ≤ Int32.toInt 0 ∧ Int32.toInt 0 ≤ 0 from (by decide)); omega)
              have b249_ : 0 ≤ Int32.toInt (M242_.1 134 (Int32.toNatClampNeg i3z211_)) ∧ Int32.toInt (M242_.1 134 (Int32.toNatClampNeg i3z211_)) ≤ 3 := pvok_r o244_ 134 (Int32.toNatClampNeg i3z211_) rfl
              refine pw_blk hT 5 (S' := (44, [some (pvR 124), some (pvI n1), some (pvI i2z211_), some (pvI i3z211_)], [pvI (M242_.1 134 (Int32.toNatClampNeg i3z211_)), pvI i2z211_], M242_)) rfl ⟨trivial, trivial, rfl, trivial, ⟨rfl, (zr_in (n := 60) b230_ (by decide) (by decide))⟩, trivial⟩ ?_
              refine pw_ifn hT (c := (M242_.1 134 (Int32.toNatClampNeg i3z211_)) = 0) rfl rfl (fun c250_ => ?_) (fun c250_ => ?_)
              · have b251_ : 1 ≤ Int32.toInt (M242_.1 134 (Int32.toNatClampNeg i3z211_)) ∧ Int32.toInt (M242_.1 134 (Int32.toNatClampNeg i3z211_)) ≤ 3 := (by have u0 := b249_; have u1 := (not_congr (zi_eq _ _)).mp c250_; have u2 := (show 0 ≤ Int32.toInt 0 ∧ Int32.toInt 0 ≤ 0 from (by decide)); omega)
                have b252_ : 0 ≤ Int32.toInt (M242_.1 135 (Int32.toNatClampNeg i3z211_)) ∧ Int32.toInt (M242_.1 135 (Int32.toNatClampNeg i3z211_)) ≤ 99 := pvok_r o244_ 135 (Int32.toNatClampNeg i3z211_) rfl
                have b253_ : (-99) ≤ Int32.toInt (-(M242_.1 135 (Int32.toNatClampNeg i3z211_))) ∧ Int32.toInt (-(M242_.1 135 (Int32.toNatClampNeg i3z211_))) ≤ 0 := (by have u0 := b252_; have u := pvneg (M242_.1 135 (Int32.toNatClampNeg i3z211_)) (by omega); omega)
                obtain ⟨q255_, b254_⟩ : (Int32.toInt (i2z211_ + (-(M242_.1 135 (Int32.toNatClampNeg i3z211_)))) = Int32.toInt i2z211_ + Int32.toInt (-(M242_.1 135 (Int32.toNatClampNeg i3z211_)))) ∧ ((-6099) ≤ Int32.toInt (i2z211_ + (-(M242_.1 135 (Int32.toNatClampNeg i3z211_)))) ∧ Int32.toInt (i2z211_ + (-(M242_.1 135 (Int32.toNatClampNeg i3z211_)))) ≤ 6000) := zadd_r i2z211_ (-(M242_.1 135 (Int32.toNatClampNeg i3z211_))) (-6099) 6000 h2z211_ b253_ (by decide) (by decide) (by decide) (by decide)
                obtain ⟨q257_, b256_⟩ : (Int32.toInt (i3z211_ + 1) = Int32.toInt i3z211_ + 1) ∧ (1 ≤ Int32.toInt (i3z211_ + 1) ∧ Int32.toInt (i3z211_ + 1) ≤ 60) := zadd_k i3z211_ 1 1 1 60 b230_ (by decide) (by decide) (by decide) (by decide) (by decide)
                refine pw_blk hT 9 (S' := (7, [some (pvR 124), some (pvI n1), some (pvI (i2z211_ + (-(M242_.1 135 (Int32.toNatClampNeg i3z211_))))), some (pvI (i3z211_ + 1))], [], M242_)) rfl ⟨trivial, rfl, trivial, ⟨rfl, (zr_in (n := 60) b230_ (by decide) (by decide))⟩, trivial, trivial, trivial, trivial, trivial, trivial⟩ ?_
                have j258_ : Int32.toInt (i2z211_ + (-(M242_.1 135 (Int32.toNatClampNeg i3z211_)))) ≤ 3 + 99 * Int32.toInt (i3z211_ + 1) := by have y01 : Int32.toInt (M242_.1 124 15) = Int32.toInt (Mz211_.1 124 15) := congrArg Int32.toInt (g245_ 124 15 rfl); omega
                have j259_ : -(99 * Int32.toInt (i3z211_ + 1)) ≤ Int32.toInt (i2z211_ + (-(M242_.1 135 (Int32.toNatClampNeg i3z211_)))) := by have y01 : Int32.toInt (M242_.1 124 15) = Int32.toInt (Mz211_.1 124 15) := congrArg Int32.toInt (g245_ 124 15 rfl); omega
                have j260_ : 10 * Int32.toInt (M242_.1 124 15) ≤ Int32.toInt (i3z211_ + 1) := by have y01 : Int32.toInt (M242_.1 124 15) = Int32.toInt (Mz211_.1 124 15) := congrArg Int32.toInt (g245_ 124 15 rfl); omega
                exact ihz211_ (i2z211_ + (-(M242_.1 135 (Int32.toNatClampNeg i3z211_)))) (i3z211_ + 1) M242_ o244_ f246_ ((g245_ 124 15 rfl).trans (k124_15z211_)) (by have u0 := b254_; omega) (zr_wide b256_ (by decide) (by decide)) j258_ j259_ j260_ (zhid (by have hm0 := zshow hmz211_; have y01 : Int32.toInt (M242_.1 124 15) = Int32.toInt (Mz211_.1 124 15) := congrArg Int32.toInt (g245_ 124 15 rfl); omega))
              · have b261_ : 0 ≤ Int32.toInt (M242_.1 134 (Int32.toNatClampNeg i3z211_)) ∧ Int32.toInt (M242_.1 134 (Int32.toNatClampNeg i3z211_)) ≤ 0 := (by have u0 := b249_; have u1 := (zi_eq _ _).mp c250_; have u2 := (show 0 ≤ Int32.toInt 0 ∧ Int32.toInt 0 ≤ 0 from (by decide)); omega)
                have b262_ : 0 ≤ Int32.toInt (M242_.1 135 (Int32.toNatClampNeg i3z211_)) ∧ Int32.toInt (M242_.1 135 (Int32.toNatClampNeg i3z211_)) ≤ 99 := pvok_r o244_ 135 (Int32.toNatClampNeg i3z211_) rfl
                obtain ⟨q264_, b263_⟩ : (Int32.toInt (i2z211_ + (M242_.1 135 (Int32.toNatClampNeg i3z211_))) = Int32.toInt i2z211_ + Int32.toInt (M242_.1 135 (Int32.toNatClampNeg i3z211_))) ∧ ((-6000) ≤ Int32.toInt (i2z211_ + (M242_.1 135 (Int32.toNatClampNeg i3z211_))) ∧ Int32.toInt (i2z211_ + (M242_.1 135 (Int32.toNatClampNeg i3z211_))) ≤ 6099) := zadd_r i2z211_ (M242_.1 135 (Int32.toNatClampNeg i3z211_)) (-6000) 6099 h2z211_ b262_ (by decide) (by decide) (by decide) (by decide)
                obtain ⟨q266_, b265_⟩ : (Int32.toInt (i3z211_ + 1) = Int32.toInt i3z211_ + 1) ∧ (1 ≤ Int32.toInt (i3z211_ + 1) ∧ Int32.toInt (i3z211_ + 1) ≤ 60) := zadd_k i3z211_ 1 1 1 60 b230_ (by decide) (by decide) (by decide) (by decide) (by decide)
                refine pw_blk hT 9 (S' := (7, [some (pvR 124), some (pvI n1), some (pvI (i2z211_ + (M242_.1 135 (Int32.toNatClampNeg i3z211_)))), some (pvI (i3z211_ + 1))], [], M242_)) rfl ⟨trivial, rfl, trivial, ⟨rfl, (zr_in (n := 60) b230_ (by decide) (by decide))⟩, trivial, trivial, trivial, trivial, trivial, trivial⟩ ?_
                have j267_ : Int32.toInt (i2z211_ + (M242_.1 135 (Int32.toNatClampNeg i3z211_))) ≤ 3 + 99 * Int32.toInt (i3z211_ + 1) := by have y01 : Int32.toInt (M242_.1 124 15) = Int32.toInt (Mz211_.1 124 15) := congrArg Int32.toInt (g245_ 124 15 rfl); omega
                have j268_ : -(99 * Int32.toInt (i3z211_ + 1)) ≤ Int32.toInt (i2z211_ + (M242_.1 135 (Int32.toNatClampNeg i3z211_))) := by have y01 : Int32.toInt (M242_.1 124 15) = Int32.toInt (Mz211_.1 124 15) := congrArg Int32.toInt (g245_ 124 15 rfl); omega
                have j269_ : 10 * Int32.toInt (M242_.1 124 15) ≤ Int32.toInt (i3z211_ + 1) := by have y01 : Int32.toInt (M242_.1 124 15) = Int32.toInt (Mz211_.1 124 15) := congrArg Int32.toInt (g245_ 124 15 rfl); omega
                exact ihz211_ (i2z211_ + (M242_.1 135 (Int32.toNatClampNeg i3z211_))) (i3z211_ + 1) M242_ o244_ f246_ ((g245_ 124 15 rfl).trans (k124_15z211_)) (by have u0 := b263_; omega) (zr_wide b265_ (by decide) (by decide)) j267_ j268_ j269_ (zhid (by have hm0 := zshow hmz211_; have y01 : Int32.toInt (M242_.1 124 15) = Int32.toInt (Mz211_.1 124 15) := congrArg Int32.toInt (g245_ 124 15 rfl); omega))
            · have b270_ : 0 ≤ Int32.toInt x241_ ∧ Int32.toInt x241_ ≤ 0 := (by have u0 := b243_; have u1 := (zi_eq _ _).mp c247_; have u2 := (show 0 ≤ Int32.toInt 0 ∧ Int32.toInt 0 ≤ 0 from (by decide)); omega)
              obtain ⟨q272_, b271_⟩ : (Int32.toInt (i3z211_ + 1) = Int32.toInt i3z211_ + 1) ∧ (1 ≤ Int32.toInt (i3z211_ + 1) ∧ Int32.toInt (i3z211_ + 1) ≤ 60) := zadd_k i3z211_ 1 1 1 60 b230_ (by decide) (by decide) (by decide) (by decide) (by decide)
              refine pw_blk hT 3 (S' := (7, [some (pvR 124), some (pvI n1), some (pvI i2z211_), some (pvI (i3z211_ + 1))], [], M242_)) rfl ⟨trivial, trivial, trivial, trivial⟩ ?_
              have j273_ : Int32.toInt i2z211_ ≤ 3 + 99 * Int32.toInt (i3z211_ + 1) := by have y01 : Int32.toInt (M242_.1 124 15) = Int32.toInt (Mz211_.1 124 15) := congrArg Int32.toInt (g245_ 124 15 rfl); omega
              have j274_ : -(99 * Int32.toInt (i3z211_ + 1)) ≤ Int32.toInt i2z211_ := by have y01 : Int32.toInt (M242_.1 124 15) = Int32.toInt (Mz211_.1 124 15) := congrArg Int32.toInt (g245_ 124 15 rfl); omega
              have j275_ : 10 * Int32.toInt (M242_.1 124 15) ≤ Int32.toInt (i3z211_ + 1) := by have y01 : Int32.toInt (M242_.1 124 15) = Int32.toInt (Mz211_.1 124 15) := congrArg Int32.toInt (g245_ 124 15 rfl); omega
              exact ihz211_ i2z211_ (i3z211_ + 1) M242_ o244_ f246_ ((g245_ 124 15 rfl).trans (k124_15z211_)) h2z211_ (zr_wide b271_ (by decide) (by decide)) j273_ j274_ j275_ (zhid (by have hm0 := zshow hmz211_; have y01 : Int32.toInt (M242_.1 124 15) = Int32.toInt (Mz211_.1 124 15) := congrArg Int32.toInt (g245_ 124 15 rfl); omega))
    have u276_ : Int32.toInt 3 = 3 := by decide
    have j277_ : Int32.toInt 3 ≤ 3 + 99 * Int32.toInt (10 * (M.1 124 15)) := by omega
    have j278_ : -(99 * Int32.toInt (10 * (M.1 124 15))) ≤ Int32.toInt 3 := by omega
    have j279_ : 10 * Int32.toInt (M.1 124 15) ≤ Int32.toInt (10 * (M.1 124 15)) := by omega
    exact hlz211_ _ 3 (10 * (M.1 124 15)) M hok pvfr_0 rfl (zr_wide (show 3 ≤ Int32.toInt 3 ∧ Int32.toInt 3 ≤ 3 from (by decide)) (by decide) (by decide)) (zr_wide b10_ (by decide) (by decide)) j277_ j278_ j279_ (zhid (Nat.lt_succ_self _))
  · refine pw_eqI (if_neg c7_) ?_
    have b280_ : (-1) ≤ Int32.toInt (M.1 124 15) ∧ Int32.toInt (M.1 124 15) ≤ (-1) := zr_nle_r (-1) c7_ b6_ (show 0 ≤ Int32.toInt 0 ∧ Int32.toInt 0 ≤ 0 from (by decide)) (by decide)
    show PW 67 d (6, [some (pvR 124), some (pvI n1), some (pvI 3), none], [pvI 0], M) _
    refine pw_blk hT 1 (S' := (7, [some (pvR 124), some (pvI n1), some (pvI 3), some (pvI 0)], [], M)) rfl ⟨trivial, trivial⟩ ?_
    have hlz309_ : ∀ (nz309_ : Nat) (i2z309_ : Int32) (i3z309_ : Int32), ((-6000) ≤ Int32.toInt i2z309_ ∧ Int32.toInt i2z309_ ≤ 6000) → (0 ≤ Int32.toInt i3z309_ ∧ Int32.toInt i3z309_ ≤ 0) → (Int32.toInt i2z309_ ≤ 3 + 99 * Int32.toInt i3z309_) → (-(99 * Int32.toInt i3z309_) ≤ Int32.toInt i2z309_) → (10 * Int32.toInt (M.1 124 15) ≤ Int32.toInt i3z309_) → (zhide (0 < nz309_)) → PW 67 d (7, [some (pvR 124), some (pvI n1), some (pvI i2z309_), some (pvI i3z309_)], [], M) (fun r X => (∃ x : Int32, r = some (pvI x) ∧ 0 ≤ Int32.toInt x ∧ Int32.toInt x ≤ 6000) ∧ pvOk X ∧ pvFr fp_X10_rainOf_124_x M X) := by
      intro nz309_
      induction nz309_ with
      | zero => intro i2z309_ i3z309_ h2z309_ h3z309_ j0z309_ j1z309_ j2z309_ hmz309_; exact absurd (zshow hmz309_) (Nat.not_lt_zero _)
      | succ nz309_ ihz309_ =>
        intro i2z309_ i3z309_ h2z309_ h3z309_ j0z309_ j1z309_ j2z309_ hmz309_
        refine pw_blk hT 2 (S' := (9, [some (pvR 124), some (pvI n1), some (pvI i2z309_), some (pvI i3z309_)], [pvR 124, pvI i3z309_], M)) rfl ⟨trivial, trivial, trivial⟩ ?_
        refine pw_callT hT (as := [pvR 124]) (lo1 := [some (pvR 124)]) (d1 := d) (rest := [pvI i3z309_]) rfl rfl rfl rfl rfl (fun _ => rfl) (Nat.zero_le _) rfl rfl rfl (sf_X10_behindClauses_124 M hok d) ?_
        refine pw_eqI (if_neg c7_) ?_
        show PW 67 d (12, [some (pvR 124), some (pvI n1), some (pvI i2z309_), some (pvI i3z309_)], [pvI 0, pvI i3z309_], M) _
        refine pw_ic hT (c := 0 ≤ i3z309_) rfl rfl (fun c315_ => ?_) (fun c315_ => absurd (by have z0 := (show 0 ≤ Int32.toInt 0 ∧ Int32.toInt 0 ≤ 0 from (by decide)); have z1 := h3z309_; rw [zi_le]; omega) c315_)
        refine pw_blk hT 1 (S' := (72, [some (pvR 124), some (pvI n1), some (pvI i2z309_), some (pvI i3z309_)], [pvI i2z309_], M)) rfl ⟨trivial, trivial⟩ ?_
        refine pw_if hT (c := 0 ≤ i2z309_) rfl rfl (fun c316_ => ?_) (fun c316_ => ?_)
        · have b317_ : 0 ≤ Int32.toInt i2z309_ ∧ Int32.toInt i2z309_ ≤ 6000 := zr_le_r 0 c316_ h2z309_ (show 0 ≤ Int32.toInt 0 ∧ Int32.toInt 0 ≤ 0 from (by decide)) (by decide)
          refine pw_blk hT 1 (S' := (80, [some (pvR 124), some (pvI n1), some (pvI i2z309_), some (pvI i3z309_)], [pvI i2z309_], M)) rfl ⟨trivial, trivial⟩ ?_
          exact pw_ret hT rfl (r := some (pvI i2z309_)) (M' := M) ⟨rfl, rfl⟩ ⟨⟨_, rfl, b317_⟩, hok, pvfr_0⟩
        · have b318_ : (-6000) ≤ Int32.toInt i2z309_ ∧ Int32.toInt i2z309_ ≤ (-1) := zr_nle_r (-1) c316_ h2z309_ (show 0 ≤ Int32.toInt 0 ∧ Int32.toInt 0 ≤ 0 from (by decide)) (by decide)
          refine pw_blk hT 2 (S' := (80, [some (pvR 124), some (pvI n1), some (pvI i2z309_), some (pvI i3z309_)], [pvI 0], M)) rfl ⟨trivial, trivial, trivial⟩ ?_
          exact pw_ret hT rfl (r := some (pvI 0)) (M' := M) ⟨rfl, rfl⟩ ⟨⟨_, rfl, (zr_wide (show 0 ≤ Int32.toInt 0 ∧ Int32.toInt 0 ≤ 0 from (by decide)) (by decide) (by decide))⟩, hok, pvfr_0⟩
    have u319_ : Int32.toInt 3 = 3 := by decide
    have u320_ : Int32.toInt 0 = 0 := by decide
    have j321_ : Int32.toInt 3 ≤ 3 + 99 * Int32.toInt 0 := by omega
    have j322_ : -(99 * Int32.toInt 0) ≤ Int32.toInt 3 := by omega
    have j323_ : 10 * Int32.toInt (M.1 124 15) ≤ Int32.toInt 0 := by omega
    exact hlz309_ _ 3 0 (zr_wide (show 3 ≤ Int32.toInt 3 ∧ Int32.toInt 3 ≤ 3 from (by decide)) (by decide) (by decide)) (show 0 ≤ Int32.toInt 0 ∧ Int32.toInt 0 ≤ 0 from (by decide)) j321_ j322_ j323_ (zhid (Nat.lt_succ_self _))
def fpL_X10_layRain_124 : List (Nat × Nat × Nat) := [(0, 124, 33), (0, 141, 0), (0, 142, 0)]
def fp_X10_layRain_124 (q k : Nat) : Bool := pvfp fpL_X10_layRain_124 q k
theorem fp_X10_layRain_124_fp_X10_rainOf_124_x (a b : Nat) (h : fp_X10_rainOf_124_x a b = true) : fp_X10_layRain_124 a b = true := pvfp_sub (l1 := fpL_X10_rainOf_124_x) (l2 := fpL_X10_layRain_124) (by decide) a b h
set_option maxHeartbeats 4000000 in
set_option maxRecDepth 10000 in
theorem sf_X10_layRain_124 (M : pvM) (hok : pvOk M) (hz : pvWF M) (d : Nat) : PW 50 d (0, [some (pvR 124), none, none], [], M) (fun r X => r = none ∧ pvOk X ∧ pvFr fp_X10_layRain_124 M X) := by
  have hT : pvdom 50 = pvD_50 := rfl
  refine pw_blk hT 1 (S' := (1, [some (pvR 124), none, none], [pvR 124], M)) rfl ⟨trivial, trivial⟩ ?_
  refine pw_callGp hT (as := [pvR 124]) (lo1 := [some (pvR 124)]) (d1 := d) (rest := []) rfl rfl rfl rfl rfl (fun _ => rfl) (Nat.zero_le _) rfl rfl rfl (sf_X10_lastNow_124 M hok d) (fun x1_ b3_ => ?_)
  refine pw_blk hT 3 (S' := (7, [some (pvR 124), some (pvI x1_), some (pvI 0)], [], M)) rfl ⟨trivial, trivial, trivial, trivial⟩ ?_
  have hlz450_ : ∀ (nz450_ : Nat) (i2z450_ : Int32) (Mz450_ : pvM), (pvOk Mz450_) → (pvFr fp_X10_layRain_124 M Mz450_) → (0 ≤ Int32.toInt i2z450_ ∧ Int32.toInt i2z450_ ≤ 7) → (zhide ((8 - Int32.toInt i2z450_).toNat < nz450_)) → PW 50 d (7, [some (pvR 124), some (pvI x1_), some (pvI i2z450_)], [], Mz450_) (fun r X => r = none ∧ pvOk X ∧ pvFr fp_X10_layRain_124 M X) := by
    intro nz450_
    induction nz450_ with
    | zero => intro i2z450_ Mz450_ oz450_ fz450_ h2z450_ hmz450_; exact absurd (zshow hmz450_) (Nat.not_lt_zero _)
    | succ nz450_ ihz450_ =>
      intro i2z450_ Mz450_ oz450_ fz450_ h2z450_ hmz450_
      have b451_ : 0 ≤ Int32.toInt (Mz450_.1 124 0) ∧ Int32.toInt (Mz450_.1 124 0) ≤ 7 := pvok_r oz450_ 124 0 rfl
      refine pw_blk hT 3 (S' := (12, [some (pvR 124), some (pvI x1_), some (pvI i2z450_)], [pvI (Mz450_.1 124 0), pvI i2z450_], Mz450_)) rfl ⟨trivial, trivial, rfl, trivial⟩ ?_
      refine pw_ic hT (c := (Mz450_.1 124 0) ≤ i2z450_) rfl rfl (fun c452_ => ?_) (fun c452_ => ?_)
      · have d453_ : Int32.toInt (Mz450_.1 124 0) ≤ Int32.toInt i2z450_ := (zi_le _ _).mp c452_
        refine pw_blkw hT 3 (pc := 71) (lo := [some (pvR 124), some (pvI x1_), some (pvI i2z450_)]) (st := []) (M := pvu Mz450_ 124 32 0) rfl ⟨trivial, trivial, rfl, trivial⟩ (fun M454_ e455_ => ?_)
        have o456_ : pvOk M454_ := pvok_u2 e455_ oz450_ rfl (zr_wide (show 0 ≤ Int32.toInt 0 ∧ Int32.toInt 0 ≤ 0 from (by decide)) (by decide) (by decide))
        have f457_ : pvFr fp_X10_layRain_124 M M454_ := pvfr_u e455_ fz450_ rfl
        exact pw_ret hT rfl (r := none) (M' := M454_) ⟨rfl, rfl⟩ ⟨rfl, o456_, f457_⟩
      · have b458_ : 1 ≤ Int32.toInt (Mz450_.1 124 0) ∧ Int32.toInt (Mz450_.1 124 0) ≤ 7 := zr_nle_l 1 c452_ b451_ h2z450_ (by decide)
        have b459_ : 0 ≤ Int32.toInt i2z450_ ∧ Int32.toInt i2z450_ ≤ 6 := zr_nle_r 6 c452_ h2z450_ b458_ (by decide)
        have d460_ : Int32.toInt (Mz450_.1 124 0) > Int32.toInt i2z450_ := Int.not_le.mp ((not_congr (zi_le _ _)).mp c452_)
        refine pw_blkw hT 3 (pc := 20) (lo := [some (pvR 124), some (pvI x1_), some (pvI i2z450_)]) (st := []) (M := pvu Mz450_ 124 32 0) rfl ⟨trivial, trivial, rfl, trivial⟩ (fun M461_ e462_ => ?_)
        have o463_ : pvOk M461_ := pvok_u2 e462_ oz450_ rfl (zr_wide (show 0 ≤ Int32.toInt 0 ∧ Int32.toInt 0 ≤ 0 from (by decide)) (by decide) (by decide))
        have f464_ : pvFr fp_X10_layRain_124 M M461_ := pvfr_u e462_ fz450_ rfl
        have e465_ : (M461_.1 124 0) = (Mz450_.1 124 0) := (pvu_n e462_ 124 0 (Or.inr (by decide)))
        have b466_ : 1 ≤ Int32.toInt (M461_.1 124 0) ∧ Int32.toInt (M461_.1 124 0) ≤ 7 := (by rw [e465_]; exact b458_)
        have hlz530_ : ∀ (nz530_ : Nat) (Mz530_ : pvM), (pvOk Mz530_) → (pvFr fp_X10_layRain_124 M Mz530_) → (Mz530_.1 124 0 = M461_.1 124 0) → (zhide ((100 - Int32.toInt (Mz530_.1 124 32)).toNat < nz530_)) → PW 50 d (20, [some (pvR 124), some (pvI x1_), some (pvI i2z450_)], [], Mz530_) (fun r X => r = none ∧ pvOk X ∧ pvFr fp_X10_layRain_124 M X) := by
          intro nz530_
          induction nz530_ with
          | zero => intro Mz530_ oz530_ fz530_ k124_0z530_ hmz530_; exact absurd (zshow hmz530_) (Nat.not_lt_zero _)
          | succ nz530_ ihz530_ =>
            intro Mz530_ oz530_ fz530_ k124_0z530_ hmz530_
            have b531_ : 0 ≤ Int32.toInt (Mz530_.1 124 32) ∧ Int32.toInt (Mz530_.1 124 32) ≤ 99 := pvok_r oz530_ 124 32 rfl
            refine pw_blk hT 3 (S' := (25, [some (pvR 124), some (pvI x1_), some (pvI i2z450_)], [pvI x1_, pvI (Mz530_.1 124 32)], Mz530_)) rfl ⟨trivial, rfl, trivial, trivial⟩ ?_
            refine pw_ic hT (c := x1_ ≤ (Mz530_.1 124 32)) rfl rfl (fun c532_ => ?_) (fun c532_ => ?_)
            · have d533_ : Int32.toInt x1_ ≤ Int32.toInt (Mz530_.1 124 32) := (zi_le _ _).mp c532_
              obtain ⟨q535_, b534_⟩ : (Int32.toInt (i2z450_ + 1) = Int32.toInt i2z450_ + 1) ∧ (1 ≤ Int32.toInt (i2z450_ + 1) ∧ Int32.toInt (i2z450_ + 1) ≤ 7) := zadd_k i2z450_ 1 1 1 7 b459_ (by decide) (by decide) (by decide) (by decide) (by decide)
              refine pw_blk hT 2 (S' := (7, [some (pvR 124), some (pvI x1_), some (pvI (i2z450_ + 1))], [], Mz530_)) rfl ⟨trivial, trivial, trivial⟩ ?_
              exact ihz450_ (i2z450_ + 1) Mz530_ oz530_ fz530_ (zr_wide b534_ (by decide) (by decide)) (zhid (pvms_up (zshow hmz450_) h2z450_ q535_ (by decide) (by decide)))
            · have b536_ : 1 ≤ Int32.toInt x1_ ∧ Int32.toInt x1_ ≤ 99 := zr_nle_l 1 c532_ b3_ b531_ (by decide)
              have b537_ : 0 ≤ Int32.toInt (Mz530_.1 124 32) ∧ Int32.toInt (Mz530_.1 124 32) ≤ 98 := zr_nle_r 98 c532_ b531_ b536_ (by decide)
              have d538_ : Int32.toInt x1_ > Int32.toInt (Mz530_.1 124 32) := Int.not_le.mp ((not_congr (zi_le _ _)).mp c532_)
              have q539_ : Int32.toInt (99 * i2z450_) = 99 * Int32.toInt i2z450_ := by have u0 : Int32.toInt 99 = 99 := (by decide); have u1 := b459_; have u2 := zmul 99 i2z450_ (by rw [u0]; omega) (by rw [u0]; omega); rw [u0] at u2; omega
              have b540_ : 0 ≤ Int32.toInt (99 * i2z450_) ∧ Int32.toInt (99 * i2z450_) ≤ 594 := (by have u1 := b459_; omega)
              obtain ⟨q542_, b541_⟩ : (Int32.toInt ((99 * i2z450_) + (Mz530_.1 124 32)) = Int32.toInt (99 * i2z450_) + Int32.toInt (Mz530_.1 124 32)) ∧ (0 ≤ Int32.toInt ((99 * i2z450_) + (Mz530_.1 124 32)) ∧ Int32.toInt ((99 * i2z450_) + (Mz530_.1 124 32)) ≤ 692) := zadd_r (99 * i2z450_) (Mz530_.1 124 32) 0 692 b540_ b537_ (by decide) (by decide) (by decide) (by decide)
              refine pw_blk hT 10 (S' := (43, [some (pvR 124), some (pvI x1_), some (pvI i2z450_)], [pvI i2z450_, pvR 124, pvI ((99 * i2z450_) + (Mz530_.1 124 32)), pvR 142], Mz530_)) rfl ⟨trivial, rfl, trivial, trivial, trivial, trivial, rfl, trivial, trivial, trivial, trivial⟩ ?_
              refine pw_callG hT (as := [pvR 124, pvI i2z450_]) (lo1 := [some (pvR 124), some (pvI i2z450_), none, none]) (d1 := d) (rest := [pvI ((99 * i2z450_) + (Mz530_.1 124 32)), pvR 142]) rfl rfl rfl rfl rfl (fun _ => rfl) (Nat.zero_le _) rfl rfl rfl (sf_X10_rainOf_124_x Mz530_ oz530_ i2z450_ b459_ (pvWF_fr (L := fpL_X10_layRain_124) rfl fz530_ hz) d) (fun x543_ M544_ b545_ o546_ g547_ => ?_)
              have f548_ : pvFr fp_X10_layRain_124 M M544_ := pvfr_t g547_ fz530_ fp_X10_layRain_124_fp_X10_rainOf_124_x
              refine pw_blkw hT 1 (pc := 47) (lo := [some (pvR 124), some (pvI x1_), some (pvI i2z450_)]) (st := []) (M := pvu M544_ 142 (Int32.toNatClampNeg ((99 * i2z450_) + (Mz530_.1 124 32))) x543_) rfl ⟨⟨rfl, (zr_in (n := 693) b541_ (by decide) (by decide))⟩, trivial⟩ (fun M549_ e550_ => ?_)
              have o551_ : pvOk M549_ := pvok_u2 e550_ o546_ rfl b545_
              have f552_ : pvFr fp_X10_layRain_124 M M549_ := pvfr_u e550_ f548_ rfl
              have e553_ : (M549_.1 124 32) = (Mz530_.1 124 32) := ((pvu_n e550_ 124 32 (Or.inl (by decide))).trans (g547_ 124 32 rfl))
              have b554_ : 0 ≤ Int32.toInt (M549_.1 124 32) ∧ Int32.toInt (M549_.1 124 32) ≤ 98 := (by rw [e553_]; exact b537_)
              obtain ⟨q556_, b555_⟩ : (Int32.toInt ((M549_.1 124 32) + 1) = Int32.toInt (M549_.1 124 32) + 1) ∧ (1 ≤ Int32.toInt ((M549_.1 124 32) + 1) ∧ Int32.toInt ((M549_.1 124 32) + 1) ≤ 99) := zadd_k (M549_.1 124 32) 1 1 1 99 b554_ (by decide) (by decide) (by decide) (by decide) (by decide)
              refine pw_blkw hT 6 (pc := 57) (lo := [some (pvR 124), some (pvI x1_), some (pvI i2z450_)]) (st := []) (M := pvu M549_ 124 32 ((M549_.1 124 32) + 1)) rfl ⟨trivial, trivial, rfl, trivial, trivial, rfl, trivial⟩ (fun M557_ e558_ => ?_)
              have o559_ : pvOk M557_ := pvok_u2 e558_ o551_ rfl (zr_wide b555_ (by decide) (by decide))
              have f560_ : pvFr fp_X10_layRain_124 M M557_ := pvfr_u e558_ f552_ rfl
              refine pw_blk hT 1 (S' := (20, [some (pvR 124), some (pvI x1_), some (pvI i2z450_)], [], M557_)) rfl ⟨trivial, trivial⟩ ?_
              exact ihz530_ M557_ o559_ f560_ ((((pvu_n e558_ 124 0 (Or.inr (by decide))).trans (pvu_n e550_ 124 0 (Or.inl (by decide)))).trans (g547_ 124 0 rfl)).trans (k124_0z530_)) (zhid (by have hm0 := zshow hmz530_; have z1 : Int32.toInt (M557_.1 124 32) = Int32.toInt ((M549_.1 124 32) + 1) := congrArg Int32.toInt (pvu_s e558_); have z2 : Int32.toInt (M549_.1 124 32) = Int32.toInt (Mz530_.1 124 32) := congrArg Int32.toInt ((pvu_n e550_ 124 32 (Or.inl (by decide))).trans (g547_ 124 32 rfl)); omega))
        exact hlz530_ _ M461_ o463_ f464_ rfl (zhid (Nat.lt_succ_self _))
  exact hlz450_ _ 0 M hok pvfr_0 (zr_wide (show 0 ≤ Int32.toInt 0 ∧ Int32.toInt 0 ≤ 0 from (by decide)) (by decide) (by decide)) (zhid (Nat.lt_succ_self _))
def fpL_X10_layRound_124 : List (Nat × Nat × Nat) := [(0, 124, 36), (0, 144, 0)]
def fp_X10_layRound_124 (q k : Nat) : Bool := pvfp fpL_X10_layRound_124 q k
set_option maxHeartbeats 4000000 in
set_option maxRecDepth 10000 in
theorem sf_X10_layRound_124 (M : pvM) (hok : pvOk M) (d : Nat) : PW 51 d (0, [some (pvR 124), none], [], M) (fun r X => r = none ∧ pvOk X ∧ pvFr fp_X10_layRound_124 M X) := by
  have hT : pvdom 51 = pvD_51 := rfl
  have b1_ : 0 ≤ Int32.toInt (M.1 124 37) ∧ Int32.toInt (M.1 124 37) ≤ 7 := pvok_r hok 124 37 rfl
  refine pw_blkw hT 4 (pc := 8) (lo := [some (pvR 124), none]) (st := []) (M := pvu M 124 35 (M.1 124 37)) rfl ⟨trivial, trivial, rfl, rfl, trivial⟩ (fun M2_ e3_ => ?_)
  have o4_ : pvOk M2_ := pvok_u2 e3_ hok rfl b1_
  have f5_ : pvFr fp_X10_layRound_124 M M2_ := pvfr_u e3_ pvfr_0 rfl
  refine pw_blk hT 2 (S' := (10, [some (pvR 124), some (pvI 0)], [], M2_)) rfl ⟨trivial, trivial, trivial⟩ ?_
  have hlz48_ : ∀ (nz48_ : Nat) (i1z48_ : Int32) (Mz48_ : pvM), (pvOk Mz48_) → (pvFr fp_X10_layRound_124 M Mz48_) → (0 ≤ Int32.toInt i1z48_ ∧ Int32.toInt i1z48_ ≤ 7) → (zhide ((8 - Int32.toInt i1z48_).toNat < nz48_)) → PW 51 d (10, [some (pvR 124), some (pvI i1z48_)], [], Mz48_) (fun r X => r = none ∧ pvOk X ∧ pvFr fp_X10_layRound_124 M X) := by
    intro nz48_
    induction nz48_ with
    | zero => intro i1z48_ Mz48_ oz48_ fz48_ h1z48_ hmz48_; exact absurd (zshow hmz48_) (Nat.not_lt_zero _)
    | succ nz48_ ihz48_ =>
      intro i1z48_ Mz48_ oz48_ fz48_ h1z48_ hmz48_
      refine pw_blk hT 2 (S' := (13, [some (pvR 124), some (pvI i1z48_)], [pvI 7, pvI i1z48_], Mz48_)) rfl ⟨trivial, trivial, trivial⟩ ?_
      refine pw_ic hT (c := 7 ≤ i1z48_) rfl rfl (fun c49_ => ?_) (fun c49_ => ?_)
      · have b50_ : 7 ≤ Int32.toInt i1z48_ ∧ Int32.toInt i1z48_ ≤ 7 := zr_le_r 7 c49_ h1z48_ (show 7 ≤ Int32.toInt 7 ∧ Int32.toInt 7 ≤ 7 from (by decide)) (by decide)
        exact pw_ret hT rfl (r := none) (M' := Mz48_) ⟨rfl, rfl⟩ ⟨rfl, oz48_, fz48_⟩
      · have b51_ : 0 ≤ Int32.toInt i1z48_ ∧ Int32.toInt i1z48_ ≤ 6 := zr_nle_r 6 c49_ h1z48_ (show 7 ≤ Int32.toInt 7 ∧ Int32.toInt 7 ≤ 7 from (by decide)) (by decide)
        have b52_ : 0 ≤ Int32.toInt (Mz48_.1 145 (Int32.toNatClampNeg i1z48_)) ∧ Int32.toInt (Mz48_.1 145 (Int32.toNatClampNeg i1z48_)) ≤ 6 := pvok_r oz48_ 145 (Int32.toNatClampNeg i1z48_) rfl
        refine pw_blkw hT 8 (pc := 28) (lo := [some (pvR 124), some (pvI i1z48_)]) (st := []) (M := pvu Mz48_ 144 (Int32.toNatClampNeg i1z48_) (Mz48_.1 145 (Int32.toNatClampNeg i1z48_))) rfl ⟨trivial, rfl, trivial, trivial, rfl, trivial, ⟨rfl, (zr_in (n := 7) b51_ (by decide) (by decide))⟩, ⟨rfl, (zr_in (n := 7) b51_ (by decide) (by decide))⟩, trivial⟩ (fun M53_ e54_ => ?_)
        have o55_ : pvOk M53_ := pvok_u2 e54_ oz48_ rfl b52_
        have f56_ : pvFr fp_X10_layRound_124 M M53_ := pvfr_u e54_ fz48_ rfl
        obtain ⟨q58_, b57_⟩ : (Int32.toInt (i1z48_ + 1) = Int32.toInt i1z48_ + 1) ∧ (1 ≤ Int32.toInt (i1z48_ + 1) ∧ Int32.toInt (i1z48_ + 1) ≤ 7) := zadd_k i1z48_ 1 1 1 7 b51_ (by decide) (by decide) (by decide) (by decide) (by decide)
        refine pw_blk hT 2 (S' := (10, [some (pvR 124), some (pvI (i1z48_ + 1))], [], M53_)) rfl ⟨trivial, trivial, trivial⟩ ?_
        exact ihz48_ (i1z48_ + 1) M53_ o55_ f56_ (zr_wide b57_ (by decide) (by decide)) (zhid (pvms_up (zshow hmz48_) h1z48_ q58_ (by decide) (by decide)))
  exact hlz48_ _ 0 M2_ o4_ f5_ (zr_wide (show 0 ≤ Int32.toInt 0 ∧ Int32.toInt 0 ≤ 0 from (by decide)) (by decide) (by decide)) (zhid (Nat.lt_succ_self _))
def fpL_X10_layOpen_124 : List (Nat × Nat × Nat) := [(0, 143, 0)]
def fp_X10_layOpen_124 (q k : Nat) : Bool := pvfp fpL_X10_layOpen_124 q k
set_option maxHeartbeats 4000000 in
set_option maxRecDepth 10000 in
theorem sf_X10_layOpen_124 (M : pvM) (hok : pvOk M) (d : Nat) : PW 48 d (0, [some (pvR 124), none], [], M) (fun r X => r = none ∧ pvOk X ∧ pvFr fp_X10_layOpen_124 M X) := by
  have hT : pvdom 48 = pvD_48 := rfl
  refine pw_blk hT 2 (S' := (2, [some (pvR 124), some (pvI 0)], [], M)) rfl ⟨trivial, trivial, trivial⟩ ?_
  have hlz77_ : ∀ (nz77_ : Nat) (i1z77_ : Int32) (Mz77_ : pvM), (pvOk Mz77_) → (pvFr fp_X10_layOpen_124 M Mz77_) → (0 ≤ Int32.toInt i1z77_ ∧ Int32.toInt i1z77_ ≤ 7) → (zhide ((8 - Int32.toInt i1z77_).toNat < nz77_)) → PW 48 d (2, [some (pvR 124), some (pvI i1z77_)], [], Mz77_) (fun r X => r = none ∧ pvOk X ∧ pvFr fp_X10_layOpen_124 M X) := by
    intro nz77_
    induction nz77_ with
    | zero => intro i1z77_ Mz77_ oz77_ fz77_ h1z77_ hmz77_; exact absurd (zshow hmz77_) (Nat.not_lt_zero _)
    | succ nz77_ ihz77_ =>
      intro i1z77_ Mz77_ oz77_ fz77_ h1z77_ hmz77_
      refine pw_blk hT 2 (S' := (5, [some (pvR 124), some (pvI i1z77_)], [pvI 7, pvI i1z77_], Mz77_)) rfl ⟨trivial, trivial, trivial⟩ ?_
      refine pw_ic hT (c := 7 ≤ i1z77_) rfl rfl (fun c78_ => ?_) (fun c78_ => ?_)
      · have b79_ : 7 ≤ Int32.toInt i1z77_ ∧ Int32.toInt i1z77_ ≤ 7 := zr_le_r 7 c78_ h1z77_ (show 7 ≤ Int32.toInt 7 ∧ Int32.toInt 7 ≤ 7 from (by decide)) (by decide)
        exact pw_ret hT rfl (r := none) (M' := Mz77_) ⟨rfl, rfl⟩ ⟨rfl, oz77_, fz77_⟩
      · have b80_ : 0 ≤ Int32.toInt i1z77_ ∧ Int32.toInt i1z77_ ≤ 6 := zr_nle_r 6 c78_ h1z77_ (show 7 ≤ Int32.toInt 7 ∧ Int32.toInt 7 ≤ 7 from (by decide)) (by decide)
        have b81_ : 0 ≤ Int32.toInt (Mz77_.1 131 (Int32.toNatClampNeg i1z77_)) ∧ Int32.toInt (Mz77_.1 131 (Int32.toNatClampNeg i1z77_)) ≤ 1 := pvok_r oz77_ 131 (Int32.toNatClampNeg i1z77_) rfl
        refine pw_blk hT 7 (S' := (19, [some (pvR 124), some (pvI i1z77_)], [pvI (Mz77_.1 131 (Int32.toNatClampNeg i1z77_)), pvI i1z77_, pvR 143], Mz77_)) rfl ⟨trivial, rfl, trivial, trivial, rfl, trivial, ⟨rfl, (zr_in (n := 7) b80_ (by decide) (by decide))⟩, trivial⟩ ?_
        refine pw_if hT (c := (Mz77_.1 131 (Int32.toNatClampNeg i1z77_)) = 0) rfl rfl (fun c82_ => ?_) (fun c82_ => ?_)
        · have b83_ : 0 ≤ Int32.toInt (Mz77_.1 131 (Int32.toNatClampNeg i1z77_)) ∧ Int32.toInt (Mz77_.1 131 (Int32.toNatClampNeg i1z77_)) ≤ 0 := (by have u0 := b81_; have u1 := (zi_eq _ _).mp c82_; have u2 := (show 0 ≤ Int32.toInt 0 ∧ Int32.toInt 0 ≤ 0 from (by decide)); omega)
          refine pw_blkw hT 2 (pc := 30) (lo := [some (pvR 124), some (pvI i1z77_)]) (st := []) (M := pvu Mz77_ 143 (Int32.toNatClampNeg i1z77_) 99999) rfl ⟨trivial, ⟨rfl, (zr_in (n := 7) b80_ (by decide) (by decide))⟩, trivial⟩ (fun M84_ e85_ => ?_)
          have o86_ : pvOk M84_ := pvok_u2 e85_ oz77_ rfl (zr_wide (show 99999 ≤ Int32.toInt 99999 ∧ Int32.toInt 99999 ≤ 99999 from (by decide)) (by decide) (by decide))
          have f87_ : pvFr fp_X10_layOpen_124 M M84_ := pvfr_u e85_ fz77_ rfl
          obtain ⟨q89_, b88_⟩ : (Int32.toInt (i1z77_ + 1) = Int32.toInt i1z77_ + 1) ∧ (1 ≤ Int32.toInt (i1z77_ + 1) ∧ Int32.toInt (i1z77_ + 1) ≤ 7) := zadd_k i1z77_ 1 1 1 7 b80_ (by decide) (by decide) (by decide) (by decide) (by decide)
          refine pw_blk hT 2 (S' := (2, [some (pvR 124), some (pvI (i1z77_ + 1))], [], M84_)) rfl ⟨trivial, trivial, trivial⟩ ?_
          exact ihz77_ (i1z77_ + 1) M84_ o86_ f87_ (zr_wide b88_ (by decide) (by decide)) (zhid (pvms_up (zshow hmz77_) h1z77_ q89_ (by decide) (by decide)))
        · have b90_ : 1 ≤ Int32.toInt (Mz77_.1 131 (Int32.toNatClampNeg i1z77_)) ∧ Int32.toInt (Mz77_.1 131 (Int32.toNatClampNeg i1z77_)) ≤ 1 := (by have u0 := b81_; have u1 := (not_congr (zi_eq _ _)).mp c82_; have u2 := (show 0 ≤ Int32.toInt 0 ∧ Int32.toInt 0 ≤ 0 from (by decide)); omega)
          refine pw_blkw hT 3 (pc := 30) (lo := [some (pvR 124), some (pvI i1z77_)]) (st := []) (M := pvu Mz77_ 143 (Int32.toNatClampNeg i1z77_) (-1)) rfl ⟨trivial, trivial, ⟨rfl, (zr_in (n := 7) b80_ (by decide) (by decide))⟩, trivial⟩ (fun M91_ e92_ => ?_)
          have o93_ : pvOk M91_ := pvok_u2 e92_ oz77_ rfl (zr_wide (show (-1) ≤ Int32.toInt (-1) ∧ Int32.toInt (-1) ≤ (-1) from (by decide)) (by decide) (by decide))
          have f94_ : pvFr fp_X10_layOpen_124 M M91_ := pvfr_u e92_ fz77_ rfl
          obtain ⟨q96_, b95_⟩ : (Int32.toInt (i1z77_ + 1) = Int32.toInt i1z77_ + 1) ∧ (1 ≤ Int32.toInt (i1z77_ + 1) ∧ Int32.toInt (i1z77_ + 1) ≤ 7) := zadd_k i1z77_ 1 1 1 7 b80_ (by decide) (by decide) (by decide) (by decide) (by decide)
          refine pw_blk hT 2 (S' := (2, [some (pvR 124), some (pvI (i1z77_ + 1))], [], M91_)) rfl ⟨trivial, trivial, trivial⟩ ?_
          exact ihz77_ (i1z77_ + 1) M91_ o93_ f94_ (zr_wide b95_ (by decide) (by decide)) (zhid (pvms_up (zshow hmz77_) h1z77_ q96_ (by decide) (by decide)))
  exact hlz77_ _ 0 M hok pvfr_0 (zr_wide (show 0 ≤ Int32.toInt 0 ∧ Int32.toInt 0 ≤ 0 from (by decide)) (by decide) (by decide)) (zhid (Nat.lt_succ_self _))
set_option maxHeartbeats 4000000 in
set_option maxRecDepth 10000 in
theorem sf_X10_way_124_x_x_x (M : pvM) (hok : pvOk M) (n1 : Int32) (n2 : Int32) (n3 : Int32) (hn1 : 0 ≤ Int32.toInt n1 ∧ Int32.toInt n1 ≤ 3) (hn2 : 0 ≤ Int32.toInt n2 ∧ Int32.toInt n2 ≤ 4) (hn3 : 0 ≤ Int32.toInt n3 ∧ Int32.toInt n3 ≤ 6) (d : Nat) : PW 95 d (0, [some (pvR 124), some (pvI n1), some (pvI n2), some (pvI n3)], [], M) (fun r X => (∃ x : Int32, r = some (pvI x) ∧ 0 ≤ Int32.toInt x ∧ Int32.toInt x ≤ 301) ∧ X = M) := by
  have hT : pvdom 95 = pvD_95 := rfl
  refine pw_blk hT 3 (S' := (3, [some (pvR 124), some (pvI n1), some (pvI n2), some (pvI n3)], [pvI 2, pvI 2, pvR 124], M)) rfl ⟨trivial, trivial, trivial, trivial⟩ ?_
  refine pw_callGp hT (as := [pvR 124, pvI 2, pvI 2]) (lo1 := [some (pvR 124), some (pvI 2), some (pvI 2), none, none]) (d1 := d) (rest := []) rfl rfl rfl rfl rfl (fun _ => rfl) (Nat.zero_le _) rfl rfl rfl (sf_X10_lastOf_124_x_x M hok 2 2 (zr_wide (show 2 ≤ Int32.toInt 2 ∧ Int32.toInt 2 ≤ 2 from (by decide)) (by decide) (by decide)) (zr_wide (show 2 ≤ Int32.toInt 2 ∧ Int32.toInt 2 ≤ 2 from (by decide)) (by decide) (by decide)) d) (fun x1_ b3_ => ?_)
  have b6_ : 0 ≤ Int32.toInt (M.1 127 (Int32.toNatClampNeg n3)) ∧ Int32.toInt (M.1 127 (Int32.toNatClampNeg n3)) ≤ 3 := pvok_r hok 127 (Int32.toNatClampNeg n3) rfl
  refine pw_blk hT 6 (S' := (14, [some (pvR 124), some (pvI n1), some (pvI n2), some (pvI n3)], [pvI (M.1 127 (Int32.toNatClampNeg n3)), pvI n1, pvR 124, pvI x1_], M)) rfl ⟨trivial, trivial, trivial, rfl, trivial, ⟨rfl, (zr_in (n := 7) hn3 (by decide) (by decide))⟩, trivial⟩ ?_
  refine pw_callT hT (as := [pvR 124, pvI n1, pvI (M.1 127 (Int32.toNatClampNeg n3))]) (lo1 := [some (pvR 124), some (pvI n1), some (pvI (M.1 127 (Int32.toNatClampNeg n3)))]) (d1 := d) (rest := [pvI x1_]) rfl rfl rfl rfl rfl (fun _ => rfl) (Nat.zero_le _) rfl rfl rfl (sf_X10_apart_124_x_x M hok n1 (M.1 127 (Int32.toNatClampNeg n3)) (zr_wide hn1 (by decide) (by decide)) (zr_wide b6_ (by decide) (by decide)) d) ?_
  by_cases c12_ : (M.1 127 (Int32.toNatClampNeg n3)) ≤ n1
  · refine pw_eqI (if_pos c12_) ?_
    have d13_ : Int32.toInt (M.1 127 (Int32.toNatClampNeg n3)) ≤ Int32.toInt n1 := (zi_le _ _).mp c12_
    obtain ⟨q15_, b14_⟩ : (Int32.toInt (n1 - (M.1 127 (Int32.toNatClampNeg n3))) = Int32.toInt n1 - Int32.toInt (M.1 127 (Int32.toNatClampNeg n3))) ∧ ((-3) ≤ Int32.toInt (n1 - (M.1 127 (Int32.toNatClampNeg n3))) ∧ Int32.toInt (n1 - (M.1 127 (Int32.toNatClampNeg n3))) ≤ 3) := zsub_r n1 (M.1 127 (Int32.toNatClampNeg n3)) (-3) 3 hn1 b6_ (by decide) (by decide) (by decide) (by decide)
    have b16_ : 0 ≤ Int32.toInt (n1 - (M.1 127 (Int32.toNatClampNeg n3))) ∧ Int32.toInt (n1 - (M.1 127 (Int32.toNatClampNeg n3))) ≤ 3 := (by have u0 := b14_; omega)
    show PW 95 d (17, [some (pvR 124), some (pvI n1), some (pvI n2), some (pvI n3)], [pvI (n1 - (M.1 127 (Int32.toNatClampNeg n3))), pvI x1_], M) _
    have b17_ : 0 ≤ Int32.toInt (x1_ * (n1 - (M.1 127 (Int32.toNatClampNeg n3)))) ∧ Int32.toInt (x1_ * (n1 - (M.1 127 (Int32.toNatClampNeg n3)))) ≤ 297 := (by have u := zmul_b x1_ (n1 - (M.1 127 (Int32.toNatClampNeg n3))) 99 3 (by have u0 := b3_; omega) (by have u0 := b16_; omega) (by decide); omega)
    have b18_ : 0 ≤ Int32.toInt (M.1 128 (Int32.toNatClampNeg n3)) ∧ Int32.toInt (M.1 128 (Int32.toNatClampNeg n3)) ≤ 4 := pvok_r hok 128 (Int32.toNatClampNeg n3) rfl
    refine pw_blk hT 7 (S' := (26, [some (pvR 124), some (pvI n1), some (pvI n2), some (pvI n3)], [pvI (M.1 128 (Int32.toNatClampNeg n3)), pvI n2, pvR 124, pvI (x1_ * (n1 - (M.1 127 (Int32.toNatClampNeg n3))))], M)) rfl ⟨trivial, trivial, trivial, trivial, rfl, trivial, ⟨rfl, (zr_in (n := 7) hn3 (by decide) (by decide))⟩, trivial⟩ ?_
    refine pw_callT hT (as := [pvR 124, pvI n2, pvI (M.1 128 (Int32.toNatClampNeg n3))]) (lo1 := [some (pvR 124), some (pvI n2), some (pvI (M.1 128 (Int32.toNatClampNeg n3)))]) (d1 := d) (rest := [pvI (x1_ * (n1 - (M.1 127 (Int32.toNatClampNeg n3))))]) rfl rfl rfl rfl rfl (fun _ => rfl) (Nat.zero_le _) rfl rfl rfl (sf_X10_apart_124_x_x M hok n2 (M.1 128 (Int32.toNatClampNeg n3)) hn2 b18_ d) ?_
    by_cases c24_ : (M.1 128 (Int32.toNatClampNeg n3)) ≤ n2
    · refine pw_eqI (if_pos c24_) ?_
      have d25_ : Int32.toInt (M.1 128 (Int32.toNatClampNeg n3)) ≤ Int32.toInt n2 := (zi_le _ _).mp c24_
      obtain ⟨q27_, b26_⟩ : (Int32.toInt (n2 - (M.1 128 (Int32.toNatClampNeg n3))) = Int32.toInt n2 - Int32.toInt (M.1 128 (Int32.toNatClampNeg n3))) ∧ ((-4) ≤ Int32.toInt (n2 - (M.1 128 (Int32.toNatClampNeg n3))) ∧ Int32.toInt (n2 - (M.1 128 (Int32.toNatClampNeg n3))) ≤ 4) := zsub_r n2 (M.1 128 (Int32.toNatClampNeg n3)) (-4) 4 hn2 b18_ (by decide) (by decide) (by decide) (by decide)
      have b28_ : 0 ≤ Int32.toInt (n2 - (M.1 128 (Int32.toNatClampNeg n3))) ∧ Int32.toInt (n2 - (M.1 128 (Int32.toNatClampNeg n3))) ≤ 4 := (by have u0 := b26_; omega)
      show PW 95 d (29, [some (pvR 124), some (pvI n1), some (pvI n2), some (pvI n3)], [pvI (n2 - (M.1 128 (Int32.toNatClampNeg n3))), pvI (x1_ * (n1 - (M.1 127 (Int32.toNatClampNeg n3))))], M) _
      obtain ⟨q30_, b29_⟩ : (Int32.toInt ((x1_ * (n1 - (M.1 127 (Int32.toNatClampNeg n3)))) + (n2 - (M.1 128 (Int32.toNatClampNeg n3)))) = Int32.toInt (x1_ * (n1 - (M.1 127 (Int32.toNatClampNeg n3)))) + Int32.toInt (n2 - (M.1 128 (Int32.toNatClampNeg n3)))) ∧ (0 ≤ Int32.toInt ((x1_ * (n1 - (M.1 127 (Int32.toNatClampNeg n3)))) + (n2 - (M.1 128 (Int32.toNatClampNeg n3)))) ∧ Int32.toInt ((x1_ * (n1 - (M.1 127 (Int32.toNatClampNeg n3)))) + (n2 - (M.1 128 (Int32.toNatClampNeg n3)))) ≤ 301) := zadd_r (x1_ * (n1 - (M.1 127 (Int32.toNatClampNeg n3)))) (n2 - (M.1 128 (Int32.toNatClampNeg n3))) 0 301 b17_ b28_ (by decide) (by decide) (by decide) (by decide)
      refine pw_blk hT 1 (S' := (30, [some (pvR 124), some (pvI n1), some (pvI n2), some (pvI n3)], [pvI ((x1_ * (n1 - (M.1 127 (Int32.toNatClampNeg n3)))) + (n2 - (M.1 128 (Int32.toNatClampNeg n3))))], M)) rfl ⟨trivial, trivial⟩ ?_
      exact pw_ret hT rfl (r := some (pvI ((x1_ * (n1 - (M.1 127 (Int32.toNatClampNeg n3)))) + (n2 - (M.1 128 (Int32.toNatClampNeg n3)))))) (M' := M) ⟨rfl, rfl⟩ ⟨⟨_, rfl, b29_⟩, rfl⟩
    · refine pw_eqI (if_neg c24_) ?_
      have b31_ : 1 ≤ Int32.toInt (M.1 128 (Int32.toNatClampNeg n3)) ∧ Int32.toInt (M.1 128 (Int32.toNatClampNeg n3)) ≤ 4 := zr_nle_l 1 c24_ b18_ hn2 (by decide)
      have b32_ : 0 ≤ Int32.toInt n2 ∧ Int32.toInt n2 ≤ 3 := zr_nle_r 3 c24_ hn2 b31_ (by decide)
      have d33_ : Int32.toInt (M.1 128 (Int32.toNatClampNeg n3)) > Int32.toInt n2 := Int.not_le.mp ((not_congr (zi_le _ _)).mp c24_)
      obtain ⟨q35_, b34_⟩ : (Int32.toInt ((M.1 128 (Int32.toNatClampNeg n3)) - n2) = Int32.toInt (M.1 128 (Int32.toNatClampNeg n3)) - Int32.toInt n2) ∧ ((-2) ≤ Int32.toInt ((M.1 128 (Int32.toNatClampNeg n3)) - n2) ∧ Int32.toInt ((M.1 128 (Int32.toNatClampNeg n3)) - n2) ≤ 4) := zsub_r (M.1 128 (Int32.toNatClampNeg n3)) n2 (-2) 4 b31_ b32_ (by decide) (by decide) (by decide) (by decide)
      have b36_ : 1 ≤ Int32.toInt ((M.1 128 (Int32.toNatClampNeg n3)) - n2) ∧ Int32.toInt ((M.1 128 (Int32.toNatClampNeg n3)) - n2) ≤ 4 := (by have u0 := b34_; omega)
      show PW 95 d (29, [some (pvR 124), some (pvI n1), some (pvI n2), some (pvI n3)], [pvI ((M.1 128 (Int32.toNatClampNeg n3)) - n2), pvI (x1_ * (n1 - (M.1 127 (Int32.toNatClampNeg n3))))], M) _
      obtain ⟨q38_, b37_⟩ : (Int32.toInt ((x1_ * (n1 - (M.1 127 (Int32.toNatClampNeg n3)))) + ((M.1 128 (Int32.toNatClampNeg n3)) - n2)) = Int32.toInt (x1_ * (n1 - (M.1 127 (Int32.toNatClampNeg n3)))) + Int32.toInt ((M.1 128 (Int32.toNatClampNeg n3)) - n2)) ∧ (1 ≤ Int32.toInt ((x1_ * (n1 - (M.1 127 (Int32.toNatClampNeg n3)))) + ((M.1 128 (Int32.toNatClampNeg n3)) - n2)) ∧ Int32.toInt ((x1_ * (n1 - (M.1 127 (Int32.toNatClampNeg n3)))) + ((M.1 128 (Int32.toNatClampNeg n3)) - n2)) ≤ 301) := zadd_r (x1_ * (n1 - (M.1 127 (Int32.toNatClampNeg n3)))) ((M.1 128 (Int32.toNatClampNeg n3)) - n2) 1 301 b17_ b36_ (by decide) (by decide) (by decide) (by decide)
      refine pw_blk hT 1 (S' := (30, [some (pvR 124), some (pvI n1), some (pvI n2), some (pvI n3)], [pvI ((x1_ * (n1 - (M.1 127 (Int32.toNatClampNeg n3)))) + ((M.1 128 (Int32.toNatClampNeg n3)) - n2))], M)) rfl ⟨trivial, trivial⟩ ?_
      exact pw_ret hT rfl (r := some (pvI ((x1_ * (n1 - (M.1 127 (Int32.toNatClampNeg n3)))) + ((M.1 128 (Int32.toNatClampNeg n3)) - n2)))) (M' := M) ⟨rfl, rfl⟩ ⟨⟨_, rfl, (zr_wide b37_ (by decide) (by decide))⟩, rfl⟩
  · refine pw_eqI (if_neg c12_) ?_
    have b39_ : 1 ≤ Int32.toInt (M.1 127 (Int32.toNatClampNeg n3)) ∧ Int32.toInt (M.1 127 (Int32.toNatClampNeg n3)) ≤ 3 := zr_nle_l 1 c12_ b6_ hn1 (by decide)
    have b40_ : 0 ≤ Int32.toInt n1 ∧ Int32.toInt n1 ≤ 2 := zr_nle_r 2 c12_ hn1 b39_ (by decide)
    have d41_ : Int32.toInt (M.1 127 (Int32.toNatClampNeg n3)) > Int32.toInt n1 := Int.not_le.mp ((not_congr (zi_le _ _)).mp c12_)
    obtain ⟨q43_, b42_⟩ : (Int32.toInt ((M.1 127 (Int32.toNatClampNeg n3)) - n1) = Int32.toInt (M.1 127 (Int32.toNatClampNeg n3)) - Int32.toInt n1) ∧ ((-1) ≤ Int32.toInt ((M.1 127 (Int32.toNatClampNeg n3)) - n1) ∧ Int32.toInt ((M.1 127 (Int32.toNatClampNeg n3)) - n1) ≤ 3) := zsub_r (M.1 127 (Int32.toNatClampNeg n3)) n1 (-1) 3 b39_ b40_ (by decide) (by decide) (by decide) (by decide)
    have b44_ : 1 ≤ Int32.toInt ((M.1 127 (Int32.toNatClampNeg n3)) - n1) ∧ Int32.toInt ((M.1 127 (Int32.toNatClampNeg n3)) - n1) ≤ 3 := (by have u0 := b42_; omega)
    show PW 95 d (17, [some (pvR 124), some (pvI n1), some (pvI n2), some (pvI n3)], [pvI ((M.1 127 (Int32.toNatClampNeg n3)) - n1), pvI x1_], M) _
    have b45_ : 0 ≤ Int32.toInt (x1_ * ((M.1 127 (Int32.toNatClampNeg n3)) - n1)) ∧ Int32.toInt (x1_ * ((M.1 127 (Int32.toNatClampNeg n3)) - n1)) ≤ 297 := (by have u := zmul_b x1_ ((M.1 127 (Int32.toNatClampNeg n3)) - n1) 99 3 (by have u0 := b3_; omega) (by have u0 := b44_; omega) (by decide); omega)
    have b46_ : 0 ≤ Int32.toInt (M.1 128 (Int32.toNatClampNeg n3)) ∧ Int32.toInt (M.1 128 (Int32.toNatClampNeg n3)) ≤ 4 := pvok_r hok 128 (Int32.toNatClampNeg n3) rfl
    refine pw_blk hT 7 (S' := (26, [some (pvR 124), some (pvI n1), some (pvI n2), some (pvI n3)], [pvI (M.1 128 (Int32.toNatClampNeg n3)), pvI n2, pvR 124, pvI (x1_ * ((M.1 127 (Int32.toNatClampNeg n3)) - n1))], M)) rfl ⟨trivial, trivial, trivial, trivial, rfl, trivial, ⟨rfl, (zr_in (n := 7) hn3 (by decide) (by decide))⟩, trivial⟩ ?_
    refine pw_callT hT (as := [pvR 124, pvI n2, pvI (M.1 128 (Int32.toNatClampNeg n3))]) (lo1 := [some (pvR 124), some (pvI n2), some (pvI (M.1 128 (Int32.toNatClampNeg n3)))]) (d1 := d) (rest := [pvI (x1_ * ((M.1 127 (Int32.toNatClampNeg n3)) - n1))]) rfl rfl rfl rfl rfl (fun _ => rfl) (Nat.zero_le _) rfl rfl rfl (sf_X10_apart_124_x_x M hok n2 (M.1 128 (Int32.toNatClampNeg n3)) hn2 b46_ d) ?_
    by_cases c52_ : (M.1 128 (Int32.toNatClampNeg n3)) ≤ n2
    · refine pw_eqI (if_pos c52_) ?_
      have d53_ : Int32.toInt (M.1 128 (Int32.toNatClampNeg n3)) ≤ Int32.toInt n2 := (zi_le _ _).mp c52_
      obtain ⟨q55_, b54_⟩ : (Int32.toInt (n2 - (M.1 128 (Int32.toNatClampNeg n3))) = Int32.toInt n2 - Int32.toInt (M.1 128 (Int32.toNatClampNeg n3))) ∧ ((-4) ≤ Int32.toInt (n2 - (M.1 128 (Int32.toNatClampNeg n3))) ∧ Int32.toInt (n2 - (M.1 128 (Int32.toNatClampNeg n3))) ≤ 4) := zsub_r n2 (M.1 128 (Int32.toNatClampNeg n3)) (-4) 4 hn2 b46_ (by decide) (by decide) (by decide) (by decide)
      have b56_ : 0 ≤ Int32.toInt (n2 - (M.1 128 (Int32.toNatClampNeg n3))) ∧ Int32.toInt (n2 - (M.1 128 (Int32.toNatClampNeg n3))) ≤ 4 := (by have u0 := b54_; omega)
      show PW 95 d (29, [some (pvR 124), some (pvI n1), some (pvI n2), some (pvI n3)], [pvI (n2 - (M.1 128 (Int32.toNatClampNeg n3))), pvI (x1_ * ((M.1 127 (Int32.toNatClampNeg n3)) - n1))], M) _
      obtain ⟨q58_, b57_⟩ : (Int32.toInt ((x1_ * ((M.1 127 (Int32.toNatClampNeg n3)) - n1)) + (n2 - (M.1 128 (Int32.toNatClampNeg n3)))) = Int32.toInt (x1_ * ((M.1 127 (Int32.toNatClampNeg n3)) - n1)) + Int32.toInt (n2 - (M.1 128 (Int32.toNatClampNeg n3)))) ∧ (0 ≤ Int32.toInt ((x1_ * ((M.1 127 (Int32.toNatClampNeg n3)) - n1)) + (n2 - (M.1 128 (Int32.toNatClampNeg n3)))) ∧ Int32.toInt ((x1_ * ((M.1 127 (Int32.toNatClampNeg n3)) - n1)) + (n2 - (M.1 128 (Int32.toNatClampNeg n3)))) ≤ 301) := zadd_r (x1_ * ((M.1 127 (Int32.toNatClampNeg n3)) - n1)) (n2 - (M.1 128 (Int32.toNatClampNeg n3))) 0 301 b45_ b56_ (by decide) (by decide) (by decide) (by decide)
      refine pw_blk hT 1 (S' := (30, [some (pvR 124), some (pvI n1), some (pvI n2), some (pvI n3)], [pvI ((x1_ * ((M.1 127 (Int32.toNatClampNeg n3)) - n1)) + (n2 - (M.1 128 (Int32.toNatClampNeg n3))))], M)) rfl ⟨trivial, trivial⟩ ?_
      exact pw_ret hT rfl (r := some (pvI ((x1_ * ((M.1 127 (Int32.toNatClampNeg n3)) - n1)) + (n2 - (M.1 128 (Int32.toNatClampNeg n3)))))) (M' := M) ⟨rfl, rfl⟩ ⟨⟨_, rfl, b57_⟩, rfl⟩
    · refine pw_eqI (if_neg c52_) ?_
      have b59_ : 1 ≤ Int32.toInt (M.1 128 (Int32.toNatClampNeg n3)) ∧ Int32.toInt (M.1 128 (Int32.toNatClampNeg n3)) ≤ 4 := zr_nle_l 1 c52_ b46_ hn2 (by decide)
      have b60_ : 0 ≤ Int32.toInt n2 ∧ Int32.toInt n2 ≤ 3 := zr_nle_r 3 c52_ hn2 b59_ (by decide)
      have d61_ : Int32.toInt (M.1 128 (Int32.toNatClampNeg n3)) > Int32.toInt n2 := Int.not_le.mp ((not_congr (zi_le _ _)).mp c52_)
      obtain ⟨q63_, b62_⟩ : (Int32.toInt ((M.1 128 (Int32.toNatClampNeg n3)) - n2) = Int32.toInt (M.1 128 (Int32.toNatClampNeg n3)) - Int32.toInt n2) ∧ ((-2) ≤ Int32.toInt ((M.1 128 (Int32.toNatClampNeg n3)) - n2) ∧ Int32.toInt ((M.1 128 (Int32.toNatClampNeg n3)) - n2) ≤ 4) := zsub_r (M.1 128 (Int32.toNatClampNeg n3)) n2 (-2) 4 b59_ b60_ (by decide) (by decide) (by decide) (by decide)
      have b64_ : 1 ≤ Int32.toInt ((M.1 128 (Int32.toNatClampNeg n3)) - n2) ∧ Int32.toInt ((M.1 128 (Int32.toNatClampNeg n3)) - n2) ≤ 4 := (by have u0 := b62_; omega)
      show PW 95 d (29, [some (pvR 124), some (pvI n1), some (pvI n2), some (pvI n3)], [pvI ((M.1 128 (Int32.toNatClampNeg n3)) - n2), pvI (x1_ * ((M.1 127 (Int32.toNatClampNeg n3)) - n1))], M) _
      obtain ⟨q66_, b65_⟩ : (Int32.toInt ((x1_ * ((M.1 127 (Int32.toNatClampNeg n3)) - n1)) + ((M.1 128 (Int32.toNatClampNeg n3)) - n2)) = Int32.toInt (x1_ * ((M.1 127 (Int32.toNatClampNeg n3)) - n1)) + Int32.toInt ((M.1 128 (Int32.toNatClampNeg n3)) - n2)) ∧ (1 ≤ Int32.toInt ((x1_ * ((M.1 127 (Int32.toNatClampNeg n3)) - n1)) + ((M.1 128 (Int32.toNatClampNeg n3)) - n2)) ∧ Int32.toInt ((x1_ * ((M.1 127 (Int32.toNatClampNeg n3)) - n1)) + ((M.1 128 (Int32.toNatClampNeg n3)) - n2)) ≤ 301) := zadd_r (x1_ * ((M.1 127 (Int32.toNatClampNeg n3)) - n1)) ((M.1 128 (Int32.toNatClampNeg n3)) - n2) 1 301 b45_ b64_ (by decide) (by decide) (by decide) (by decide)
      refine pw_blk hT 1 (S' := (30, [some (pvR 124), some (pvI n1), some (pvI n2), some (pvI n3)], [pvI ((x1_ * ((M.1 127 (Int32.toNatClampNeg n3)) - n1)) + ((M.1 128 (Int32.toNatClampNeg n3)) - n2))], M)) rfl ⟨trivial, trivial⟩ ?_
      exact pw_ret hT rfl (r := some (pvI ((x1_ * ((M.1 127 (Int32.toNatClampNeg n3)) - n1)) + ((M.1 128 (Int32.toNatClampNeg n3)) - n2)))) (M' := M) ⟨rfl, rfl⟩ ⟨⟨_, rfl, (zr_wide b65_ (by decide) (by decide))⟩, rfl⟩
set_option maxHeartbeats 4000000 in
set_option maxRecDepth 10000 in
theorem sf_X10_shutting_124_x (M : pvM) (hok : pvOk M) (n1 : Int32) (hn1 : 0 ≤ Int32.toInt n1 ∧ Int32.toInt n1 ≤ 6) (d : Nat) : PW 76 d (0, [some (pvR 124), some (pvI n1)], [], M) (fun r X => r = some (pvI ((if (M.1 125 (Int32.toNatClampNeg n1)) = 1 then (2 * (M.1 129 (Int32.toNatClampNeg n1))) else (if (M.1 125 (Int32.toNatClampNeg n1)) = 4 then (2 * (M.1 129 (Int32.toNatClampNeg n1))) else (M.1 129 (Int32.toNatClampNeg n1)))))) ∧ X = M) := by
  have hT : pvdom 76 = pvD_76 := rfl
  have b1_ : 0 ≤ Int32.toInt (M.1 125 (Int32.toNatClampNeg n1)) ∧ Int32.toInt (M.1 125 (Int32.toNatClampNeg n1)) ≤ 6 := pvok_r hok 125 (Int32.toNatClampNeg n1) rfl
  refine pw_blk hT 5 (S' := (7, [some (pvR 124), some (pvI n1)], [pvI 1, pvI (M.1 125 (Int32.toNatClampNeg n1))], M)) rfl ⟨trivial, rfl, trivial, ⟨rfl, (zr_in (n := 7) hn1 (by decide) (by decide))⟩, trivial, trivial⟩ ?_
  refine pw_ic hT (c := (M.1 125 (Int32.toNatClampNeg n1)) = 1) rfl rfl (fun c2_ => ?_) (fun c2_ => ?_)
  · have b3_ : 1 ≤ Int32.toInt (M.1 125 (Int32.toNatClampNeg n1)) ∧ Int32.toInt (M.1 125 (Int32.toNatClampNeg n1)) ≤ 1 := (by have u0 := b1_; have u1 := (zi_eq _ _).mp c2_; have u2 := (show 1 ≤ Int32.toInt 1 ∧ Int32.toInt 1 ≤ 1 from (by decide)); omega)
    have b4_ : 0 ≤ Int32.toInt (M.1 129 (Int32.toNatClampNeg n1)) ∧ Int32.toInt (M.1 129 (Int32.toNatClampNeg n1)) ≤ 9 := pvok_r hok 129 (Int32.toNatClampNeg n1) rfl
    have q5_ : Int32.toInt (2 * (M.1 129 (Int32.toNatClampNeg n1))) = 2 * Int32.toInt (M.1 129 (Int32.toNatClampNeg n1)) := by have u0 : Int32.toInt 2 = 2 := (by decide); have u1 := b4_; have u2 := zmul 2 (M.1 129 (Int32.toNatClampNeg n1)) (by rw [u0]; omega) (by rw [u0]; omega); rw [u0] at u2; omega
    have b6_ : 0 ≤ Int32.toInt (2 * (M.1 129 (Int32.toNatClampNeg n1))) ∧ Int32.toInt (2 * (M.1 129 (Int32.toNatClampNeg n1))) ≤ 18 := (by have u1 := b4_; omega)
    refine pw_blk hT 7 (S' := (37, [some (pvR 124), some (pvI n1)], [pvI (2 * (M.1 129 (Int32.toNatClampNeg n1)))], M)) rfl ⟨trivial, trivial, rfl, trivial, ⟨rfl, (zr_in (n := 7) hn1 (by decide) (by decide))⟩, trivial, trivial, trivial⟩ ?_
    exact pw_ret hT rfl (r := some (pvI (2 * (M.1 129 (Int32.toNatClampNeg n1))))) (M' := M) ⟨rfl, rfl⟩ ⟨(by rw [if_pos c2_]), rfl⟩
  · refine pw_blk hT 5 (S' := (17, [some (pvR 124), some (pvI n1)], [pvI 4, pvI (M.1 125 (Int32.toNatClampNeg n1))], M)) rfl ⟨trivial, rfl, trivial, ⟨rfl, (zr_in (n := 7) hn1 (by decide) (by decide))⟩, trivial, trivial⟩ ?_
    refine pw_icn hT (c := (M.1 125 (Int32.toNatClampNeg n1)) = 4) rfl rfl (fun c7_ => ?_) (fun c7_ => ?_)
    · have b8_ : 0 ≤ Int32.toInt (M.1 129 (Int32.toNatClampNeg n1)) ∧ Int32.toInt (M.1 129 (Int32.toNatClampNeg n1)) ≤ 9 := pvok_r hok 129 (Int32.toNatClampNeg n1) rfl
      refine pw_blk hT 4 (S' := (37, [some (pvR 124), some (pvI n1)], [pvI (M.1 129 (Int32.toNatClampNeg n1))], M)) rfl ⟨trivial, rfl, trivial, ⟨rfl, (zr_in (n := 7) hn1 (by decide) (by decide))⟩, trivial⟩ ?_
      exact pw_ret hT rfl (r := some (pvI (M.1 129 (Int32.toNatClampNeg n1)))) (M' := M) ⟨rfl, rfl⟩ ⟨(by rw [if_neg c2_, if_neg c7_]), rfl⟩
    · have b9_ : 4 ≤ Int32.toInt (M.1 125 (Int32.toNatClampNeg n1)) ∧ Int32.toInt (M.1 125 (Int32.toNatClampNeg n1)) ≤ 4 := (by have u0 := b1_; have u1 := (zi_eq _ _).mp c7_; have u2 := (show 4 ≤ Int32.toInt 4 ∧ Int32.toInt 4 ≤ 4 from (by decide)); omega)
      have b10_ : 0 ≤ Int32.toInt (M.1 129 (Int32.toNatClampNeg n1)) ∧ Int32.toInt (M.1 129 (Int32.toNatClampNeg n1)) ≤ 9 := pvok_r hok 129 (Int32.toNatClampNeg n1) rfl
      have q11_ : Int32.toInt (2 * (M.1 129 (Int32.toNatClampNeg n1))) = 2 * Int32.toInt (M.1 129 (Int32.toNatClampNeg n1)) := by have u0 : Int32.toInt 2 = 2 := (by decide); have u1 := b10_; have u2 := zmul 2 (M.1 129 (Int32.toNatClampNeg n1)) (by rw [u0]; omega) (by rw [u0]; omega); rw [u0] at u2; omega
      have b12_ : 0 ≤ Int32.toInt (2 * (M.1 129 (Int32.toNatClampNeg n1))) ∧ Int32.toInt (2 * (M.1 129 (Int32.toNatClampNeg n1))) ≤ 18 := (by have u1 := b10_; omega)
      refine pw_blk hT 7 (S' := (37, [some (pvR 124), some (pvI n1)], [pvI (2 * (M.1 129 (Int32.toNatClampNeg n1)))], M)) rfl ⟨trivial, trivial, rfl, trivial, ⟨rfl, (zr_in (n := 7) hn1 (by decide) (by decide))⟩, trivial, trivial, trivial⟩ ?_
      exact pw_ret hT rfl (r := some (pvI (2 * (M.1 129 (Int32.toNatClampNeg n1))))) (M' := M) ⟨rfl, rfl⟩ ⟨(by rw [if_neg c2_, if_pos c7_]), rfl⟩
def fpL_X10_goes_124_x_x_x : List (Nat × Nat × Nat) := [(0, 143, 0)]
def fp_X10_goes_124_x_x_x (q k : Nat) : Bool := pvfp fpL_X10_goes_124_x_x_x q k
set_option maxHeartbeats 4000000 in
set_option maxRecDepth 10000 in
theorem sf_X10_goes_124_x_x_x (M : pvM) (hok : pvOk M) (n1 : Int32) (n2 : Int32) (n3 : Int32) (hn1 : 0 ≤ Int32.toInt n1 ∧ Int32.toInt n1 ≤ 7) (hn2 : 0 ≤ Int32.toInt n2 ∧ Int32.toInt n2 ≤ 7) (hn3 : 0 ≤ Int32.toInt n3 ∧ Int32.toInt n3 ≤ 60000) (d : Nat) : PW 24 d (0, [some (pvR 124), some (pvI n1), some (pvI n2), some (pvI n3), none, none, none, none, none], [], M) (fun r X => (∃ x : Int32, r = some (pvI x) ∧ 0 ≤ Int32.toInt x ∧ Int32.toInt x ≤ 64000) ∧ pvOk X ∧ pvFr fp_X10_goes_124_x_x_x M X) := by
  have hT : pvdom 24 = pvD_24 := rfl
  have b1_ : 0 ≤ Int32.toInt (M.1 124 5) ∧ Int32.toInt (M.1 124 5) ≤ 3 := pvok_r hok 124 5 rfl
  have b2_ : 0 ≤ Int32.toInt (M.1 124 6) ∧ Int32.toInt (M.1 124 6) ≤ 4 := pvok_r hok 124 6 rfl
  refine pw_blk hT 10 (S' := (18, [some (pvR 124), some (pvI n1), some (pvI n2), some (pvI n3), some (pvI n3), some (pvI (M.1 124 5)), some (pvI (M.1 124 6)), some (pvI n1), none], [], M)) rfl ⟨trivial, trivial, trivial, rfl, trivial, trivial, rfl, trivial, trivial, trivial, trivial⟩ ?_
  have hlz281_ : ∀ (nz281_ : Nat) (i4z281_ : Int32) (i5z281_ : Int32) (i6z281_ : Int32) (i7z281_ : Int32) (v8z281_ : Option pvV) (Mz281_ : pvM), (pvOk Mz281_) → (pvFr fp_X10_goes_124_x_x_x M Mz281_) → (0 ≤ Int32.toInt i4z281_ ∧ Int32.toInt i4z281_ ≤ 64000) → (0 ≤ Int32.toInt i5z281_ ∧ Int32.toInt i5z281_ ≤ 3) → (0 ≤ Int32.toInt i6z281_ ∧ Int32.toInt i6z281_ ≤ 4) → (0 ≤ Int32.toInt i7z281_ ∧ Int32.toInt i7z281_ ≤ 7) → (Int32.toInt i4z281_ ≤ 60000 + 320 * Int32.toInt i7z281_) → (0 ≤ Int32.toInt i4z281_) → (zhide ((8 - Int32.toInt i7z281_).toNat < nz281_)) → PW 24 d (18, [some (pvR 124), some (pvI n1), some (pvI n2), some (pvI n3), some (pvI i4z281_), some (pvI i5z281_), some (pvI i6z281_), some (pvI i7z281_), v8z281_], [], Mz281_) (fun r X => (∃ x : Int32, r = some (pvI x) ∧ 0 ≤ Int32.toInt x ∧ Int32.toInt x ≤ 64000) ∧ pvOk X ∧ pvFr fp_X10_goes_124_x_x_x M X) := by
    intro nz281_
    induction nz281_ with
    | zero => intro i4z281_ i5z281_ i6z281_ i7z281_ v8z281_ Mz281_ oz281_ fz281_ h4z281_ h5z281_ h6z281_ h7z281_ j0z281_ j1z281_ hmz281_; exact absurd (zshow hmz281_) (Nat.not_lt_zero _)
    | succ nz281_ ihz281_ =>
      intro i4z281_ i5z281_ i6z281_ i7z281_ v8z281_ Mz281_ oz281_ fz281_ h4z281_ h5z281_ h6z281_ h7z281_ j0z281_ j1z281_ hmz281_
      refine pw_blk hT 2 (S' := (21, [some (pvR 124), some (pvI n1), some (pvI n2), some (pvI n3), some (pvI i4z281_), some (pvI i5z281_), some (pvI i6z281_), some (pvI i7z281_), v8z281_], [pvI n2, pvI i7z281_], Mz281_)) rfl ⟨trivial, trivial, trivial⟩ ?_
      refine pw_ic hT (c := n2 ≤ i7z281_) rfl rfl (fun c282_ => ?_) (fun c282_ => ?_)
      · have d283_ : Int32.toInt n2 ≤ Int32.toInt i7z281_ := (zi_le _ _).mp c282_
        refine pw_blk hT 1 (S' := (103, [some (pvR 124), some (pvI n1), some (pvI n2), some (pvI n3), some (pvI i4z281_), some (pvI i5z281_), some (pvI i6z281_), some (pvI i7z281_), v8z281_], [pvI i4z281_], Mz281_)) rfl ⟨trivial, trivial⟩ ?_
        exact pw_ret hT rfl (r := some (pvI i4z281_)) (M' := Mz281_) ⟨rfl, rfl⟩ ⟨⟨_, rfl, h4z281_⟩, oz281_, fz281_⟩
      · have b284_ : 1 ≤ Int32.toInt n2 ∧ Int32.toInt n2 ≤ 7 := zr_nle_l 1 c282_ hn2 h7z281_ (by decide)
        have b285_ : 0 ≤ Int32.toInt i7z281_ ∧ Int32.toInt i7z281_ ≤ 6 := zr_nle_r 6 c282_ h7z281_ b284_ (by decide)
        have d286_ : Int32.toInt n2 > Int32.toInt i7z281_ := Int.not_le.mp ((not_congr (zi_le _ _)).mp c282_)
        have b287_ : 0 ≤ Int32.toInt (Mz281_.1 144 (Int32.toNatClampNeg i7z281_)) ∧ Int32.toInt (Mz281_.1 144 (Int32.toNatClampNeg i7z281_)) ≤ 6 := pvok_r oz281_ 144 (Int32.toNatClampNeg i7z281_) rfl
        have b288_ : 0 ≤ Int32.toInt (Mz281_.1 131 (Int32.toNatClampNeg (Mz281_.1 144 (Int32.toNatClampNeg i7z281_)))) ∧ Int32.toInt (Mz281_.1 131 (Int32.toNatClampNeg (Mz281_.1 144 (Int32.toNatClampNeg i7z281_)))) ≤ 1 := pvok_r oz281_ 131 (Int32.toNatClampNeg (Mz281_.1 144 (Int32.toNatClampNeg i7z281_))) rfl
        refine pw_blk hT 9 (S' := (40, [some (pvR 124), some (pvI n1), some (pvI n2), some (pvI n3), some (pvI i4z281_), some (pvI i5z281_), some (pvI i6z281_), some (pvI i7z281_), some (pvI (Mz281_.1 144 (Int32.toNatClampNeg i7z281_)))], [pvI (Mz281_.1 131 (Int32.toNatClampNeg (Mz281_.1 144 (Int32.toNatClampNeg i7z281_))))], Mz281_)) rfl ⟨trivial, rfl, trivial, ⟨rfl, (zr_in (n := 7) b285_ (by decide) (by decide))⟩, trivial, trivial, rfl, trivial, ⟨rfl, (zr_in (n := 7) b287_ (by decide) (by decide))⟩, trivial⟩ ?_
        refine pw_if hT (c := (Mz281_.1 131 (Int32.toNatClampNeg (Mz281_.1 144 (Int32.toNatClampNeg i7z281_)))) = 0) rfl rfl (fun c289_ => ?_) (fun c289_ => ?_)
        · have b290_ : 0 ≤ Int32.toInt (Mz281_.1 131 (Int32.toNatClampNeg (Mz281_.1 144 (Int32.toNatClampNeg i7z281_)))) ∧ Int32.toInt (Mz281_.1 131 (Int32.toNatClampNeg (Mz281_.1 144 (Int32.toNatClampNeg i7z281_)))) ≤ 0 := (by have u0 := b288_; have u1 := (zi_eq _ _).mp c289_; have u2 := (show 0 ≤ Int32.toInt 0 ∧ Int32.toInt 0 ≤ 0 from (by decide)); omega)
          refine pw_blk hT 5 (S' := (55, [some (pvR 124), some (pvI n1), some (pvI n2), some (pvI n3), some (pvI i4z281_), some (pvI i5z281_), some (pvI i6z281_), some (pvI i7z281_), some (pvI (Mz281_.1 144 (Int32.toNatClampNeg i7z281_)))], [pvI (Mz281_.1 144 (Int32.toNatClampNeg i7z281_)), pvI i6z281_, pvI i5z281_, pvR 124, pvI i4z281_], Mz281_)) rfl ⟨trivial, trivial, trivial, trivial, trivial, trivial⟩ ?_
          refine pw_callGp hT (as := [pvR 124, pvI i5z281_, pvI i6z281_, pvI (Mz281_.1 144 (Int32.toNatClampNeg i7z281_))]) (lo1 := [some (pvR 124), some (pvI i5z281_), some (pvI i6z281_), some (pvI (Mz281_.1 144 (Int32.toNatClampNeg i7z281_)))]) (d1 := d) (rest := [pvI i4z281_]) rfl rfl rfl rfl rfl (fun _ => rfl) (Nat.zero_le _) rfl rfl rfl (sf_X10_way_124_x_x_x Mz281_ oz281_ i5z281_ i6z281_ (Mz281_.1 144 (Int32.toNatClampNeg i7z281_)) h5z281_ h6z281_ b287_ d) (fun x291_ b293_ => ?_)
          refine pw_blk hT 2 (S' := (61, [some (pvR 124), some (pvI n1), some (pvI n2), some (pvI n3), some (pvI i4z281_), some (pvI i5z281_), some (pvI i6z281_), some (pvI i7z281_), some (pvI (Mz281_.1 144 (Int32.toNatClampNeg i7z281_)))], [pvI (Mz281_.1 144 (Int32.toNatClampNeg i7z281_)), pvR 124, pvI x291_, pvI i4z281_], Mz281_)) rfl ⟨trivial, trivial, trivial⟩ ?_
          refine pw_callT hT (as := [pvR 124, pvI (Mz281_.1 144 (Int32.toNatClampNeg i7z281_))]) (lo1 := [some (pvR 124), some (pvI (Mz281_.1 144 (Int32.toNatClampNeg i7z281_)))]) (d1 := d) (rest := [pvI x291_, pvI i4z281_]) rfl rfl rfl rfl rfl (fun _ => rfl) (Nat.zero_le _) rfl rfl rfl (sf_X10_shutting_124_x Mz281_ oz281_ (Mz281_.1 144 (Int32.toNatClampNeg i7z281_)) b287_ d) ?_
          have b301_ : 0 ≤ Int32.toInt (Mz281_.1 125 (Int32.toNatClampNeg (Mz281_.1 144 (Int32.toNatClampNeg i7z281_)))) ∧ Int32.toInt (Mz281_.1 125 (Int32.toNatClampNeg (Mz281_.1 144 (Int32.toNatClampNeg i7z281_)))) ≤ 6 := pvok_r oz281_ 125 (Int32.toNatClampNeg (Mz281_.1 144 (Int32.toNatClampNeg i7z281_))) rfl
          by_cases c302_ : (Mz281_.1 125 (Int32.toNatClampNeg (Mz281_.1 144 (Int32.toNatClampNeg i7z281_)))) = 1
          · refine pw_eqI (if_pos c302_) ?_
            have b303_ : 1 ≤ Int32.toInt (Mz281_.1 125 (Int32.toNatClampNeg (Mz281_.1 144 (Int32.toNatClampNeg i7z281_)))) ∧ Int32.toInt (Mz281_.1 125 (Int32.toNatClampNeg (Mz281_.1 144 (Int32.toNatClampNeg i7z281_)))) ≤ 1 := (by have u0 := b301_; have u1 := (zi_eq _ _).mp c302_; have u2 := (show 1 ≤ Int32.toInt 1 ∧ Int32.toInt 1 ≤ 1 from (by decide)); omega)
            have b304_ : 0 ≤ Int32.toInt (Mz281_.1 129 (Int32.toNatClampNeg (Mz281_.1 144 (Int32.toNatClampNeg i7z281_)))) ∧ Int32.toInt (Mz281_.1 129 (Int32.toNatClampNeg (Mz281_.1 144 (Int32.toNatClampNeg i7z281_)))) ≤ 9 := pvok_r oz281_ 129 (Int32.toNatClampNeg (Mz281_.1 144 (Int32.toNatClampNeg i7z281_))) rfl
            have q305_ : Int32.toInt (2 * (Mz281_.1 129 (Int32.toNatClampNeg (Mz281_.1 144 (Int32.toNatClampNeg i7z281_))))) = 2 * Int32.toInt (Mz281_.1 129 (Int32.toNatClampNeg (Mz281_.1 144 (Int32.toNatClampNeg i7z281_)))) := by have u0 : Int32.toInt 2 = 2 := (by decide); have u1 := b304_; have u2 := zmul 2 (Mz281_.1 129 (Int32.toNatClampNeg (Mz281_.1 144 (Int32.toNatClampNeg i7z281_)))) (by rw [u0]; omega) (by rw [u0]; omega); rw [u0] at u2; omega
            have b306_ : 0 ≤ Int32.toInt (2 * (Mz281_.1 129 (Int32.toNatClampNeg (Mz281_.1 144 (Int32.toNatClampNeg i7z281_))))) ∧ Int32.toInt (2 * (Mz281_.1 129 (Int32.toNatClampNeg (Mz281_.1 144 (Int32.toNatClampNeg i7z281_))))) ≤ 18 := (by have u1 := b304_; omega)
            show PW 24 d (64, [some (pvR 124), some (pvI n1), some (pvI n2), some (pvI n3), some (pvI i4z281_), some (pvI i5z281_), some (pvI i6z281_), some (pvI i7z281_), some (pvI (Mz281_.1 144 (Int32.toNatClampNeg i7z281_)))], [pvI (2 * (Mz281_.1 129 (Int32.toNatClampNeg (Mz281_.1 144 (Int32.toNatClampNeg i7z281_))))), pvI x291_, pvI i4z281_], Mz281_) _
            obtain ⟨q308_, b307_⟩ : (Int32.toInt (x291_ + (2 * (Mz281_.1 129 (Int32.toNatClampNeg (Mz281_.1 144 (Int32.toNatClampNeg i7z281_)))))) = Int32.toInt x291_ + Int32.toInt (2 * (Mz281_.1 129 (Int32.toNatClampNeg (Mz281_.1 144 (Int32.toNatClampNeg i7z281_)))))) ∧ (0 ≤ Int32.toInt (x291_ + (2 * (Mz281_.1 129 (Int32.toNatClampNeg (Mz281_.1 144 (Int32.toNatClampNeg i7z281_)))))) ∧ Int32.toInt (x291_ + (2 * (Mz281_.1 129 (Int32.toNatClampNeg (Mz281_.1 144 (Int32.toNatClampNeg i7z281_)))))) ≤ 319) := zadd_r x291_ (2 * (Mz281_.1 129 (Int32.toNatClampNeg (Mz281_.1 144 (Int32.toNatClampNeg i7z281_))))) 0 319 b293_ b306_ (by decide) (by decide) (by decide) (by decide)
            obtain ⟨q310_, b309_⟩ : (Int32.toInt (i4z281_ + (x291_ + (2 * (Mz281_.1 129 (Int32.toNatClampNeg (Mz281_.1 144 (Int32.toNatClampNeg i7z281_))))))) = Int32.toInt i4z281_ + Int32.toInt (x291_ + (2 * (Mz281_.1 129 (Int32.toNatClampNeg (Mz281_.1 144 (Int32.toNatClampNeg i7z281_))))))) ∧ (0 ≤ Int32.toInt (i4z281_ + (x291_ + (2 * (Mz281_.1 129 (Int32.toNatClampNeg (Mz281_.1 144 (Int32.toNatClampNeg i7z281_))))))) ∧ Int32.toInt (i4z281_ + (x291_ + (2 * (Mz281_.1 129 (Int32.toNatClampNeg (Mz281_.1 144 (Int32.toNatClampNeg i7z281_))))))) ≤ 64319) := zadd_r i4z281_ (x291_ + (2 * (Mz281_.1 129 (Int32.toNatClampNeg (Mz281_.1 144 (Int32.toNatClampNeg i7z281_)))))) 0 64319 h4z281_ b307_ (by decide) (by decide) (by decide) (by decide)
            refine pw_blkw hT 8 (pc := 77) (lo := [some (pvR 124), some (pvI n1), some (pvI n2), some (pvI n3), some (pvI (i4z281_ + (x291_ + (2 * (Mz281_.1 129 (Int32.toNatClampNeg (Mz281_.1 144 (Int32.toNatClampNeg i7z281_)))))))), some (pvI i5z281_), some (pvI i6z281_), some (pvI i7z281_), some (pvI (Mz281_.1 144 (Int32.toNatClampNeg i7z281_)))]) (st := []) (M := pvu Mz281_ 143 (Int32.toNatClampNeg (Mz281_.1 144 (Int32.toNatClampNeg i7z281_))) (i4z281_ + (x291_ + (2 * (Mz281_.1 129 (Int32.toNatClampNeg (Mz281_.1 144 (Int32.toNatClampNeg i7z281_)))))))) rfl ⟨trivial, trivial, trivial, trivial, rfl, trivial, trivial, ⟨rfl, (zr_in (n := 7) b287_ (by decide) (by decide))⟩, trivial⟩ (fun M311_ e312_ => ?_)
            have o313_ : pvOk M311_ := pvok_u2 e312_ oz281_ rfl (zr_wide b309_ (by decide) (by decide))
            have f314_ : pvFr fp_X10_goes_124_x_x_x M M311_ := pvfr_u e312_ fz281_ rfl
            have b315_ : 0 ≤ Int32.toInt (M311_.1 127 (Int32.toNatClampNeg (Mz281_.1 144 (Int32.toNatClampNeg i7z281_)))) ∧ Int32.toInt (M311_.1 127 (Int32.toNatClampNeg (Mz281_.1 144 (Int32.toNatClampNeg i7z281_)))) ≤ 3 := pvok_r o313_ 127 (Int32.toNatClampNeg (Mz281_.1 144 (Int32.toNatClampNeg i7z281_))) rfl
            have b316_ : 0 ≤ Int32.toInt (M311_.1 128 (Int32.toNatClampNeg (Mz281_.1 144 (Int32.toNatClampNeg i7z281_)))) ∧ Int32.toInt (M311_.1 128 (Int32.toNatClampNeg (Mz281_.1 144 (Int32.toNatClampNeg i7z281_)))) ≤ 4 := pvok_r o313_ 128 (Int32.toNatClampNeg (Mz281_.1 144 (Int32.toNatClampNeg i7z281_))) rfl
            obtain ⟨q318_, b317_⟩ : (Int32.toInt (i7z281_ + 1) = Int32.toInt i7z281_ + 1) ∧ (1 ≤ Int32.toInt (i7z281_ + 1) ∧ Int32.toInt (i7z281_ + 1) ≤ 7) := zadd_k i7z281_ 1 1 1 7 b285_ (by decide) (by decide) (by decide) (by decide) (by decide)
            refine pw_blk hT 12 (S' := (18, [some (pvR 124), some (pvI n1), some (pvI n2), some (pvI n3), some (pvI (i4z281_ + (x291_ + (2 * (Mz281_.1 129 (Int32.toNatClampNeg (Mz281_.1 144 (Int32.toNatClampNeg i7z281_)))))))), some (pvI (M311_.1 127 (Int32.toNatClampNeg (Mz281_.1 144 (Int32.toNatClampNeg i7z281_))))), some (pvI (M311_.1 128 (Int32.toNatClampNeg (Mz281_.1 144 (Int32.toNatClampNeg i7z281_))))), some (pvI (i7z281_ + 1)), some (pvI (Mz281_.1 144 (Int32.toNatClampNeg i7z281_)))], [], M311_)) rfl ⟨trivial, rfl, trivial, ⟨rfl, (zr_in (n := 7) b287_ (by decide) (by decide))⟩, trivial, trivial, rfl, trivial, ⟨rfl, (zr_in (n := 7) b287_ (by decide) (by decide))⟩, trivial, trivial, trivial, trivial⟩ ?_
            have j319_ : Int32.toInt (i4z281_ + (x291_ + (2 * (Mz281_.1 129 (Int32.toNatClampNeg (Mz281_.1 144 (Int32.toNatClampNeg i7z281_))))))) ≤ 60000 + 320 * Int32.toInt (i7z281_ + 1) := by omega
            have j320_ : 0 ≤ Int32.toInt (i4z281_ + (x291_ + (2 * (Mz281_.1 129 (Int32.toNatClampNeg (Mz281_.1 144 (Int32.toNatClampNeg i7z281_))))))) := by omega
            exact ihz281_ (i4z281_ + (x291_ + (2 * (Mz281_.1 129 (Int32.toNatClampNeg (Mz281_.1 144 (Int32.toNatClampNeg i7z281_))))))) (M311_.1 127 (Int32.toNatClampNeg (Mz281_.1 144 (Int32.toNatClampNeg i7z281_)))) (M311_.1 128 (Int32.toNatClampNeg (Mz281_.1 144 (Int32.toNatClampNeg i7z281_)))) (i7z281_ + 1) (some (pvI (Mz281_.1 144 (Int32.toNatClampNeg i7z281_)))) M311_ o313_ f314_ (by have u0 := b309_; omega) b315_ b316_ (zr_wide b317_ (by decide) (by decide)) j319_ j320_ (zhid (pvms_up (zshow hmz281_) h7z281_ q318_ (by decide) (by decide)))
          · refine pw_eqI (if_neg c302_) ?_
            by_cases c321_ : (Mz281_.1 125 (Int32.toNatClampNeg (Mz281_.1 144 (Int32.toNatClampNeg i7z281_)))) = 4
            · refine pw_eqI (if_pos c321_) ?_
              have b322_ : 4 ≤ Int32.toInt (Mz281_.1 125 (Int32.toNatClampNeg (Mz281_.1 144 (Int32.toNatClampNeg i7z281_)))) ∧ Int32.toInt (Mz281_.1 125 (Int32.toNatClampNeg (Mz281_.1 144 (Int32.toNatClampNeg i7z281_)))) ≤ 4 := (by have u0 := b301_; have u1 := (zi_eq _ _).mp c321_; have u2 := (show 4 ≤ Int32.toInt 4 ∧ Int32.toInt 4 ≤ 4 from (by decide)); omega)
              have b323_ : 0 ≤ Int32.toInt (Mz281_.1 129 (Int32.toNatClampNeg (Mz281_.1 144 (Int32.toNatClampNeg i7z281_)))) ∧ Int32.toInt (Mz281_.1 129 (Int32.toNatClampNeg (Mz281_.1 144 (Int32.toNatClampNeg i7z281_)))) ≤ 9 := pvok_r oz281_ 129 (Int32.toNatClampNeg (Mz281_.1 144 (Int32.toNatClampNeg i7z281_))) rfl
              have q324_ : Int32.toInt (2 * (Mz281_.1 129 (Int32.toNatClampNeg (Mz281_.1 144 (Int32.toNatClampNeg i7z281_))))) = 2 * Int32.toInt (Mz281_.1 129 (Int32.toNatClampNeg (Mz281_.1 144 (Int32.toNatClampNeg i7z281_)))) := by have u0 : Int32.toInt 2 = 2 := (by decide); have u1 := b323_; have u2 := zmul 2 (Mz281_.1 129 (Int32.toNatClampNeg (Mz281_.1 144 (Int32.toNatClampNeg i7z281_)))) (by rw [u0]; omega) (by rw [u0]; omega); rw [u0] at u2; omega
              have b325_ : 0 ≤ Int32.toInt (2 * (Mz281_.1 129 (Int32.toNatClampNeg (Mz281_.1 144 (Int32.toNatClampNeg i7z281_))))) ∧ Int32.toInt (2 * (Mz281_.1 129 (Int32.toNatClampNeg (Mz281_.1 144 (Int32.toNatClampNeg i7z281_))))) ≤ 18 := (by have u1 := b323_; omega)
              show PW 24 d (64, [some (pvR 124), some (pvI n1), some (pvI n2), some (pvI n3), some (pvI i4z281_), some (pvI i5z281_), some (pvI i6z281_), some (pvI i7z281_), some (pvI (Mz281_.1 144 (Int32.toNatClampNeg i7z281_)))], [pvI (2 * (Mz281_.1 129 (Int32.toNatClampNeg (Mz281_.1 144 (Int32.toNatClampNeg i7z281_))))), pvI x291_, pvI i4z281_], Mz281_) _
              obtain ⟨q327_, b326_⟩ : (Int32.toInt (x291_ + (2 * (Mz281_.1 129 (Int32.toNatClampNeg (Mz281_.1 144 (Int32.toNatClampNeg i7z281_)))))) = Int32.toInt x291_ + Int32.toInt (2 * (Mz281_.1 129 (Int32.toNatClampNeg (Mz281_.1 144 (Int32.toNatClampNeg i7z281_)))))) ∧ (0 ≤ Int32.toInt (x291_ + (2 * (Mz281_.1 129 (Int32.toNatClampNeg (Mz281_.1 144 (Int32.toNatClampNeg i7z281_)))))) ∧ Int32.toInt (x291_ + (2 * (Mz281_.1 129 (Int32.toNatClampNeg (Mz281_.1 144 (Int32.toNatClampNeg i7z281_)))))) ≤ 319) := zadd_r x291_ (2 * (Mz281_.1 129 (Int32.toNatClampNeg (Mz281_.1 144 (Int32.toNatClampNeg i7z281_))))) 0 319 b293_ b325_ (by decide) (by decide) (by decide) (by decide)
              obtain ⟨q329_, b328_⟩ : (Int32.toInt (i4z281_ + (x291_ + (2 * (Mz281_.1 129 (Int32.toNatClampNeg (Mz281_.1 144 (Int32.toNatClampNeg i7z281_))))))) = Int32.toInt i4z281_ + Int32.toInt (x291_ + (2 * (Mz281_.1 129 (Int32.toNatClampNeg (Mz281_.1 144 (Int32.toNatClampNeg i7z281_))))))) ∧ (0 ≤ Int32.toInt (i4z281_ + (x291_ + (2 * (Mz281_.1 129 (Int32.toNatClampNeg (Mz281_.1 144 (Int32.toNatClampNeg i7z281_))))))) ∧ Int32.toInt (i4z281_ + (x291_ + (2 * (Mz281_.1 129 (Int32.toNatClampNeg (Mz281_.1 144 (Int32.toNatClampNeg i7z281_))))))) ≤ 64319) := zadd_r i4z281_ (x291_ + (2 * (Mz281_.1 129 (Int32.toNatClampNeg (Mz281_.1 144 (Int32.toNatClampNeg i7z281_)))))) 0 64319 h4z281_ b326_ (by decide) (by decide) (by decide) (by decide)
              refine pw_blkw hT 8 (pc := 77) (lo := [some (pvR 124), some (pvI n1), some (pvI n2), some (pvI n3), some (pvI (i4z281_ + (x291_ + (2 * (Mz281_.1 129 (Int32.toNatClampNeg (Mz281_.1 144 (Int32.toNatClampNeg i7z281_)))))))), some (pvI i5z281_), some (pvI i6z281_), some (pvI i7z281_), some (pvI (Mz281_.1 144 (Int32.toNatClampNeg i7z281_)))]) (st := []) (M := pvu Mz281_ 143 (Int32.toNatClampNeg (Mz281_.1 144 (Int32.toNatClampNeg i7z281_))) (i4z281_ + (x291_ + (2 * (Mz281_.1 129 (Int32.toNatClampNeg (Mz281_.1 144 (Int32.toNatClampNeg i7z281_)))))))) rfl ⟨trivial, trivial, trivial, trivial, rfl, trivial, trivial, ⟨rfl, (zr_in (n := 7) b287_ (by decide) (by decide))⟩, trivial⟩ (fun M330_ e331_ => ?_)
              have o332_ : pvOk M330_ := pvok_u2 e331_ oz281_ rfl (zr_wide b328_ (by decide) (by decide))
              have f333_ : pvFr fp_X10_goes_124_x_x_x M M330_ := pvfr_u e331_ fz281_ rfl
              have b334_ : 0 ≤ Int32.toInt (M330_.1 127 (Int32.toNatClampNeg (Mz281_.1 144 (Int32.toNatClampNeg i7z281_)))) ∧ Int32.toInt (M330_.1 127 (Int32.toNatClampNeg (Mz281_.1 144 (Int32.toNatClampNeg i7z281_)))) ≤ 3 := pvok_r o332_ 127 (Int32.toNatClampNeg (Mz281_.1 144 (Int32.toNatClampNeg i7z281_))) rfl
              have b335_ : 0 ≤ Int32.toInt (M330_.1 128 (Int32.toNatClampNeg (Mz281_.1 144 (Int32.toNatClampNeg i7z281_)))) ∧ Int32.toInt (M330_.1 128 (Int32.toNatClampNeg (Mz281_.1 144 (Int32.toNatClampNeg i7z281_)))) ≤ 4 := pvok_r o332_ 128 (Int32.toNatClampNeg (Mz281_.1 144 (Int32.toNatClampNeg i7z281_))) rfl
              obtain ⟨q337_, b336_⟩ : (Int32.toInt (i7z281_ + 1) = Int32.toInt i7z281_ + 1) ∧ (1 ≤ Int32.toInt (i7z281_ + 1) ∧ Int32.toInt (i7z281_ + 1) ≤ 7) := zadd_k i7z281_ 1 1 1 7 b285_ (by decide) (by decide) (by decide) (by decide) (by decide)
              refine pw_blk hT 12 (S' := (18, [some (pvR 124), some (pvI n1), some (pvI n2), some (pvI n3), some (pvI (i4z281_ + (x291_ + (2 * (Mz281_.1 129 (Int32.toNatClampNeg (Mz281_.1 144 (Int32.toNatClampNeg i7z281_)))))))), some (pvI (M330_.1 127 (Int32.toNatClampNeg (Mz281_.1 144 (Int32.toNatClampNeg i7z281_))))), some (pvI (M330_.1 128 (Int32.toNatClampNeg (Mz281_.1 144 (Int32.toNatClampNeg i7z281_))))), some (pvI (i7z281_ + 1)), some (pvI (Mz281_.1 144 (Int32.toNatClampNeg i7z281_)))], [], M330_)) rfl ⟨trivial, rfl, trivial, ⟨rfl, (zr_in (n := 7) b287_ (by decide) (by decide))⟩, trivial, trivial, rfl, trivial, ⟨rfl, (zr_in (n := 7) b287_ (by decide) (by decide))⟩, trivial, trivial, trivial, trivial⟩ ?_
              have j338_ : Int32.toInt (i4z281_ + (x291_ + (2 * (Mz281_.1 129 (Int32.toNatClampNeg (Mz281_.1 144 (Int32.toNatClampNeg i7z281_))))))) ≤ 60000 + 320 * Int32.toInt (i7z281_ + 1) := by omega
              have j339_ : 0 ≤ Int32.toInt (i4z281_ + (x291_ + (2 * (Mz281_.1 129 (Int32.toNatClampNeg (Mz281_.1 144 (Int32.toNatClampNeg i7z281_))))))) := by omega
              exact ihz281_ (i4z281_ + (x291_ + (2 * (Mz281_.1 129 (Int32.toNatClampNeg (Mz281_.1 144 (Int32.toNatClampNeg i7z281_))))))) (M330_.1 127 (Int32.toNatClampNeg (Mz281_.1 144 (Int32.toNatClampNeg i7z281_)))) (M330_.1 128 (Int32.toNatClampNeg (Mz281_.1 144 (Int32.toNatClampNeg i7z281_)))) (i7z281_ + 1) (some (pvI (Mz281_.1 144 (Int32.toNatClampNeg i7z281_)))) M330_ o332_ f333_ (by have u0 := b328_; omega) b334_ b335_ (zr_wide b336_ (by decide) (by decide)) j338_ j339_ (zhid (pvms_up (zshow hmz281_) h7z281_ q337_ (by decide) (by decide)))
            · refine pw_eqI (if_neg c321_) ?_
              have b340_ : 0 ≤ Int32.toInt (Mz281_.1 129 (Int32.toNatClampNeg (Mz281_.1 144 (Int32.toNatClampNeg i7z281_)))) ∧ Int32.toInt (Mz281_.1 129 (Int32.toNatClampNeg (Mz281_.1 144 (Int32.toNatClampNeg i7z281_)))) ≤ 9 := pvok_r oz281_ 129 (Int32.toNatClampNeg (Mz281_.1 144 (Int32.toNatClampNeg i7z281_))) rfl
              show PW 24 d (64, [some (pvR 124), some (pvI n1), some (pvI n2), some (pvI n3), some (pvI i4z281_), some (pvI i5z281_), some (pvI i6z281_), some (pvI i7z281_), some (pvI (Mz281_.1 144 (Int32.toNatClampNeg i7z281_)))], [pvI (Mz281_.1 129 (Int32.toNatClampNeg (Mz281_.1 144 (Int32.toNatClampNeg i7z281_)))), pvI x291_, pvI i4z281_], Mz281_) _
              obtain ⟨q342_, b341_⟩ : (Int32.toInt (x291_ + (Mz281_.1 129 (Int32.toNatClampNeg (Mz281_.1 144 (Int32.toNatClampNeg i7z281_))))) = Int32.toInt x291_ + Int32.toInt (Mz281_.1 129 (Int32.toNatClampNeg (Mz281_.1 144 (Int32.toNatClampNeg i7z281_))))) ∧ (0 ≤ Int32.toInt (x291_ + (Mz281_.1 129 (Int32.toNatClampNeg (Mz281_.1 144 (Int32.toNatClampNeg i7z281_))))) ∧ Int32.toInt (x291_ + (Mz281_.1 129 (Int32.toNatClampNeg (Mz281_.1 144 (Int32.toNatClampNeg i7z281_))))) ≤ 310) := zadd_r x291_ (Mz281_.1 129 (Int32.toNatClampNeg (Mz281_.1 144 (Int32.toNatClampNeg i7z281_)))) 0 310 b293_ b340_ (by decide) (by decide) (by decide) (by decide)
              obtain ⟨q344_, b343_⟩ : (Int32.toInt (i4z281_ + (x291_ + (Mz281_.1 129 (Int32.toNatClampNeg (Mz281_.1 144 (Int32.toNatClampNeg i7z281_)))))) = Int32.toInt i4z281_ + Int32.toInt (x291_ + (Mz281_.1 129 (Int32.toNatClampNeg (Mz281_.1 144 (Int32.toNatClampNeg i7z281_)))))) ∧ (0 ≤ Int32.toInt (i4z281_ + (x291_ + (Mz281_.1 129 (Int32.toNatClampNeg (Mz281_.1 144 (Int32.toNatClampNeg i7z281_)))))) ∧ Int32.toInt (i4z281_ + (x291_ + (Mz281_.1 129 (Int32.toNatClampNeg (Mz281_.1 144 (Int32.toNatClampNeg i7z281_)))))) ≤ 64310) := zadd_r i4z281_ (x291_ + (Mz281_.1 129 (Int32.toNatClampNeg (Mz281_.1 144 (Int32.toNatClampNeg i7z281_))))) 0 64310 h4z281_ b341_ (by decide) (by decide) (by decide) (by decide)
              refine pw_blkw hT 8 (pc := 77) (lo := [some (pvR 124), some (pvI n1), some (pvI n2), some (pvI n3), some (pvI (i4z281_ + (x291_ + (Mz281_.1 129 (Int32.toNatClampNeg (Mz281_.1 144 (Int32.toNatClampNeg i7z281_))))))), some (pvI i5z281_), some (pvI i6z281_), some (pvI i7z281_), some (pvI (Mz281_.1 144 (Int32.toNatClampNeg i7z281_)))]) (st := []) (M := pvu Mz281_ 143 (Int32.toNatClampNeg (Mz281_.1 144 (Int32.toNatClampNeg i7z281_))) (i4z281_ + (x291_ + (Mz281_.1 129 (Int32.toNatClampNeg (Mz281_.1 144 (Int32.toNatClampNeg i7z281_))))))) rfl ⟨trivial, trivial, trivial, trivial, rfl, trivial, trivial, ⟨rfl, (zr_in (n := 7) b287_ (by decide) (by decide))⟩, trivial⟩ (fun M345_ e346_ => ?_)
              have o347_ : pvOk M345_ := pvok_u2 e346_ oz281_ rfl (zr_wide b343_ (by decide) (by decide))
              have f348_ : pvFr fp_X10_goes_124_x_x_x M M345_ := pvfr_u e346_ fz281_ rfl
              have b349_ : 0 ≤ Int32.toInt (M345_.1 127 (Int32.toNatClampNeg (Mz281_.1 144 (Int32.toNatClampNeg i7z281_)))) ∧ Int32.toInt (M345_.1 127 (Int32.toNatClampNeg (Mz281_.1 144 (Int32.toNatClampNeg i7z281_)))) ≤ 3 := pvok_r o347_ 127 (Int32.toNatClampNeg (Mz281_.1 144 (Int32.toNatClampNeg i7z281_))) rfl
              have b350_ : 0 ≤ Int32.toInt (M345_.1 128 (Int32.toNatClampNeg (Mz281_.1 144 (Int32.toNatClampNeg i7z281_)))) ∧ Int32.toInt (M345_.1 128 (Int32.toNatClampNeg (Mz281_.1 144 (Int32.toNatClampNeg i7z281_)))) ≤ 4 := pvok_r o347_ 128 (Int32.toNatClampNeg (Mz281_.1 144 (Int32.toNatClampNeg i7z281_))) rfl
              obtain ⟨q352_, b351_⟩ : (Int32.toInt (i7z281_ + 1) = Int32.toInt i7z281_ + 1) ∧ (1 ≤ Int32.toInt (i7z281_ + 1) ∧ Int32.toInt (i7z281_ + 1) ≤ 7) := zadd_k i7z281_ 1 1 1 7 b285_ (by decide) (by decide) (by decide) (by decide) (by decide)
              refine pw_blk hT 12 (S' := (18, [some (pvR 124), some (pvI n1), some (pvI n2), some (pvI n3), some (pvI (i4z281_ + (x291_ + (Mz281_.1 129 (Int32.toNatClampNeg (Mz281_.1 144 (Int32.toNatClampNeg i7z281_))))))), some (pvI (M345_.1 127 (Int32.toNatClampNeg (Mz281_.1 144 (Int32.toNatClampNeg i7z281_))))), some (pvI (M345_.1 128 (Int32.toNatClampNeg (Mz281_.1 144 (Int32.toNatClampNeg i7z281_))))), some (pvI (i7z281_ + 1)), some (pvI (Mz281_.1 144 (Int32.toNatClampNeg i7z281_)))], [], M345_)) rfl ⟨trivial, rfl, trivial, ⟨rfl, (zr_in (n := 7) b287_ (by decide) (by decide))⟩, trivial, trivial, rfl, trivial, ⟨rfl, (zr_in (n := 7) b287_ (by decide) (by decide))⟩, trivial, trivial, trivial, trivial⟩ ?_
              have j353_ : Int32.toInt (i4z281_ + (x291_ + (Mz281_.1 129 (Int32.toNatClampNeg (Mz281_.1 144 (Int32.toNatClampNeg i7z281_)))))) ≤ 60000 + 320 * Int32.toInt (i7z281_ + 1) := by omega
              have j354_ : 0 ≤ Int32.toInt (i4z281_ + (x291_ + (Mz281_.1 129 (Int32.toNatClampNeg (Mz281_.1 144 (Int32.toNatClampNeg i7z281_)))))) := by omega
              exact ihz281_ (i4z281_ + (x291_ + (Mz281_.1 129 (Int32.toNatClampNeg (Mz281_.1 144 (Int32.toNatClampNeg i7z281_)))))) (M345_.1 127 (Int32.toNatClampNeg (Mz281_.1 144 (Int32.toNatClampNeg i7z281_)))) (M345_.1 128 (Int32.toNatClampNeg (Mz281_.1 144 (Int32.toNatClampNeg i7z281_)))) (i7z281_ + 1) (some (pvI (Mz281_.1 144 (Int32.toNatClampNeg i7z281_)))) M345_ o347_ f348_ (by have u0 := b343_; omega) b349_ b350_ (zr_wide b351_ (by decide) (by decide)) j353_ j354_ (zhid (pvms_up (zshow hmz281_) h7z281_ q352_ (by decide) (by decide)))
        · have b355_ : 1 ≤ Int32.toInt (Mz281_.1 131 (Int32.toNatClampNeg (Mz281_.1 144 (Int32.toNatClampNeg i7z281_)))) ∧ Int32.toInt (Mz281_.1 131 (Int32.toNatClampNeg (Mz281_.1 144 (Int32.toNatClampNeg i7z281_)))) ≤ 1 := (by have u0 := b288_; have u1 := (not_congr (zi_eq _ _)).mp c289_; have u2 := (show 0 ≤ Int32.toInt 0 ∧ Int32.toInt 0 ≤ 0 from (by decide)); omega)
          obtain ⟨q357_, b356_⟩ : (Int32.toInt (i7z281_ + 1) = Int32.toInt i7z281_ + 1) ∧ (1 ≤ Int32.toInt (i7z281_ + 1) ∧ Int32.toInt (i7z281_ + 1) ≤ 7) := zadd_k i7z281_ 1 1 1 7 b285_ (by decide) (by decide) (by decide) (by decide) (by decide)
          refine pw_blk hT 3 (S' := (18, [some (pvR 124), some (pvI n1), some (pvI n2), some (pvI n3), some (pvI i4z281_), some (pvI i5z281_), some (pvI i6z281_), some (pvI (i7z281_ + 1)), some (pvI (Mz281_.1 144 (Int32.toNatClampNeg i7z281_)))], [], Mz281_)) rfl ⟨trivial, trivial, trivial, trivial⟩ ?_
          have j358_ : Int32.toInt i4z281_ ≤ 60000 + 320 * Int32.toInt (i7z281_ + 1) := by omega
          have j359_ : 0 ≤ Int32.toInt i4z281_ := by omega
          exact ihz281_ i4z281_ i5z281_ i6z281_ (i7z281_ + 1) (some (pvI (Mz281_.1 144 (Int32.toNatClampNeg i7z281_)))) Mz281_ oz281_ fz281_ h4z281_ h5z281_ h6z281_ (zr_wide b356_ (by decide) (by decide)) j358_ j359_ (zhid (pvms_up (zshow hmz281_) h7z281_ q357_ (by decide) (by decide)))
  have j360_ : Int32.toInt n3 ≤ 60000 + 320 * Int32.toInt n1 := by omega
  have j361_ : 0 ≤ Int32.toInt n3 := by omega
  exact hlz281_ _ n3 (M.1 124 5) (M.1 124 6) n1 none M hok pvfr_0 (zr_wide hn3 (by decide) (by decide)) b1_ b2_ hn1 j360_ j361_ (zhid (Nat.lt_succ_self _))
set_option maxHeartbeats 4000000 in
set_option maxRecDepth 10000 in
theorem sf_X10_isOpenAt_124_x_x (M : pvM) (hok : pvOk M) (n1 : Int32) (n2 : Int32) (hn1 : 0 ≤ Int32.toInt n1 ∧ Int32.toInt n1 ≤ 6) (d : Nat) : PW 39 d (0, [some (pvR 124), some (pvI n1), some (pvI n2)], [], M) (fun r X => r = some (pvI ((if (M.1 143 (Int32.toNatClampNeg n1)) ≤ n2 then 0 else 1))) ∧ X = M) := by
  have hT : pvdom 39 = pvD_39 := rfl
  have b1_ : (-1) ≤ Int32.toInt (M.1 143 (Int32.toNatClampNeg n1)) ∧ Int32.toInt (M.1 143 (Int32.toNatClampNeg n1)) ≤ 99999 := pvok_r hok 143 (Int32.toNatClampNeg n1) rfl
  refine pw_blk hT 5 (S' := (7, [some (pvR 124), some (pvI n1), some (pvI n2)], [pvI (M.1 143 (Int32.toNatClampNeg n1)), pvI n2], M)) rfl ⟨trivial, trivial, rfl, trivial, ⟨rfl, (zr_in (n := 7) hn1 (by decide) (by decide))⟩, trivial⟩ ?_
  refine pw_ic hT (c := (M.1 143 (Int32.toNatClampNeg n1)) ≤ n2) rfl rfl (fun c2_ => ?_) (fun c2_ => ?_)
  · have b3_ : (-1) ≤ Int32.toInt n2 ∧ Int32.toInt n2 ≤ 2147483647 := zr_le_r (-1) c2_ (zbnd n2) b1_ (by decide)
    have d4_ : Int32.toInt (M.1 143 (Int32.toNatClampNeg n1)) ≤ Int32.toInt n2 := (zi_le _ _).mp c2_
    refine pw_blk hT 1 (S' := (15, [some (pvR 124), some (pvI n1), some (pvI n2)], [pvI 0], M)) rfl ⟨trivial, trivial⟩ ?_
    exact pw_ret hT rfl (r := some (pvI 0)) (M' := M) ⟨Or.inl rfl, rfl, rfl⟩ ⟨(by rw [if_pos c2_]), rfl⟩
  · have b5_ : (-2147483648) ≤ Int32.toInt n2 ∧ Int32.toInt n2 ≤ 99998 := zr_nle_r 99998 c2_ (zbnd n2) b1_ (by decide)
    have d6_ : Int32.toInt (M.1 143 (Int32.toNatClampNeg n1)) > Int32.toInt n2 := Int.not_le.mp ((not_congr (zi_le _ _)).mp c2_)
    refine pw_blk hT 2 (S' := (15, [some (pvR 124), some (pvI n1), some (pvI n2)], [pvI 1], M)) rfl ⟨trivial, trivial, trivial⟩ ?_
    exact pw_ret hT rfl (r := some (pvI 1)) (M' := M) ⟨Or.inr rfl, rfl, rfl⟩ ⟨(by rw [if_neg c2_]), rfl⟩
set_option maxHeartbeats 4000000 in
set_option maxRecDepth 10000 in
theorem sf_X10_hasOther_124_x_x (M : pvM) (hok : pvOk M) (n1 : Int32) (n2 : Int32) (hn1 : 0 ≤ Int32.toInt n1 ∧ Int32.toInt n1 ≤ 6) (d : Nat) : PW 32 d (0, [some (pvR 124), some (pvI n1), some (pvI n2), none], [], M) (fun r X => (∃ x : Int32, r = some (pvI x) ∧ 0 ≤ Int32.toInt x ∧ Int32.toInt x ≤ 1) ∧ X = M) := by
  have hT : pvdom 32 = pvD_32 := rfl
  refine pw_blk hT 2 (S' := (2, [some (pvR 124), some (pvI n1), some (pvI n2), some (pvI 0)], [], M)) rfl ⟨trivial, trivial, trivial⟩ ?_
  have hlz96_ : ∀ (nz96_ : Nat) (i3z96_ : Int32), (0 ≤ Int32.toInt i3z96_ ∧ Int32.toInt i3z96_ ≤ 7) → (zhide ((8 - Int32.toInt i3z96_).toNat < nz96_)) → PW 32 d (2, [some (pvR 124), some (pvI n1), some (pvI n2), some (pvI i3z96_)], [], M) (fun r X => (∃ x : Int32, r = some (pvI x) ∧ 0 ≤ Int32.toInt x ∧ Int32.toInt x ≤ 1) ∧ X = M) := by
    intro nz96_
    induction nz96_ with
    | zero => intro i3z96_ h3z96_ hmz96_; exact absurd (zshow hmz96_) (Nat.not_lt_zero _)
    | succ nz96_ ihz96_ =>
      intro i3z96_ h3z96_ hmz96_
      have b97_ : 0 ≤ Int32.toInt (M.1 124 0) ∧ Int32.toInt (M.1 124 0) ≤ 7 := pvok_r hok 124 0 rfl
      refine pw_blk hT 3 (S' := (7, [some (pvR 124), some (pvI n1), some (pvI n2), some (pvI i3z96_)], [pvI (M.1 124 0), pvI i3z96_], M)) rfl ⟨trivial, trivial, rfl, trivial⟩ ?_
      refine pw_ic hT (c := (M.1 124 0) ≤ i3z96_) rfl rfl (fun c98_ => ?_) (fun c98_ => ?_)
      · have d99_ : Int32.toInt (M.1 124 0) ≤ Int32.toInt i3z96_ := (zi_le _ _).mp c98_
        refine pw_blk hT 1 (S' := (43, [some (pvR 124), some (pvI n1), some (pvI n2), some (pvI i3z96_)], [pvI 0], M)) rfl ⟨trivial, trivial⟩ ?_
        exact pw_ret hT rfl (r := some (pvI 0)) (M' := M) ⟨Or.inl rfl, rfl, rfl⟩ ⟨⟨_, rfl, (zr_wide (show 0 ≤ Int32.toInt 0 ∧ Int32.toInt 0 ≤ 0 from (by decide)) (by decide) (by decide))⟩, rfl⟩
      · have b100_ : 1 ≤ Int32.toInt (M.1 124 0) ∧ Int32.toInt (M.1 124 0) ≤ 7 := zr_nle_l 1 c98_ b97_ h3z96_ (by decide)
        have b101_ : 0 ≤ Int32.toInt i3z96_ ∧ Int32.toInt i3z96_ ≤ 6 := zr_nle_r 6 c98_ h3z96_ b100_ (by decide)
        have d102_ : Int32.toInt (M.1 124 0) > Int32.toInt i3z96_ := Int.not_le.mp ((not_congr (zi_le _ _)).mp c98_)
        refine pw_blk hT 2 (S' := (12, [some (pvR 124), some (pvI n1), some (pvI n2), some (pvI i3z96_)], [pvI n1, pvI i3z96_], M)) rfl ⟨trivial, trivial, trivial⟩ ?_
        refine pw_ic hT (c := i3z96_ = n1) rfl rfl (fun c103_ => ?_) (fun c103_ => ?_)
        · have d104_ : Int32.toInt i3z96_ = Int32.toInt n1 := (zi_eq _ _).mp c103_
          obtain ⟨q106_, b105_⟩ : (Int32.toInt (i3z96_ + 1) = Int32.toInt i3z96_ + 1) ∧ (1 ≤ Int32.toInt (i3z96_ + 1) ∧ Int32.toInt (i3z96_ + 1) ≤ 7) := zadd_k i3z96_ 1 1 1 7 b101_ (by decide) (by decide) (by decide) (by decide) (by decide)
          refine pw_blk hT 2 (S' := (2, [some (pvR 124), some (pvI n1), some (pvI n2), some (pvI (i3z96_ + 1))], [], M)) rfl ⟨trivial, trivial, trivial⟩ ?_
          exact ihz96_ (i3z96_ + 1) (zr_wide b105_ (by decide) (by decide)) (zhid (pvms_up (zshow hmz96_) h3z96_ q106_ (by decide) (by decide)))
        · have b107_ : 0 ≤ Int32.toInt (M.1 125 (Int32.toNatClampNeg i3z96_)) ∧ Int32.toInt (M.1 125 (Int32.toNatClampNeg i3z96_)) ≤ 6 := pvok_r hok 125 (Int32.toNatClampNeg i3z96_) rfl
          refine pw_blk hT 5 (S' := (22, [some (pvR 124), some (pvI n1), some (pvI n2), some (pvI i3z96_)], [pvI 4, pvI (M.1 125 (Int32.toNatClampNeg i3z96_))], M)) rfl ⟨trivial, rfl, trivial, ⟨rfl, (zr_in (n := 7) b101_ (by decide) (by decide))⟩, trivial, trivial⟩ ?_
          refine pw_icn hT (c := (M.1 125 (Int32.toNatClampNeg i3z96_)) = 4) rfl rfl (fun c108_ => ?_) (fun c108_ => ?_)
          · obtain ⟨q110_, b109_⟩ : (Int32.toInt (i3z96_ + 1) = Int32.toInt i3z96_ + 1) ∧ (1 ≤ Int32.toInt (i3z96_ + 1) ∧ Int32.toInt (i3z96_ + 1) ≤ 7) := zadd_k i3z96_ 1 1 1 7 b101_ (by decide) (by decide) (by decide) (by decide) (by decide)
            refine pw_blk hT 2 (S' := (2, [some (pvR 124), some (pvI n1), some (pvI n2), some (pvI (i3z96_ + 1))], [], M)) rfl ⟨trivial, trivial, trivial⟩ ?_
            exact ihz96_ (i3z96_ + 1) (zr_wide b109_ (by decide) (by decide)) (zhid (pvms_up (zshow hmz96_) h3z96_ q110_ (by decide) (by decide)))
          · have b111_ : 4 ≤ Int32.toInt (M.1 125 (Int32.toNatClampNeg i3z96_)) ∧ Int32.toInt (M.1 125 (Int32.toNatClampNeg i3z96_)) ≤ 4 := (by have u0 := b107_; have u1 := (zi_eq _ _).mp c108_; have u2 := (show 4 ≤ Int32.toInt 4 ∧ Int32.toInt 4 ≤ 4 from (by decide)); omega)
            refine pw_blk hT 3 (S' := (28, [some (pvR 124), some (pvI n1), some (pvI n2), some (pvI i3z96_)], [pvI n2, pvI i3z96_, pvR 124], M)) rfl ⟨trivial, trivial, trivial, trivial⟩ ?_
            refine pw_callT hT (as := [pvR 124, pvI i3z96_, pvI n2]) (lo1 := [some (pvR 124), some (pvI i3z96_), some (pvI n2)]) (d1 := d) (rest := []) rfl rfl rfl rfl rfl (fun _ => rfl) (Nat.zero_le _) rfl rfl rfl (sf_X10_isOpenAt_124_x_x M hok i3z96_ n2 b101_ d) ?_
            have b117_ : (-1) ≤ Int32.toInt (M.1 143 (Int32.toNatClampNeg i3z96_)) ∧ Int32.toInt (M.1 143 (Int32.toNatClampNeg i3z96_)) ≤ 99999 := pvok_r hok 143 (Int32.toNatClampNeg i3z96_) rfl
            by_cases c118_ : (M.1 143 (Int32.toNatClampNeg i3z96_)) ≤ n2
            · refine pw_eqI (if_pos c118_) ?_
              have b119_ : (-1) ≤ Int32.toInt n2 ∧ Int32.toInt n2 ≤ 2147483647 := zr_le_r (-1) c118_ (zbnd n2) b117_ (by decide)
              have d120_ : Int32.toInt (M.1 143 (Int32.toNatClampNeg i3z96_)) ≤ Int32.toInt n2 := (zi_le _ _).mp c118_
              show PW 32 d (31, [some (pvR 124), some (pvI n1), some (pvI n2), some (pvI i3z96_)], [pvI 0], M) _
              refine pw_if hT (c := 0 = 0) rfl rfl (fun c121_ => ?_) (fun c121_ => absurd (by decide) c121_)
              obtain ⟨q123_, b122_⟩ : (Int32.toInt (i3z96_ + 1) = Int32.toInt i3z96_ + 1) ∧ (1 ≤ Int32.toInt (i3z96_ + 1) ∧ Int32.toInt (i3z96_ + 1) ≤ 7) := zadd_k i3z96_ 1 1 1 7 b101_ (by decide) (by decide) (by decide) (by decide) (by decide)
              refine pw_blk hT 2 (S' := (2, [some (pvR 124), some (pvI n1), some (pvI n2), some (pvI (i3z96_ + 1))], [], M)) rfl ⟨trivial, trivial, trivial⟩ ?_
              exact ihz96_ (i3z96_ + 1) (zr_wide b122_ (by decide) (by decide)) (zhid (pvms_up (zshow hmz96_) h3z96_ q123_ (by decide) (by decide)))
            · refine pw_eqI (if_neg c118_) ?_
              have b124_ : (-2147483648) ≤ Int32.toInt n2 ∧ Int32.toInt n2 ≤ 99998 := zr_nle_r 99998 c118_ (zbnd n2) b117_ (by decide)
              have d125_ : Int32.toInt (M.1 143 (Int32.toNatClampNeg i3z96_)) > Int32.toInt n2 := Int.not_le.mp ((not_congr (zi_le _ _)).mp c118_)
              show PW 32 d (31, [some (pvR 124), some (pvI n1), some (pvI n2), some (pvI i3z96_)], [pvI 1], M) _
              refine pw_if hT (c := 1 = 0) rfl rfl (fun c126_ => absurd c126_ (by decide)) (fun c126_ => ?_)
              refine pw_blk hT 1 (S' := (35, [some (pvR 124), some (pvI n1), some (pvI n2), some (pvI i3z96_)], [pvI 1], M)) rfl ⟨trivial, trivial⟩ ?_
              exact pw_ret hT rfl (r := some (pvI 1)) (M' := M) ⟨Or.inr rfl, rfl, rfl⟩ ⟨⟨_, rfl, (zr_wide (show 1 ≤ Int32.toInt 1 ∧ Int32.toInt 1 ≤ 1 from (by decide)) (by decide) (by decide))⟩, rfl⟩
  exact hlz96_ _ 0 (zr_wide (show 0 ≤ Int32.toInt 0 ∧ Int32.toInt 0 ≤ 0 from (by decide)) (by decide) (by decide)) (zhid (Nat.lt_succ_self _))
set_option maxHeartbeats 4000000 in
set_option maxRecDepth 10000 in
theorem sf_X10_harm_124_x_x (M : pvM) (hok : pvOk M) (n1 : Int32) (n2 : Int32) (hn1 : 0 ≤ Int32.toInt n1 ∧ Int32.toInt n1 ≤ 6) (hn2 : 0 ≤ Int32.toInt n2 ∧ Int32.toInt n2 ≤ 200000) (d : Nat) : PW 26 d (0, [some (pvR 124), some (pvI n1), some (pvI n2), none, none], [], M) (fun r X => (∃ x : Int32, r = some (pvI x) ∧ 0 ≤ Int32.toInt x ∧ Int32.toInt x ≤ 12009) ∧ X = M) := by
  have hT : pvdom 26 = pvD_26 := rfl
  have b1_ : 0 ≤ Int32.toInt (M.1 124 3) ∧ Int32.toInt (M.1 124 3) ≤ 108 := pvok_r hok 124 3 rfl
  obtain ⟨q3_, b2_⟩ : (Int32.toInt (n2 - (M.1 124 3)) = Int32.toInt n2 - Int32.toInt (M.1 124 3)) ∧ ((-108) ≤ Int32.toInt (n2 - (M.1 124 3)) ∧ Int32.toInt (n2 - (M.1 124 3)) ≤ 200000) := zsub_r n2 (M.1 124 3) (-108) 200000 hn2 b1_ (by decide) (by decide) (by decide) (by decide)
  refine pw_blk hT 6 (S' := (8, [some (pvR 124), some (pvI n1), some (pvI n2), some (pvI (n2 - (M.1 124 3))), none], [pvI (n2 - (M.1 124 3))], M)) rfl ⟨trivial, trivial, rfl, trivial, trivial, trivial, trivial⟩ ?_
  refine pw_if hT (c := (n2 - (M.1 124 3)) < 0) rfl rfl (fun c4_ => ?_) (fun c4_ => ?_)
  · have b5_ : (-108) ≤ Int32.toInt (n2 - (M.1 124 3)) ∧ Int32.toInt (n2 - (M.1 124 3)) ≤ (-1) := zr_lt_l (-1) c4_ b2_ (show 0 ≤ Int32.toInt 0 ∧ Int32.toInt 0 ≤ 0 from (by decide)) (by decide)
    refine pw_blk hT 1 (S' := (29, [some (pvR 124), some (pvI n1), some (pvI n2), some (pvI (n2 - (M.1 124 3))), none], [pvI 0], M)) rfl ⟨trivial, trivial⟩ ?_
    exact pw_ret hT rfl (r := some (pvI 0)) (M' := M) ⟨rfl, rfl⟩ ⟨⟨_, rfl, (zr_wide (show 0 ≤ Int32.toInt 0 ∧ Int32.toInt 0 ≤ 0 from (by decide)) (by decide) (by decide))⟩, rfl⟩
  · have b6_ : 0 ≤ Int32.toInt (n2 - (M.1 124 3)) ∧ Int32.toInt (n2 - (M.1 124 3)) ≤ 200000 := zr_nlt_l 0 c4_ b2_ (show 0 ≤ Int32.toInt 0 ∧ Int32.toInt 0 ≤ 0 from (by decide)) (by decide)
    refine pw_blk hT 2 (S' := (13, [some (pvR 124), some (pvI n1), some (pvI n2), some (pvI (n2 - (M.1 124 3))), none], [pvR 124, pvI (n2 - (M.1 124 3))], M)) rfl ⟨trivial, trivial, trivial⟩ ?_
    refine pw_callGp hT (as := [pvR 124]) (lo1 := [some (pvR 124)]) (d1 := d) (rest := [pvI (n2 - (M.1 124 3))]) rfl rfl rfl rfl rfl (fun _ => rfl) (Nat.zero_le _) rfl rfl rfl (sf_X10_lastNow_124 M hok d) (fun x7_ b9_ => ?_)
    refine pw_ic hT (c := x7_ ≤ (n2 - (M.1 124 3))) rfl rfl (fun c12_ => ?_) (fun c12_ => ?_)
    · have d13_ : Int32.toInt x7_ ≤ Int32.toInt (n2 - (M.1 124 3)) := (zi_le _ _).mp c12_
      refine pw_blk hT 1 (S' := (29, [some (pvR 124), some (pvI n1), some (pvI n2), some (pvI (n2 - (M.1 124 3))), none], [pvI 0], M)) rfl ⟨trivial, trivial⟩ ?_
      exact pw_ret hT rfl (r := some (pvI 0)) (M' := M) ⟨rfl, rfl⟩ ⟨⟨_, rfl, (zr_wide (show 0 ≤ Int32.toInt 0 ∧ Int32.toInt 0 ≤ 0 from (by decide)) (by decide) (by decide))⟩, rfl⟩
    · have b14_ : 1 ≤ Int32.toInt x7_ ∧ Int32.toInt x7_ ≤ 99 := zr_nle_l 1 c12_ b9_ b6_ (by decide)
      have b15_ : 0 ≤ Int32.toInt (n2 - (M.1 124 3)) ∧ Int32.toInt (n2 - (M.1 124 3)) ≤ 98 := zr_nle_r 98 c12_ b6_ b14_ (by decide)
      have d16_ : Int32.toInt x7_ > Int32.toInt (n2 - (M.1 124 3)) := Int.not_le.mp ((not_congr (zi_le _ _)).mp c12_)
      refine pw_blk hT 3 (S' := (22, [some (pvR 124), some (pvI n1), some (pvI n2), some (pvI (n2 - (M.1 124 3))), none], [pvI n2, pvI n1, pvR 124], M)) rfl ⟨trivial, trivial, trivial, trivial⟩ ?_
      refine pw_callT hT (as := [pvR 124, pvI n1, pvI n2]) (lo1 := [some (pvR 124), some (pvI n1), some (pvI n2)]) (d1 := d) (rest := []) rfl rfl rfl rfl rfl (fun _ => rfl) (Nat.zero_le _) rfl rfl rfl (sf_X10_isOpenAt_124_x_x M hok n1 n2 hn1 d) ?_
      have b22_ : (-1) ≤ Int32.toInt (M.1 143 (Int32.toNatClampNeg n1)) ∧ Int32.toInt (M.1 143 (Int32.toNatClampNeg n1)) ≤ 99999 := pvok_r hok 143 (Int32.toNatClampNeg n1) rfl
      by_cases c23_ : (M.1 143 (Int32.toNatClampNeg n1)) ≤ n2
      · refine pw_eqI (if_pos c23_) ?_
        have d24_ : Int32.toInt (M.1 143 (Int32.toNatClampNeg n1)) ≤ Int32.toInt n2 := (zi_le _ _).mp c23_
        show PW 26 d (25, [some (pvR 124), some (pvI n1), some (pvI n2), some (pvI (n2 - (M.1 124 3))), none], [pvI 0], M) _
        refine pw_ifn hT (c := 0 = 0) rfl rfl (fun c25_ => absurd (by decide) c25_) (fun c25_ => ?_)
        refine pw_blk hT 1 (S' := (29, [some (pvR 124), some (pvI n1), some (pvI n2), some (pvI (n2 - (M.1 124 3))), none], [pvI 0], M)) rfl ⟨trivial, trivial⟩ ?_
        exact pw_ret hT rfl (r := some (pvI 0)) (M' := M) ⟨rfl, rfl⟩ ⟨⟨_, rfl, (zr_wide (show 0 ≤ Int32.toInt 0 ∧ Int32.toInt 0 ≤ 0 from (by decide)) (by decide) (by decide))⟩, rfl⟩
      · refine pw_eqI (if_neg c23_) ?_
        have b26_ : 1 ≤ Int32.toInt (M.1 143 (Int32.toNatClampNeg n1)) ∧ Int32.toInt (M.1 143 (Int32.toNatClampNeg n1)) ≤ 99999 := zr_nle_l 1 c23_ b22_ hn2 (by decide)
        have b27_ : 0 ≤ Int32.toInt n2 ∧ Int32.toInt n2 ≤ 99998 := zr_nle_r 99998 c23_ hn2 b26_ (by decide)
        have d28_ : Int32.toInt (M.1 143 (Int32.toNatClampNeg n1)) > Int32.toInt n2 := Int.not_le.mp ((not_congr (zi_le _ _)).mp c23_)
        show PW 26 d (25, [some (pvR 124), some (pvI n1), some (pvI n2), some (pvI (n2 - (M.1 124 3))), none], [pvI 1], M) _
        refine pw_ifn hT (c := 1 = 0) rfl rfl (fun c29_ => ?_) (fun c29_ => absurd c29_ (by decide))
        have q30_ : Int32.toInt (99 * n1) = 99 * Int32.toInt n1 := by have u0 : Int32.toInt 99 = 99 := (by decide); have u1 := hn1; have u2 := zmul 99 n1 (by rw [u0]; omega) (by rw [u0]; omega); rw [u0] at u2; omega
        have b31_ : 0 ≤ Int32.toInt (99 * n1) ∧ Int32.toInt (99 * n1) ≤ 594 := (by have u1 := hn1; omega)
        obtain ⟨q33_, b32_⟩ : (Int32.toInt ((99 * n1) + (n2 - (M.1 124 3))) = Int32.toInt (99 * n1) + Int32.toInt (n2 - (M.1 124 3))) ∧ (0 ≤ Int32.toInt ((99 * n1) + (n2 - (M.1 124 3))) ∧ Int32.toInt ((99 * n1) + (n2 - (M.1 124 3))) ≤ 692) := zadd_r (99 * n1) (n2 - (M.1 124 3)) 0 692 b31_ b15_ (by decide) (by decide) (by decide) (by decide)
        have b34_ : 0 ≤ Int32.toInt (M.1 142 (Int32.toNatClampNeg ((99 * n1) + (n2 - (M.1 124 3))))) ∧ Int32.toInt (M.1 142 (Int32.toNatClampNeg ((99 * n1) + (n2 - (M.1 124 3))))) ≤ 6000 := pvok_r hok 142 (Int32.toNatClampNeg ((99 * n1) + (n2 - (M.1 124 3)))) rfl
        have b35_ : 0 ≤ Int32.toInt (M.1 125 (Int32.toNatClampNeg n1)) ∧ Int32.toInt (M.1 125 (Int32.toNatClampNeg n1)) ≤ 6 := pvok_r hok 125 (Int32.toNatClampNeg n1) rfl
        refine pw_blk hT 13 (S' := (49, [some (pvR 124), some (pvI n1), some (pvI n2), some (pvI (n2 - (M.1 124 3))), some (pvI (M.1 142 (Int32.toNatClampNeg ((99 * n1) + (n2 - (M.1 124 3))))))], [pvI (M.1 125 (Int32.toNatClampNeg n1))], M)) rfl ⟨trivial, rfl, trivial, trivial, trivial, trivial, trivial, ⟨rfl, (zr_in (n := 693) b32_ (by decide) (by decide))⟩, trivial, trivial, rfl, trivial, ⟨rfl, (zr_in (n := 7) hn1 (by decide) (by decide))⟩, trivial⟩ ?_
        refine pw_sw hT rfl rfl ?_
        refine And.intro (fun c36_ => ?_) (fun c36_ => ?_)
        · show PW 26 d (84, [some (pvR 124), some (pvI n1), some (pvI n2), some (pvI (n2 - (M.1 124 3))), some (pvI (M.1 142 (Int32.toNatClampNeg ((99 * n1) + (n2 - (M.1 124 3))))))], [], M) _
          have b37_ : 2 ≤ Int32.toInt (M.1 125 (Int32.toNatClampNeg n1)) ∧ Int32.toInt (M.1 125 (Int32.toNatClampNeg n1)) ≤ 2 := (by have u0 := b35_; have u1 := (zi_eq _ _).mp c36_; have u2 := (show 2 ≤ Int32.toInt 2 ∧ Int32.toInt 2 ≤ 2 from (by decide)); omega)
          have q38_ : Int32.toInt ((M.1 142 (Int32.toNatClampNeg ((99 * n1) + (n2 - (M.1 124 3))))) / 2) = Int32.toInt (M.1 142 (Int32.toNatClampNeg ((99 * n1) + (n2 - (M.1 124 3))))) / 2 := by have u0 := b34_; have u := zdiv_p (M.1 142 (Int32.toNatClampNeg ((99 * n1) + (n2 - (M.1 124 3))))) 2 (by omega) (by decide) (by decide); have e0 : nI 2 = (2 : Int32) := rfl; rw [e0] at u; omega
          have b39_ : 0 ≤ Int32.toInt ((M.1 142 (Int32.toNatClampNeg ((99 * n1) + (n2 - (M.1 124 3))))) / 2) ∧ Int32.toInt ((M.1 142 (Int32.toNatClampNeg ((99 * n1) + (n2 - (M.1 124 3))))) / 2) ≤ 3000 := (by have u0 := b34_; omega)
          refine pw_blk hT 3 (S' := (88, [some (pvR 124), some (pvI n1), some (pvI n2), some (pvI (n2 - (M.1 124 3))), some (pvI (M.1 142 (Int32.toNatClampNeg ((99 * n1) + (n2 - (M.1 124 3))))))], [pvI ((M.1 142 (Int32.toNatClampNeg ((99 * n1) + (n2 - (M.1 124 3))))) / 2)], M)) rfl ⟨trivial, trivial, (by decide), trivial⟩ ?_
          exact pw_ret hT rfl (r := some (pvI ((M.1 142 (Int32.toNatClampNeg ((99 * n1) + (n2 - (M.1 124 3))))) / 2))) (M' := M) ⟨rfl, rfl⟩ ⟨⟨_, rfl, (zr_wide b39_ (by decide) (by decide))⟩, rfl⟩
        · refine And.intro (fun c40_ => ?_) (fun c40_ => ?_)
          · show PW 26 d (89, [some (pvR 124), some (pvI n1), some (pvI n2), some (pvI (n2 - (M.1 124 3))), some (pvI (M.1 142 (Int32.toNatClampNeg ((99 * n1) + (n2 - (M.1 124 3))))))], [], M) _
            have b41_ : 3 ≤ Int32.toInt (M.1 125 (Int32.toNatClampNeg n1)) ∧ Int32.toInt (M.1 125 (Int32.toNatClampNeg n1)) ≤ 3 := (by have u0 := b35_; have u1 := (zi_eq _ _).mp c40_; have u2 := (show 3 ≤ Int32.toInt 3 ∧ Int32.toInt 3 ≤ 3 from (by decide)); omega)
            have q42_ : Int32.toInt (2 * (M.1 142 (Int32.toNatClampNeg ((99 * n1) + (n2 - (M.1 124 3)))))) = 2 * Int32.toInt (M.1 142 (Int32.toNatClampNeg ((99 * n1) + (n2 - (M.1 124 3))))) := by have u0 : Int32.toInt 2 = 2 := (by decide); have u1 := b34_; have u2 := zmul 2 (M.1 142 (Int32.toNatClampNeg ((99 * n1) + (n2 - (M.1 124 3))))) (by rw [u0]; omega) (by rw [u0]; omega); rw [u0] at u2; omega
            have b43_ : 0 ≤ Int32.toInt (2 * (M.1 142 (Int32.toNatClampNeg ((99 * n1) + (n2 - (M.1 124 3)))))) ∧ Int32.toInt (2 * (M.1 142 (Int32.toNatClampNeg ((99 * n1) + (n2 - (M.1 124 3)))))) ≤ 12000 := (by have u1 := b34_; omega)
            refine pw_blk hT 3 (S' := (93, [some (pvR 124), some (pvI n1), some (pvI n2), some (pvI (n2 - (M.1 124 3))), some (pvI (M.1 142 (Int32.toNatClampNeg ((99 * n1) + (n2 - (M.1 124 3))))))], [pvI (2 * (M.1 142 (Int32.toNatClampNeg ((99 * n1) + (n2 - (M.1 124 3))))))], M)) rfl ⟨trivial, trivial, trivial, trivial⟩ ?_
            exact pw_ret hT rfl (r := some (pvI (2 * (M.1 142 (Int32.toNatClampNeg ((99 * n1) + (n2 - (M.1 124 3)))))))) (M' := M) ⟨rfl, rfl⟩ ⟨⟨_, rfl, (zr_wide b43_ (by decide) (by decide))⟩, rfl⟩
          · refine And.intro (fun c44_ => ?_) (fun c44_ => ?_)
            · show PW 26 d (94, [some (pvR 124), some (pvI n1), some (pvI n2), some (pvI (n2 - (M.1 124 3))), some (pvI (M.1 142 (Int32.toNatClampNeg ((99 * n1) + (n2 - (M.1 124 3))))))], [], M) _
              have b45_ : 4 ≤ Int32.toInt (M.1 125 (Int32.toNatClampNeg n1)) ∧ Int32.toInt (M.1 125 (Int32.toNatClampNeg n1)) ≤ 4 := (by have u0 := b35_; have u1 := (zi_eq _ _).mp c44_; have u2 := (show 4 ≤ Int32.toInt 4 ∧ Int32.toInt 4 ≤ 4 from (by decide)); omega)
              refine pw_blk hT 3 (S' := (97, [some (pvR 124), some (pvI n1), some (pvI n2), some (pvI (n2 - (M.1 124 3))), some (pvI (M.1 142 (Int32.toNatClampNeg ((99 * n1) + (n2 - (M.1 124 3))))))], [pvI n2, pvI n1, pvR 124], M)) rfl ⟨trivial, trivial, trivial, trivial⟩ ?_
              refine pw_callGp hT (as := [pvR 124, pvI n1, pvI n2]) (lo1 := [some (pvR 124), some (pvI n1), some (pvI n2), none]) (d1 := d) (rest := []) rfl rfl rfl rfl rfl (fun _ => rfl) (Nat.zero_le _) rfl rfl rfl (sf_X10_hasOther_124_x_x M hok n1 n2 hn1 d) (fun x46_ b48_ => ?_)
              refine pw_if hT (c := x46_ = 0) rfl rfl (fun c51_ => ?_) (fun c51_ => ?_)
              · have b52_ : 0 ≤ Int32.toInt x46_ ∧ Int32.toInt x46_ ≤ 0 := (by have u0 := b48_; have u1 := (zi_eq _ _).mp c51_; have u2 := (show 0 ≤ Int32.toInt 0 ∧ Int32.toInt 0 ≤ 0 from (by decide)); omega)
                refine pw_blk hT 1 (S' := (117, [some (pvR 124), some (pvI n1), some (pvI n2), some (pvI (n2 - (M.1 124 3))), some (pvI (M.1 142 (Int32.toNatClampNeg ((99 * n1) + (n2 - (M.1 124 3))))))], [pvI (M.1 142 (Int32.toNatClampNeg ((99 * n1) + (n2 - (M.1 124 3)))))], M)) rfl ⟨trivial, trivial⟩ ?_
                exact pw_ret hT rfl (r := some (pvI (M.1 142 (Int32.toNatClampNeg ((99 * n1) + (n2 - (M.1 124 3))))))) (M' := M) ⟨rfl, rfl⟩ ⟨⟨_, rfl, (zr_wide b34_ (by decide) (by decide))⟩, rfl⟩
              · have b53_ : 1 ≤ Int32.toInt x46_ ∧ Int32.toInt x46_ ≤ 1 := (by have u0 := b48_; have u1 := (not_congr (zi_eq _ _)).mp c51_; have u2 := (show 0 ≤ Int32.toInt 0 ∧ Int32.toInt 0 ≤ 0 from (by decide)); omega)
                have b54_ : 0 ≤ Int32.toInt (M.1 126 (Int32.toNatClampNeg n1)) ∧ Int32.toInt (M.1 126 (Int32.toNatClampNeg n1)) ≤ 9 := pvok_r hok 126 (Int32.toNatClampNeg n1) rfl
                obtain ⟨q56_, b55_⟩ : (Int32.toInt ((M.1 142 (Int32.toNatClampNeg ((99 * n1) + (n2 - (M.1 124 3))))) + (M.1 126 (Int32.toNatClampNeg n1))) = Int32.toInt (M.1 142 (Int32.toNatClampNeg ((99 * n1) + (n2 - (M.1 124 3))))) + Int32.toInt (M.1 126 (Int32.toNatClampNeg n1))) ∧ (0 ≤ Int32.toInt ((M.1 142 (Int32.toNatClampNeg ((99 * n1) + (n2 - (M.1 124 3))))) + (M.1 126 (Int32.toNatClampNeg n1))) ∧ Int32.toInt ((M.1 142 (Int32.toNatClampNeg ((99 * n1) + (n2 - (M.1 124 3))))) + (M.1 126 (Int32.toNatClampNeg n1))) ≤ 6009) := zadd_r (M.1 142 (Int32.toNatClampNeg ((99 * n1) + (n2 - (M.1 124 3))))) (M.1 126 (Int32.toNatClampNeg n1)) 0 6009 b34_ b54_ (by decide) (by decide) (by decide) (by decide)
                refine pw_blk hT 7 (S' := (117, [some (pvR 124), some (pvI n1), some (pvI n2), some (pvI (n2 - (M.1 124 3))), some (pvI (M.1 142 (Int32.toNatClampNeg ((99 * n1) + (n2 - (M.1 124 3))))))], [pvI ((M.1 142 (Int32.toNatClampNeg ((99 * n1) + (n2 - (M.1 124 3))))) + (M.1 126 (Int32.toNatClampNeg n1)))], M)) rfl ⟨trivial, trivial, rfl, trivial, ⟨rfl, (zr_in (n := 7) hn1 (by decide) (by decide))⟩, trivial, trivial, trivial⟩ ?_
                exact pw_ret hT rfl (r := some (pvI ((M.1 142 (Int32.toNatClampNeg ((99 * n1) + (n2 - (M.1 124 3))))) + (M.1 126 (Int32.toNatClampNeg n1))))) (M' := M) ⟨rfl, rfl⟩ ⟨⟨_, rfl, (zr_wide b55_ (by decide) (by decide))⟩, rfl⟩
            · refine And.intro (fun c57_ => ?_) (fun c57_ => ?_)
              · show PW 26 d (118, [some (pvR 124), some (pvI n1), some (pvI n2), some (pvI (n2 - (M.1 124 3))), some (pvI (M.1 142 (Int32.toNatClampNeg ((99 * n1) + (n2 - (M.1 124 3))))))], [], M) _
                have b58_ : 5 ≤ Int32.toInt (M.1 125 (Int32.toNatClampNeg n1)) ∧ Int32.toInt (M.1 125 (Int32.toNatClampNeg n1)) ≤ 5 := (by have u0 := b35_; have u1 := (zi_eq _ _).mp c57_; have u2 := (show 5 ≤ Int32.toInt 5 ∧ Int32.toInt 5 ≤ 5 from (by decide)); omega)
                have b59_ : 0 ≤ Int32.toInt (M.1 124 4) ∧ Int32.toInt (M.1 124 4) ≤ 4 := pvok_r hok 124 4 rfl
                have b60_ : 0 ≤ Int32.toInt (M.1 126 (Int32.toNatClampNeg n1)) ∧ Int32.toInt (M.1 126 (Int32.toNatClampNeg n1)) ≤ 9 := pvok_r hok 126 (Int32.toNatClampNeg n1) rfl
                have b61_ : 0 ≤ Int32.toInt ((M.1 126 (Int32.toNatClampNeg n1)) - (M.1 126 (Int32.toNatClampNeg n1)) / 4 * 4) ∧ Int32.toInt ((M.1 126 (Int32.toNatClampNeg n1)) - (M.1 126 (Int32.toNatClampNeg n1)) / 4 * 4) ≤ 3 := (by have u0 := b60_; have u := zrem_p (M.1 126 (Int32.toNatClampNeg n1)) 4 (by omega) (by decide) (by decide); have e0 : nI 4 = (4 : Int32) := rfl; rw [e0] at u; omega)
                refine pw_blk hT 8 (S' := (130, [some (pvR 124), some (pvI n1), some (pvI n2), some (pvI (n2 - (M.1 124 3))), some (pvI (M.1 142 (Int32.toNatClampNeg ((99 * n1) + (n2 - (M.1 124 3))))))], [pvI ((M.1 126 (Int32.toNatClampNeg n1)) - (M.1 126 (Int32.toNatClampNeg n1)) / 4 * 4), pvI (M.1 124 4)], M)) rfl ⟨trivial, rfl, trivial, rfl, trivial, ⟨rfl, (zr_in (n := 7) hn1 (by decide) (by decide))⟩, trivial, (by decide), trivial⟩ ?_
                refine pw_icn hT (c := (M.1 124 4) = ((M.1 126 (Int32.toNatClampNeg n1)) - (M.1 126 (Int32.toNatClampNeg n1)) / 4 * 4)) rfl rfl (fun c62_ => ?_) (fun c62_ => ?_)
                · refine pw_blk hT 1 (S' := (141, [some (pvR 124), some (pvI n1), some (pvI n2), some (pvI (n2 - (M.1 124 3))), some (pvI (M.1 142 (Int32.toNatClampNeg ((99 * n1) + (n2 - (M.1 124 3))))))], [pvI 0], M)) rfl ⟨trivial, trivial⟩ ?_
                  exact pw_ret hT rfl (r := some (pvI 0)) (M' := M) ⟨rfl, rfl⟩ ⟨⟨_, rfl, (zr_wide (show 0 ≤ Int32.toInt 0 ∧ Int32.toInt 0 ≤ 0 from (by decide)) (by decide) (by decide))⟩, rfl⟩
                · have b63_ : 0 ≤ Int32.toInt (M.1 124 4) ∧ Int32.toInt (M.1 124 4) ≤ 3 := (by have u0 := b59_; have u1 := (zi_eq _ _).mp c62_; have u2 := b61_; omega)
                  have d64_ : Int32.toInt (M.1 124 4) = Int32.toInt ((M.1 126 (Int32.toNatClampNeg n1)) - (M.1 126 (Int32.toNatClampNeg n1)) / 4 * 4) := (zi_eq _ _).mp c62_
                  have q65_ : Int32.toInt ((M.1 142 (Int32.toNatClampNeg ((99 * n1) + (n2 - (M.1 124 3))))) / 2) = Int32.toInt (M.1 142 (Int32.toNatClampNeg ((99 * n1) + (n2 - (M.1 124 3))))) / 2 := by have u0 := b34_; have u := zdiv_p (M.1 142 (Int32.toNatClampNeg ((99 * n1) + (n2 - (M.1 124 3))))) 2 (by omega) (by decide) (by decide); have e0 : nI 2 = (2 : Int32) := rfl; rw [e0] at u; omega
                  have b66_ : 0 ≤ Int32.toInt ((M.1 142 (Int32.toNatClampNeg ((99 * n1) + (n2 - (M.1 124 3))))) / 2) ∧ Int32.toInt ((M.1 142 (Int32.toNatClampNeg ((99 * n1) + (n2 - (M.1 124 3))))) / 2) ≤ 3000 := (by have u0 := b34_; omega)
                  refine pw_blk hT 4 (S' := (141, [some (pvR 124), some (pvI n1), some (pvI n2), some (pvI (n2 - (M.1 124 3))), some (pvI (M.1 142 (Int32.toNatClampNeg ((99 * n1) + (n2 - (M.1 124 3))))))], [pvI ((M.1 142 (Int32.toNatClampNeg ((99 * n1) + (n2 - (M.1 124 3))))) / 2)], M)) rfl ⟨trivial, trivial, (by decide), trivial, trivial⟩ ?_
                  exact pw_ret hT rfl (r := some (pvI ((M.1 142 (Int32.toNatClampNeg ((99 * n1) + (n2 - (M.1 124 3))))) / 2))) (M' := M) ⟨rfl, rfl⟩ ⟨⟨_, rfl, (zr_wide b66_ (by decide) (by decide))⟩, rfl⟩
              · refine And.intro (fun c67_ => ?_) (fun c67_ => ?_)
                · show PW 26 d (142, [some (pvR 124), some (pvI n1), some (pvI n2), some (pvI (n2 - (M.1 124 3))), some (pvI (M.1 142 (Int32.toNatClampNeg ((99 * n1) + (n2 - (M.1 124 3))))))], [], M) _
                  have b68_ : 6 ≤ Int32.toInt (M.1 125 (Int32.toNatClampNeg n1)) ∧ Int32.toInt (M.1 125 (Int32.toNatClampNeg n1)) ≤ 6 := (by have u0 := b35_; have u1 := (zi_eq _ _).mp c67_; have u2 := (show 6 ≤ Int32.toInt 6 ∧ Int32.toInt 6 ≤ 6 from (by decide)); omega)
                  have q69_ : Int32.toInt (2 * (M.1 142 (Int32.toNatClampNeg ((99 * n1) + (n2 - (M.1 124 3)))))) = 2 * Int32.toInt (M.1 142 (Int32.toNatClampNeg ((99 * n1) + (n2 - (M.1 124 3))))) := by have u0 : Int32.toInt 2 = 2 := (by decide); have u1 := b34_; have u2 := zmul 2 (M.1 142 (Int32.toNatClampNeg ((99 * n1) + (n2 - (M.1 124 3))))) (by rw [u0]; omega) (by rw [u0]; omega); rw [u0] at u2; omega
                  have b70_ : 0 ≤ Int32.toInt (2 * (M.1 142 (Int32.toNatClampNeg ((99 * n1) + (n2 - (M.1 124 3)))))) ∧ Int32.toInt (2 * (M.1 142 (Int32.toNatClampNeg ((99 * n1) + (n2 - (M.1 124 3)))))) ≤ 12000 := (by have u1 := b34_; omega)
                  have q71_ : Int32.toInt (4 * n1) = 4 * Int32.toInt n1 := by have u0 : Int32.toInt 4 = 4 := (by decide); have u1 := hn1; have u2 := zmul 4 n1 (by rw [u0]; omega) (by rw [u0]; omega); rw [u0] at u2; omega
                  have b72_ : 0 ≤ Int32.toInt (4 * n1) ∧ Int32.toInt (4 * n1) ≤ 24 := (by have u1 := hn1; omega)
                  have b73_ : 0 ≤ Int32.toInt (n2 - n2 / 4 * 4) ∧ Int32.toInt (n2 - n2 / 4 * 4) ≤ 3 := (by have u0 := b27_; have u := zrem_p n2 4 (by omega) (by decide) (by decide); have e0 : nI 4 = (4 : Int32) := rfl; rw [e0] at u; omega)
                  obtain ⟨q75_, b74_⟩ : (Int32.toInt ((4 * n1) + (n2 - n2 / 4 * 4)) = Int32.toInt (4 * n1) + Int32.toInt (n2 - n2 / 4 * 4)) ∧ (0 ≤ Int32.toInt ((4 * n1) + (n2 - n2 / 4 * 4)) ∧ Int32.toInt ((4 * n1) + (n2 - n2 / 4 * 4)) ≤ 27) := zadd_r (4 * n1) (n2 - n2 / 4 * 4) 0 27 b72_ b73_ (by decide) (by decide) (by decide) (by decide)
                  have b76_ : 0 ≤ Int32.toInt (M.1 130 (Int32.toNatClampNeg ((4 * n1) + (n2 - n2 / 4 * 4)))) ∧ Int32.toInt (M.1 130 (Int32.toNatClampNeg ((4 * n1) + (n2 - n2 / 4 * 4)))) ≤ 9 := pvok_r hok 130 (Int32.toNatClampNeg ((4 * n1) + (n2 - n2 / 4 * 4))) rfl
                  obtain ⟨q78_, b77_⟩ : (Int32.toInt ((2 * (M.1 142 (Int32.toNatClampNeg ((99 * n1) + (n2 - (M.1 124 3)))))) + (M.1 130 (Int32.toNatClampNeg ((4 * n1) + (n2 - n2 / 4 * 4))))) = Int32.toInt (2 * (M.1 142 (Int32.toNatClampNeg ((99 * n1) + (n2 - (M.1 124 3)))))) + Int32.toInt (M.1 130 (Int32.toNatClampNeg ((4 * n1) + (n2 - n2 / 4 * 4))))) ∧ (0 ≤ Int32.toInt ((2 * (M.1 142 (Int32.toNatClampNeg ((99 * n1) + (n2 - (M.1 124 3)))))) + (M.1 130 (Int32.toNatClampNeg ((4 * n1) + (n2 - n2 / 4 * 4))))) ∧ Int32.toInt ((2 * (M.1 142 (Int32.toNatClampNeg ((99 * n1) + (n2 - (M.1 124 3)))))) + (M.1 130 (Int32.toNatClampNeg ((4 * n1) + (n2 - n2 / 4 * 4))))) ≤ 12009) := zadd_r (2 * (M.1 142 (Int32.toNatClampNeg ((99 * n1) + (n2 - (M.1 124 3)))))) (M.1 130 (Int32.toNatClampNeg ((4 * n1) + (n2 - n2 / 4 * 4)))) 0 12009 b70_ b76_ (by decide) (by decide) (by decide) (by decide)
                  refine pw_blk hT 14 (S' := (159, [some (pvR 124), some (pvI n1), some (pvI n2), some (pvI (n2 - (M.1 124 3))), some (pvI (M.1 142 (Int32.toNatClampNeg ((99 * n1) + (n2 - (M.1 124 3))))))], [pvI ((2 * (M.1 142 (Int32.toNatClampNeg ((99 * n1) + (n2 - (M.1 124 3)))))) + (M.1 130 (Int32.toNatClampNeg ((4 * n1) + (n2 - n2 / 4 * 4)))))], M)) rfl ⟨trivial, trivial, trivial, trivial, rfl, trivial, trivial, trivial, trivial, trivial, (by decide), trivial, ⟨rfl, (zr_in (n := 28) b74_ (by decide) (by decide))⟩, trivial, trivial⟩ ?_
                  exact pw_ret hT rfl (r := some (pvI ((2 * (M.1 142 (Int32.toNatClampNeg ((99 * n1) + (n2 - (M.1 124 3)))))) + (M.1 130 (Int32.toNatClampNeg ((4 * n1) + (n2 - n2 / 4 * 4))))))) (M' := M) ⟨rfl, rfl⟩ ⟨⟨_, rfl, b77_⟩, rfl⟩
                · have b79_ : 0 ≤ Int32.toInt (M.1 125 (Int32.toNatClampNeg n1)) ∧ Int32.toInt (M.1 125 (Int32.toNatClampNeg n1)) ≤ 1 := (by have u0 := b35_; have u9 := (show _ ∧ _ from ⟨(not_congr (zi_eq _ _)).mp c67_, (show 6 ≤ Int32.toInt 6 ∧ Int32.toInt 6 ≤ 6 from (by decide))⟩); have v1 := (not_congr (zi_eq _ _)).mp c57_; have w1 : (5 : Int32).toInt = 5 := (by decide); have v2 := (not_congr (zi_eq _ _)).mp c44_; have w2 : (4 : Int32).toInt = 4 := (by decide); have v3 := (not_congr (zi_eq _ _)).mp c40_; have w3 : (3 : Int32).toInt = 3 := (by decide); have v4 := (not_congr (zi_eq _ _)).mp c36_; have w4 : (2 : Int32).toInt = 2 := (by decide); omega)
                  show PW 26 d (160, [some (pvR 124), some (pvI n1), some (pvI n2), some (pvI (n2 - (M.1 124 3))), some (pvI (M.1 142 (Int32.toNatClampNeg ((99 * n1) + (n2 - (M.1 124 3))))))], [], M) _
                  refine pw_blk hT 1 (S' := (162, [some (pvR 124), some (pvI n1), some (pvI n2), some (pvI (n2 - (M.1 124 3))), some (pvI (M.1 142 (Int32.toNatClampNeg ((99 * n1) + (n2 - (M.1 124 3))))))], [pvI (M.1 142 (Int32.toNatClampNeg ((99 * n1) + (n2 - (M.1 124 3)))))], M)) rfl ⟨trivial, trivial⟩ ?_
                  exact pw_ret hT rfl (r := some (pvI (M.1 142 (Int32.toNatClampNeg ((99 * n1) + (n2 - (M.1 124 3))))))) (M' := M) ⟨rfl, rfl⟩ ⟨⟨_, rfl, (zr_wide b34_ (by decide) (by decide))⟩, rfl⟩
set_option maxHeartbeats 4000000 in
set_option maxRecDepth 10000 in
theorem sf_X10_harmAt_124_x (M : pvM) (hok : pvOk M) (n1 : Int32) (hn1 : 0 ≤ Int32.toInt n1 ∧ Int32.toInt n1 ≤ 200000) (d : Nat) : PW 27 d (0, [some (pvR 124), some (pvI n1), none, none], [], M) (fun r X => (∃ x : Int32, r = some (pvI x) ∧ 0 ≤ Int32.toInt x ∧ Int32.toInt x ≤ 84700) ∧ X = M) := by
  have hT : pvdom 27 = pvD_27 := rfl
  refine pw_blk hT 4 (S' := (4, [some (pvR 124), some (pvI n1), some (pvI 0), some (pvI 0)], [], M)) rfl ⟨trivial, trivial, trivial, trivial, trivial⟩ ?_
  have hlz47_ : ∀ (nz47_ : Nat) (i2z47_ : Int32) (i3z47_ : Int32), (0 ≤ Int32.toInt i2z47_ ∧ Int32.toInt i2z47_ ≤ 84700) → (0 ≤ Int32.toInt i3z47_ ∧ Int32.toInt i3z47_ ≤ 7) → (Int32.toInt i2z47_ ≤ 12100 * Int32.toInt i3z47_) → (0 ≤ Int32.toInt i2z47_) → (zhide ((8 - Int32.toInt i3z47_).toNat < nz47_)) → PW 27 d (4, [some (pvR 124), some (pvI n1), some (pvI i2z47_), some (pvI i3z47_)], [], M) (fun r X => (∃ x : Int32, r = some (pvI x) ∧ 0 ≤ Int32.toInt x ∧ Int32.toInt x ≤ 84700) ∧ X = M) := by
    intro nz47_
    induction nz47_ with
    | zero => intro i2z47_ i3z47_ h2z47_ h3z47_ j0z47_ j1z47_ hmz47_; exact absurd (zshow hmz47_) (Nat.not_lt_zero _)
    | succ nz47_ ihz47_ =>
      intro i2z47_ i3z47_ h2z47_ h3z47_ j0z47_ j1z47_ hmz47_
      have b48_ : 0 ≤ Int32.toInt (M.1 124 0) ∧ Int32.toInt (M.1 124 0) ≤ 7 := pvok_r hok 124 0 rfl
      refine pw_blk hT 3 (S' := (9, [some (pvR 124), some (pvI n1), some (pvI i2z47_), some (pvI i3z47_)], [pvI (M.1 124 0), pvI i3z47_], M)) rfl ⟨trivial, trivial, rfl, trivial⟩ ?_
      refine pw_ic hT (c := (M.1 124 0) ≤ i3z47_) rfl rfl (fun c49_ => ?_) (fun c49_ => ?_)
      · have d50_ : Int32.toInt (M.1 124 0) ≤ Int32.toInt i3z47_ := (zi_le _ _).mp c49_
        refine pw_blk hT 1 (S' := (28, [some (pvR 124), some (pvI n1), some (pvI i2z47_), some (pvI i3z47_)], [pvI i2z47_], M)) rfl ⟨trivial, trivial⟩ ?_
        exact pw_ret hT rfl (r := some (pvI i2z47_)) (M' := M) ⟨rfl, rfl⟩ ⟨⟨_, rfl, h2z47_⟩, rfl⟩
      · have b51_ : 1 ≤ Int32.toInt (M.1 124 0) ∧ Int32.toInt (M.1 124 0) ≤ 7 := zr_nle_l 1 c49_ b48_ h3z47_ (by decide)
        have b52_ : 0 ≤ Int32.toInt i3z47_ ∧ Int32.toInt i3z47_ ≤ 6 := zr_nle_r 6 c49_ h3z47_ b51_ (by decide)
        have d53_ : Int32.toInt (M.1 124 0) > Int32.toInt i3z47_ := Int.not_le.mp ((not_congr (zi_le _ _)).mp c49_)
        refine pw_blk hT 4 (S' := (16, [some (pvR 124), some (pvI n1), some (pvI i2z47_), some (pvI i3z47_)], [pvI n1, pvI i3z47_, pvR 124, pvI i2z47_], M)) rfl ⟨trivial, trivial, trivial, trivial, trivial⟩ ?_
        refine pw_callGp hT (as := [pvR 124, pvI i3z47_, pvI n1]) (lo1 := [some (pvR 124), some (pvI i3z47_), some (pvI n1), none, none]) (d1 := d) (rest := [pvI i2z47_]) rfl rfl rfl rfl rfl (fun _ => rfl) (Nat.zero_le _) rfl rfl rfl (sf_X10_harm_124_x_x M hok i3z47_ n1 b52_ hn1 d) (fun x54_ b56_ => ?_)
        obtain ⟨q60_, b59_⟩ : (Int32.toInt (i2z47_ + x54_) = Int32.toInt i2z47_ + Int32.toInt x54_) ∧ (0 ≤ Int32.toInt (i2z47_ + x54_) ∧ Int32.toInt (i2z47_ + x54_) ≤ 96709) := zadd_r i2z47_ x54_ 0 96709 h2z47_ b56_ (by decide) (by decide) (by decide) (by decide)
        obtain ⟨q62_, b61_⟩ : (Int32.toInt (i3z47_ + 1) = Int32.toInt i3z47_ + 1) ∧ (1 ≤ Int32.toInt (i3z47_ + 1) ∧ Int32.toInt (i3z47_ + 1) ≤ 7) := zadd_k i3z47_ 1 1 1 7 b52_ (by decide) (by decide) (by decide) (by decide) (by decide)
        refine pw_blk hT 4 (S' := (4, [some (pvR 124), some (pvI n1), some (pvI (i2z47_ + x54_)), some (pvI (i3z47_ + 1))], [], M)) rfl ⟨trivial, trivial, trivial, trivial, trivial⟩ ?_
        have j63_ : Int32.toInt (i2z47_ + x54_) ≤ 12100 * Int32.toInt (i3z47_ + 1) := by omega
        have j64_ : 0 ≤ Int32.toInt (i2z47_ + x54_) := by omega
        exact ihz47_ (i2z47_ + x54_) (i3z47_ + 1) (by have u0 := b59_; omega) (zr_wide b61_ (by decide) (by decide)) j63_ j64_ (zhid (pvms_up (zshow hmz47_) h3z47_ q62_ (by decide) (by decide)))
  have u65_ : Int32.toInt 0 = 0 := by decide
  have j66_ : Int32.toInt 0 ≤ 12100 * Int32.toInt 0 := by omega
  have j67_ : 0 ≤ Int32.toInt 0 := by omega
  exact hlz47_ _ 0 0 (zr_wide (show 0 ≤ Int32.toInt 0 ∧ Int32.toInt 0 ≤ 0 from (by decide)) (by decide) (by decide)) (zr_wide (show 0 ≤ Int32.toInt 0 ∧ Int32.toInt 0 ≤ 0 from (by decide)) (by decide) (by decide)) j66_ j67_ (zhid (Nat.lt_succ_self _))
set_option maxHeartbeats 4000000 in
set_option maxRecDepth 10000 in
theorem sf_X10_harmFrom_124_x_x (M : pvM) (hok : pvOk M) (n1 : Int32) (n2 : Int32) (hn1 : 0 ≤ Int32.toInt n1 ∧ Int32.toInt n1 ≤ 200000) (hn2 : 0 ≤ Int32.toInt n2 ∧ Int32.toInt n2 ≤ 200000) (d : Nat) : PW 28 d (0, [some (pvR 124), some (pvI n1), some (pvI n2), none, none], [], M) (fun r X => (∃ x : Int32, r = some (pvI x) ∧ 0 ≤ Int32.toInt x ∧ Int32.toInt x ≤ 9000000) ∧ X = M) := by
  have hT : pvdom 28 = pvD_28 := rfl
  have b1_ : 0 ≤ Int32.toInt (M.1 124 3) ∧ Int32.toInt (M.1 124 3) ≤ 108 := pvok_r hok 124 3 rfl
  refine pw_blk hT 5 (S' := (7, [some (pvR 124), some (pvI n1), some (pvI n2), some (pvI 0), none], [pvI (M.1 124 3), pvI n1], M)) rfl ⟨trivial, trivial, trivial, trivial, rfl, trivial⟩ ?_
  refine pw_ic hT (c := (M.1 124 3) ≤ n1) rfl rfl (fun c2_ => ?_) (fun c2_ => ?_)
  · have d3_ : Int32.toInt (M.1 124 3) ≤ Int32.toInt n1 := (zi_le _ _).mp c2_
    refine pw_blk hT 2 (S' := (20, [some (pvR 124), some (pvI n1), some (pvI n2), some (pvI 0), some (pvI n1)], [], M)) rfl ⟨trivial, trivial, trivial⟩ ?_
    have hlz83_ : ∀ (nz83_ : Nat) (i3z83_ : Int32) (i4z83_ : Int32), (0 ≤ Int32.toInt i3z83_ ∧ Int32.toInt i3z83_ ≤ 9000000) → (0 ≤ Int32.toInt i4z83_ ∧ Int32.toInt i4z83_ ≤ 200000) → (Int32.toInt i3z83_ ≤ 90000 * (Int32.toInt i4z83_ - Int32.toInt (M.1 124 3))) → (0 ≤ Int32.toInt i3z83_) → (Int32.toInt (M.1 124 3) ≤ Int32.toInt i4z83_) → (Int32.toInt i4z83_ ≤ Int32.toInt (M.1 124 3) + 99 ∨ Int32.toInt i3z83_ = 0) → (zhide ((200001 - Int32.toInt i4z83_).toNat < nz83_)) → PW 28 d (20, [some (pvR 124), some (pvI n1), some (pvI n2), some (pvI i3z83_), some (pvI i4z83_)], [], M) (fun r X => (∃ x : Int32, r = some (pvI x) ∧ 0 ≤ Int32.toInt x ∧ Int32.toInt x ≤ 9000000) ∧ X = M) := by
      intro nz83_
      induction nz83_ with
      | zero => intro i3z83_ i4z83_ h3z83_ h4z83_ j0z83_ j1z83_ j2z83_ j3z83_ hmz83_; exact absurd (zshow hmz83_) (Nat.not_lt_zero _)
      | succ nz83_ ihz83_ =>
        intro i3z83_ i4z83_ h3z83_ h4z83_ j0z83_ j1z83_ j2z83_ j3z83_ hmz83_
        refine pw_blk hT 2 (S' := (23, [some (pvR 124), some (pvI n1), some (pvI n2), some (pvI i3z83_), some (pvI i4z83_)], [pvI n2, pvI i4z83_], M)) rfl ⟨trivial, trivial, trivial⟩ ?_
        refine pw_ic hT (c := n2 ≤ i4z83_) rfl rfl (fun c84_ => ?_) (fun c84_ => ?_)
        · have d85_ : Int32.toInt n2 ≤ Int32.toInt i4z83_ := (zi_le _ _).mp c84_
          refine pw_blk hT 1 (S' := (56, [some (pvR 124), some (pvI n1), some (pvI n2), some (pvI i3z83_), some (pvI i4z83_)], [pvI i3z83_], M)) rfl ⟨trivial, trivial⟩ ?_
          exact pw_ret hT rfl (r := some (pvI i3z83_)) (M' := M) ⟨rfl, rfl⟩ ⟨⟨_, rfl, h3z83_⟩, rfl⟩
        · have b86_ : 1 ≤ Int32.toInt n2 ∧ Int32.toInt n2 ≤ 200000 := zr_nle_l 1 c84_ hn2 h4z83_ (by decide)
          have b87_ : 0 ≤ Int32.toInt i4z83_ ∧ Int32.toInt i4z83_ ≤ 199999 := zr_nle_r 199999 c84_ h4z83_ b86_ (by decide)
          have d88_ : Int32.toInt n2 > Int32.toInt i4z83_ := Int.not_le.mp ((not_congr (zi_le _ _)).mp c84_)
          refine pw_blk hT 4 (S' := (33, [some (pvR 124), some (pvI n1), some (pvI n2), some (pvI i3z83_), some (pvI i4z83_)], [pvR 124, pvI (M.1 124 3), pvI i4z83_], M)) rfl ⟨trivial, trivial, rfl, trivial, trivial⟩ ?_
          refine pw_callGp hT (as := [pvR 124]) (lo1 := [some (pvR 124)]) (d1 := d) (rest := [pvI (M.1 124 3), pvI i4z83_]) rfl rfl rfl rfl rfl (fun _ => rfl) (Nat.zero_le _) rfl rfl rfl (sf_X10_lastNow_124 M hok d) (fun x89_ b91_ => ?_)
          obtain ⟨q95_, b94_⟩ : (Int32.toInt ((M.1 124 3) + x89_) = Int32.toInt (M.1 124 3) + Int32.toInt x89_) ∧ (0 ≤ Int32.toInt ((M.1 124 3) + x89_) ∧ Int32.toInt ((M.1 124 3) + x89_) ≤ 207) := zadd_r (M.1 124 3) x89_ 0 207 b1_ b91_ (by decide) (by decide) (by decide) (by decide)
          refine pw_blk hT 1 (S' := (37, [some (pvR 124), some (pvI n1), some (pvI n2), some (pvI i3z83_), some (pvI i4z83_)], [pvI ((M.1 124 3) + x89_), pvI i4z83_], M)) rfl ⟨trivial, trivial⟩ ?_
          refine pw_ic hT (c := ((M.1 124 3) + x89_) ≤ i4z83_) rfl rfl (fun c96_ => ?_) (fun c96_ => ?_)
          · have d97_ : Int32.toInt ((M.1 124 3) + x89_) ≤ Int32.toInt i4z83_ := (zi_le _ _).mp c96_
            refine pw_blk hT 1 (S' := (56, [some (pvR 124), some (pvI n1), some (pvI n2), some (pvI i3z83_), some (pvI i4z83_)], [pvI i3z83_], M)) rfl ⟨trivial, trivial⟩ ?_
            exact pw_ret hT rfl (r := some (pvI i3z83_)) (M' := M) ⟨rfl, rfl⟩ ⟨⟨_, rfl, h3z83_⟩, rfl⟩
          · have b98_ : 1 ≤ Int32.toInt ((M.1 124 3) + x89_) ∧ Int32.toInt ((M.1 124 3) + x89_) ≤ 207 := zr_nle_l 1 c96_ b94_ b87_ (by decide)
            have b99_ : 0 ≤ Int32.toInt i4z83_ ∧ Int32.toInt i4z83_ ≤ 206 := zr_nle_r 206 c96_ b87_ b98_ (by decide)
            have d100_ : Int32.toInt ((M.1 124 3) + x89_) > Int32.toInt i4z83_ := Int.not_le.mp ((not_congr (zi_le _ _)).mp c96_)
            refine pw_blk hT 3 (S' := (44, [some (pvR 124), some (pvI n1), some (pvI n2), some (pvI i3z83_), some (pvI i4z83_)], [pvI i4z83_, pvR 124, pvI i3z83_], M)) rfl ⟨trivial, trivial, trivial, trivial⟩ ?_
            refine pw_callGp hT (as := [pvR 124, pvI i4z83_]) (lo1 := [some (pvR 124), some (pvI i4z83_), none, none]) (d1 := d) (rest := [pvI i3z83_]) rfl rfl rfl rfl rfl (fun _ => rfl) (Nat.zero_le _) rfl rfl rfl (sf_X10_harmAt_124_x M hok i4z83_ (zr_wide b99_ (by decide) (by decide)) d) (fun x101_ b103_ => ?_)
            obtain ⟨q107_, b106_⟩ : (Int32.toInt (i3z83_ + x101_) = Int32.toInt i3z83_ + Int32.toInt x101_) ∧ (0 ≤ Int32.toInt (i3z83_ + x101_) ∧ Int32.toInt (i3z83_ + x101_) ≤ 9084700) := zadd_r i3z83_ x101_ 0 9084700 h3z83_ b103_ (by decide) (by decide) (by decide) (by decide)
            obtain ⟨q109_, b108_⟩ : (Int32.toInt (i4z83_ + 1) = Int32.toInt i4z83_ + 1) ∧ (1 ≤ Int32.toInt (i4z83_ + 1) ∧ Int32.toInt (i4z83_ + 1) ≤ 207) := zadd_k i4z83_ 1 1 1 207 b99_ (by decide) (by decide) (by decide) (by decide) (by decide)
            refine pw_blk hT 4 (S' := (20, [some (pvR 124), some (pvI n1), some (pvI n2), some (pvI (i3z83_ + x101_)), some (pvI (i4z83_ + 1))], [], M)) rfl ⟨trivial, trivial, trivial, trivial, trivial⟩ ?_
            have j110_ : Int32.toInt (i3z83_ + x101_) ≤ 90000 * (Int32.toInt (i4z83_ + 1) - Int32.toInt (M.1 124 3)) := by omega
            have j111_ : 0 ≤ Int32.toInt (i3z83_ + x101_) := by omega
            have j112_ : Int32.toInt (M.1 124 3) ≤ Int32.toInt (i4z83_ + 1) := by omega
            have j113_ : Int32.toInt (i4z83_ + 1) ≤ Int32.toInt (M.1 124 3) + 99 ∨ Int32.toInt (i3z83_ + x101_) = 0 := by omega
            exact ihz83_ (i3z83_ + x101_) (i4z83_ + 1) (by have u0 := b106_; omega) (zr_wide b108_ (by decide) (by decide)) j110_ j111_ j112_ j113_ (zhid (pvms_up (zshow hmz83_) h4z83_ q109_ (by decide) (by decide)))
    have u114_ : Int32.toInt 0 = 0 := by decide
    have j115_ : Int32.toInt 0 ≤ 90000 * (Int32.toInt n1 - Int32.toInt (M.1 124 3)) := by omega
    have j116_ : 0 ≤ Int32.toInt 0 := by omega
    have j117_ : Int32.toInt (M.1 124 3) ≤ Int32.toInt n1 := by omega
    have j118_ : Int32.toInt n1 ≤ Int32.toInt (M.1 124 3) + 99 ∨ Int32.toInt 0 = 0 := by omega
    exact hlz83_ _ 0 n1 (zr_wide (show 0 ≤ Int32.toInt 0 ∧ Int32.toInt 0 ≤ 0 from (by decide)) (by decide) (by decide)) hn1 j115_ j116_ j117_ j118_ (zhid (Nat.lt_succ_self _))
  · have b119_ : 1 ≤ Int32.toInt (M.1 124 3) ∧ Int32.toInt (M.1 124 3) ≤ 108 := zr_nle_l 1 c2_ b1_ hn1 (by decide)
    have b120_ : 0 ≤ Int32.toInt n1 ∧ Int32.toInt n1 ≤ 107 := zr_nle_r 107 c2_ hn1 b119_ (by decide)
    have d121_ : Int32.toInt (M.1 124 3) > Int32.toInt n1 := Int.not_le.mp ((not_congr (zi_le _ _)).mp c2_)
    refine pw_blk hT 4 (S' := (20, [some (pvR 124), some (pvI n1), some (pvI n2), some (pvI 0), some (pvI (M.1 124 3))], [], M)) rfl ⟨trivial, rfl, trivial, trivial, trivial⟩ ?_
    have hlz201_ : ∀ (nz201_ : Nat) (i3z201_ : Int32) (i4z201_ : Int32), (0 ≤ Int32.toInt i3z201_ ∧ Int32.toInt i3z201_ ≤ 9000000) → (1 ≤ Int32.toInt i4z201_ ∧ Int32.toInt i4z201_ ≤ 207) → (Int32.toInt i3z201_ ≤ 90000 * (Int32.toInt i4z201_ - Int32.toInt (M.1 124 3))) → (0 ≤ Int32.toInt i3z201_) → (Int32.toInt (M.1 124 3) ≤ Int32.toInt i4z201_) → (Int32.toInt i4z201_ ≤ Int32.toInt (M.1 124 3) + 99 ∨ Int32.toInt i3z201_ = 0) → (zhide ((208 - Int32.toInt i4z201_).toNat < nz201_)) → PW 28 d (20, [some (pvR 124), some (pvI n1), some (pvI n2), some (pvI i3z201_), some (pvI i4z201_)], [], M) (fun r X => (∃ x : Int32, r = some (pvI x) ∧ 0 ≤ Int32.toInt x ∧ Int32.toInt x ≤ 9000000) ∧ X = M) := by
      intro nz201_
      induction nz201_ with
      | zero => intro i3z201_ i4z201_ h3z201_ h4z201_ j0z201_ j1z201_ j2z201_ j3z201_ hmz201_; exact absurd (zshow hmz201_) (Nat.not_lt_zero _)
      | succ nz201_ ihz201_ =>
        intro i3z201_ i4z201_ h3z201_ h4z201_ j0z201_ j1z201_ j2z201_ j3z201_ hmz201_
        refine pw_blk hT 2 (S' := (23, [some (pvR 124), some (pvI n1), some (pvI n2), some (pvI i3z201_), some (pvI i4z201_)], [pvI n2, pvI i4z201_], M)) rfl ⟨trivial, trivial, trivial⟩ ?_
        refine pw_ic hT (c := n2 ≤ i4z201_) rfl rfl (fun c202_ => ?_) (fun c202_ => ?_)
        · have b203_ : 0 ≤ Int32.toInt n2 ∧ Int32.toInt n2 ≤ 207 := zr_le_l 207 c202_ hn2 h4z201_ (by decide)
          have d204_ : Int32.toInt n2 ≤ Int32.toInt i4z201_ := (zi_le _ _).mp c202_
          refine pw_blk hT 1 (S' := (56, [some (pvR 124), some (pvI n1), some (pvI n2), some (pvI i3z201_), some (pvI i4z201_)], [pvI i3z201_], M)) rfl ⟨trivial, trivial⟩ ?_
          exact pw_ret hT rfl (r := some (pvI i3z201_)) (M' := M) ⟨rfl, rfl⟩ ⟨⟨_, rfl, h3z201_⟩, rfl⟩
        · have b205_ : 2 ≤ Int32.toInt n2 ∧ Int32.toInt n2 ≤ 200000 := zr_nle_l 2 c202_ hn2 h4z201_ (by decide)
          have d206_ : Int32.toInt n2 > Int32.toInt i4z201_ := Int.not_le.mp ((not_congr (zi_le _ _)).mp c202_)
          refine pw_blk hT 4 (S' := (33, [some (pvR 124), some (pvI n1), some (pvI n2), some (pvI i3z201_), some (pvI i4z201_)], [pvR 124, pvI (M.1 124 3), pvI i4z201_], M)) rfl ⟨trivial, trivial, rfl, trivial, trivial⟩ ?_
          refine pw_callGp hT (as := [pvR 124]) (lo1 := [some (pvR 124)]) (d1 := d) (rest := [pvI (M.1 124 3), pvI i4z201_]) rfl rfl rfl rfl rfl (fun _ => rfl) (Nat.zero_le _) rfl rfl rfl (sf_X10_lastNow_124 M hok d) (fun x207_ b209_ => ?_)
          obtain ⟨q213_, b212_⟩ : (Int32.toInt ((M.1 124 3) + x207_) = Int32.toInt (M.1 124 3) + Int32.toInt x207_) ∧ (1 ≤ Int32.toInt ((M.1 124 3) + x207_) ∧ Int32.toInt ((M.1 124 3) + x207_) ≤ 207) := zadd_r (M.1 124 3) x207_ 1 207 b119_ b209_ (by decide) (by decide) (by decide) (by decide)
          refine pw_blk hT 1 (S' := (37, [some (pvR 124), some (pvI n1), some (pvI n2), some (pvI i3z201_), some (pvI i4z201_)], [pvI ((M.1 124 3) + x207_), pvI i4z201_], M)) rfl ⟨trivial, trivial⟩ ?_
          refine pw_ic hT (c := ((M.1 124 3) + x207_) ≤ i4z201_) rfl rfl (fun c214_ => ?_) (fun c214_ => ?_)
          · have d215_ : Int32.toInt ((M.1 124 3) + x207_) ≤ Int32.toInt i4z201_ := (zi_le _ _).mp c214_
            refine pw_blk hT 1 (S' := (56, [some (pvR 124), some (pvI n1), some (pvI n2), some (pvI i3z201_), some (pvI i4z201_)], [pvI i3z201_], M)) rfl ⟨trivial, trivial⟩ ?_
            exact pw_ret hT rfl (r := some (pvI i3z201_)) (M' := M) ⟨rfl, rfl⟩ ⟨⟨_, rfl, h3z201_⟩, rfl⟩
          · have b216_ : 2 ≤ Int32.toInt ((M.1 124 3) + x207_) ∧ Int32.toInt ((M.1 124 3) + x207_) ≤ 207 := zr_nle_l 2 c214_ b212_ h4z201_ (by decide)
            have b217_ : 1 ≤ Int32.toInt i4z201_ ∧ Int32.toInt i4z201_ ≤ 206 := zr_nle_r 206 c214_ h4z201_ b216_ (by decide)
            have d218_ : Int32.toInt ((M.1 124 3) + x207_) > Int32.toInt i4z201_ := Int.not_le.mp ((not_congr (zi_le _ _)).mp c214_)
            refine pw_blk hT 3 (S' := (44, [some (pvR 124), some (pvI n1), some (pvI n2), some (pvI i3z201_), some (pvI i4z201_)], [pvI i4z201_, pvR 124, pvI i3z201_], M)) rfl ⟨trivial, trivial, trivial, trivial⟩ ?_
            refine pw_callGp hT (as := [pvR 124, pvI i4z201_]) (lo1 := [some (pvR 124), some (pvI i4z201_), none, none]) (d1 := d) (rest := [pvI i3z201_]) rfl rfl rfl rfl rfl (fun _ => rfl) (Nat.zero_le _) rfl rfl rfl (sf_X10_harmAt_124_x M hok i4z201_ (zr_wide b217_ (by decide) (by decide)) d) (fun x219_ b221_ => ?_)
            obtain ⟨q225_, b224_⟩ : (Int32.toInt (i3z201_ + x219_) = Int32.toInt i3z201_ + Int32.toInt x219_) ∧ (0 ≤ Int32.toInt (i3z201_ + x219_) ∧ Int32.toInt (i3z201_ + x219_) ≤ 9084700) := zadd_r i3z201_ x219_ 0 9084700 h3z201_ b221_ (by decide) (by decide) (by decide) (by decide)
            obtain ⟨q227_, b226_⟩ : (Int32.toInt (i4z201_ + 1) = Int32.toInt i4z201_ + 1) ∧ (2 ≤ Int32.toInt (i4z201_ + 1) ∧ Int32.toInt (i4z201_ + 1) ≤ 207) := zadd_k i4z201_ 1 1 2 207 b217_ (by decide) (by decide) (by decide) (by decide) (by decide)
            refine pw_blk hT 4 (S' := (20, [some (pvR 124), some (pvI n1), some (pvI n2), some (pvI (i3z201_ + x219_)), some (pvI (i4z201_ + 1))], [], M)) rfl ⟨trivial, trivial, trivial, trivial, trivial⟩ ?_
            have j228_ : Int32.toInt (i3z201_ + x219_) ≤ 90000 * (Int32.toInt (i4z201_ + 1) - Int32.toInt (M.1 124 3)) := by omega
            have j229_ : 0 ≤ Int32.toInt (i3z201_ + x219_) := by omega
            have j230_ : Int32.toInt (M.1 124 3) ≤ Int32.toInt (i4z201_ + 1) := by omega
            have j231_ : Int32.toInt (i4z201_ + 1) ≤ Int32.toInt (M.1 124 3) + 99 ∨ Int32.toInt (i3z201_ + x219_) = 0 := by omega
            exact ihz201_ (i3z201_ + x219_) (i4z201_ + 1) (by have u0 := b224_; omega) (zr_wide b226_ (by decide) (by decide)) j228_ j229_ j230_ j231_ (zhid (pvms_up (zshow hmz201_) h4z201_ q227_ (by decide) (by decide)))
    have u232_ : Int32.toInt 0 = 0 := by decide
    have j233_ : Int32.toInt 0 ≤ 90000 * (Int32.toInt (M.1 124 3) - Int32.toInt (M.1 124 3)) := by omega
    have j234_ : 0 ≤ Int32.toInt 0 := by omega
    have j235_ : Int32.toInt (M.1 124 3) ≤ Int32.toInt (M.1 124 3) := by omega
    have j236_ : Int32.toInt (M.1 124 3) ≤ Int32.toInt (M.1 124 3) + 99 ∨ Int32.toInt 0 = 0 := by omega
    exact hlz201_ _ 0 (M.1 124 3) (zr_wide (show 0 ≤ Int32.toInt 0 ∧ Int32.toInt 0 ≤ 0 from (by decide)) (by decide) (by decide)) (zr_wide b119_ (by decide) (by decide)) j233_ j234_ j235_ j236_ (zhid (Nat.lt_succ_self _))
set_option maxHeartbeats 4000000 in
set_option maxRecDepth 10000 in
theorem sf_X10_harmTillEnd_124 (M : pvM) (hok : pvOk M) (d : Nat) : PW 30 d (0, [some (pvR 124)], [], M) (fun r X => (∃ x : Int32, r = some (pvI x) ∧ 0 ≤ Int32.toInt x ∧ Int32.toInt x ≤ 9000000) ∧ X = M) := by
  have hT : pvdom 30 = pvD_30 := rfl
  have b1_ : 0 ≤ Int32.toInt (M.1 124 1) ∧ Int32.toInt (M.1 124 1) ≤ 9999 := pvok_r hok 124 1 rfl
  have b2_ : 0 ≤ Int32.toInt (M.1 124 3) ∧ Int32.toInt (M.1 124 3) ≤ 108 := pvok_r hok 124 3 rfl
  refine pw_blk hT 6 (S' := (10, [some (pvR 124)], [pvR 124, pvI (M.1 124 3), pvI (M.1 124 1), pvR 124], M)) rfl ⟨trivial, trivial, rfl, trivial, rfl, trivial, trivial⟩ ?_
  refine pw_callGp hT (as := [pvR 124]) (lo1 := [some (pvR 124)]) (d1 := d) (rest := [pvI (M.1 124 3), pvI (M.1 124 1), pvR 124]) rfl rfl rfl rfl rfl (fun _ => rfl) (Nat.zero_le _) rfl rfl rfl (sf_X10_lastNow_124 M hok d) (fun x3_ b5_ => ?_)
  obtain ⟨q9_, b8_⟩ : (Int32.toInt ((M.1 124 3) + x3_) = Int32.toInt (M.1 124 3) + Int32.toInt x3_) ∧ (0 ≤ Int32.toInt ((M.1 124 3) + x3_) ∧ Int32.toInt ((M.1 124 3) + x3_) ≤ 207) := zadd_r (M.1 124 3) x3_ 0 207 b2_ b5_ (by decide) (by decide) (by decide) (by decide)
  refine pw_blk hT 1 (S' := (14, [some (pvR 124)], [pvI ((M.1 124 3) + x3_), pvI (M.1 124 1), pvR 124], M)) rfl ⟨trivial, trivial⟩ ?_
  refine pw_callGp hT (as := [pvR 124, pvI (M.1 124 1), pvI ((M.1 124 3) + x3_)]) (lo1 := [some (pvR 124), some (pvI (M.1 124 1)), some (pvI ((M.1 124 3) + x3_)), none, none]) (d1 := d) (rest := []) rfl rfl rfl rfl rfl (fun _ => rfl) (Nat.zero_le _) rfl rfl rfl (sf_X10_harmFrom_124_x_x M hok (M.1 124 1) ((M.1 124 3) + x3_) (zr_wide b1_ (by decide) (by decide)) (zr_wide b8_ (by decide) (by decide)) d) (fun x10_ b12_ => ?_)
  exact pw_ret hT rfl (r := some (pvI x10_)) (M' := M) ⟨rfl, rfl⟩ ⟨⟨_, rfl, b12_⟩, rfl⟩
def fpL_X10_costOfPath_124_x : List (Nat × Nat × Nat) := [(0, 143, 0)]
def fp_X10_costOfPath_124_x (q k : Nat) : Bool := pvfp fpL_X10_costOfPath_124_x q k
theorem fp_X10_costOfPath_124_x_fp_X10_goes_124_x_x_x (a b : Nat) (h : fp_X10_goes_124_x_x_x a b = true) : fp_X10_costOfPath_124_x a b = true := pvfp_sub (l1 := fpL_X10_goes_124_x_x_x) (l2 := fpL_X10_costOfPath_124_x) (by decide) a b h
theorem fp_X10_costOfPath_124_x_fp_X10_layOpen_124 (a b : Nat) (h : fp_X10_layOpen_124 a b = true) : fp_X10_costOfPath_124_x a b = true := pvfp_sub (l1 := fpL_X10_layOpen_124) (l2 := fpL_X10_costOfPath_124_x) (by decide) a b h
set_option maxHeartbeats 4000000 in
set_option maxRecDepth 10000 in
theorem sf_X10_costOfPath_124_x (M : pvM) (hok : pvOk M) (n1 : Int32) (hn1 : 0 ≤ Int32.toInt n1 ∧ Int32.toInt n1 ≤ 60) (d : Nat) : PW 14 d (0, [some (pvR 124), some (pvI n1), none], [], M) (fun r X => (∃ x : Int32, r = some (pvI x) ∧ 0 ≤ Int32.toInt x ∧ Int32.toInt x ≤ 9000000) ∧ pvOk X ∧ pvFr fp_X10_costOfPath_124_x M X) := by
  have hT : pvdom 14 = pvD_14 := rfl
  refine pw_blk hT 1 (S' := (1, [some (pvR 124), some (pvI n1), none], [pvR 124], M)) rfl ⟨trivial, trivial⟩ ?_
  refine pw_callV hT (as := [pvR 124]) (lo1 := [some (pvR 124), none]) (d1 := d) (rest := []) rfl rfl rfl rfl rfl (fun _ => rfl) (Nat.zero_le _) rfl rfl rfl (sf_X10_layOpen_124 M hok d) (fun M2_ o4_ g5_ => ?_)
  have f6_ : pvFr fp_X10_costOfPath_124_x M M2_ := pvfr_t g5_ pvfr_0 fp_X10_costOfPath_124_x_fp_X10_layOpen_124
  have b7_ : 0 ≤ Int32.toInt (M2_.1 124 35) ∧ Int32.toInt (M2_.1 124 35) ≤ 7 := pvok_r o4_ 124 35 rfl
  have b8_ : 0 ≤ Int32.toInt (M2_.1 124 1) ∧ Int32.toInt (M2_.1 124 1) ≤ 9999 := pvok_r o4_ 124 1 rfl
  obtain ⟨q10_, b9_⟩ : (Int32.toInt ((M2_.1 124 1) + n1) = Int32.toInt (M2_.1 124 1) + Int32.toInt n1) ∧ (0 ≤ Int32.toInt ((M2_.1 124 1) + n1) ∧ Int32.toInt ((M2_.1 124 1) + n1) ≤ 10059) := zadd_r (M2_.1 124 1) n1 0 10059 b8_ hn1 (by decide) (by decide) (by decide) (by decide)
  refine pw_blk hT 8 (S' := (16, [some (pvR 124), some (pvI n1), none], [pvI ((M2_.1 124 1) + n1), pvI (M2_.1 124 35), pvI 0, pvR 124], M2_)) rfl ⟨trivial, trivial, trivial, rfl, trivial, rfl, trivial, trivial, trivial⟩ ?_
  refine pw_callG hT (as := [pvR 124, pvI 0, pvI (M2_.1 124 35), pvI ((M2_.1 124 1) + n1)]) (lo1 := [some (pvR 124), some (pvI 0), some (pvI (M2_.1 124 35)), some (pvI ((M2_.1 124 1) + n1)), none, none, none, none, none]) (d1 := d) (rest := []) rfl rfl rfl rfl rfl (fun _ => rfl) (Nat.zero_le _) rfl rfl rfl (sf_X10_goes_124_x_x_x M2_ o4_ 0 (M2_.1 124 35) ((M2_.1 124 1) + n1) (zr_wide (show 0 ≤ Int32.toInt 0 ∧ Int32.toInt 0 ≤ 0 from (by decide)) (by decide) (by decide)) b7_ (zr_wide b9_ (by decide) (by decide)) d) (fun x11_ M12_ b13_ o14_ g15_ => ?_)
  have f16_ : pvFr fp_X10_costOfPath_124_x M M12_ := pvfr_t g15_ f6_ fp_X10_costOfPath_124_x_fp_X10_goes_124_x_x_x
  refine pw_blk hT 2 (S' := (21, [some (pvR 124), some (pvI n1), some (pvI x11_)], [pvR 124], M12_)) rfl ⟨trivial, trivial, trivial⟩ ?_
  refine pw_callGp hT (as := [pvR 124]) (lo1 := [some (pvR 124)]) (d1 := d) (rest := []) rfl rfl rfl rfl rfl (fun _ => rfl) (Nat.zero_le _) rfl rfl rfl (sf_X10_harmTillEnd_124 M12_ o14_ d) (fun x17_ b19_ => ?_)
  exact pw_ret hT rfl (r := some (pvI x17_)) (M' := M12_) ⟨rfl, rfl⟩ ⟨⟨_, rfl, b19_⟩, o14_, f16_⟩
set_option maxHeartbeats 4000000 in
set_option maxRecDepth 10000 in
theorem sf_X10_openSet_124 (M : pvM) (hok : pvOk M) (d : Nat) : PW 61 d (0, [some (pvR 124), none, none], [], M) (fun r X => (∃ x : Int32, r = some (pvI x) ∧ 0 ≤ Int32.toInt x ∧ Int32.toInt x ≤ 127) ∧ X = M) := by
  have hT : pvdom 61 = pvD_61 := rfl
  refine pw_blk hT 4 (S' := (4, [some (pvR 124), some (pvI 0), some (pvI 0)], [], M)) rfl ⟨trivial, trivial, trivial, trivial, trivial⟩ ?_
  have hlz52_ : ∀ (nz52_ : Nat) (i1z52_ : Int32) (i2z52_ : Int32), (0 ≤ Int32.toInt i1z52_ ∧ Int32.toInt i1z52_ ≤ 127) → (0 ≤ Int32.toInt i2z52_ ∧ Int32.toInt i2z52_ ≤ 7) → (zhide ((8 - Int32.toInt i2z52_).toNat < nz52_)) → PW 61 d (4, [some (pvR 124), some (pvI i1z52_), some (pvI i2z52_)], [], M) (fun r X => (∃ x : Int32, r = some (pvI x) ∧ 0 ≤ Int32.toInt x ∧ Int32.toInt x ≤ 127) ∧ X = M) := by
    intro nz52_
    induction nz52_ with
    | zero => intro i1z52_ i2z52_ h1z52_ h2z52_ hmz52_; exact absurd (zshow hmz52_) (Nat.not_lt_zero _)
    | succ nz52_ ihz52_ =>
      intro i1z52_ i2z52_ h1z52_ h2z52_ hmz52_
      have b53_ : 0 ≤ Int32.toInt (M.1 124 0) ∧ Int32.toInt (M.1 124 0) ≤ 7 := pvok_r hok 124 0 rfl
      refine pw_blk hT 3 (S' := (9, [some (pvR 124), some (pvI i1z52_), some (pvI i2z52_)], [pvI (M.1 124 0), pvI i2z52_], M)) rfl ⟨trivial, trivial, rfl, trivial⟩ ?_
      refine pw_ic hT (c := (M.1 124 0) ≤ i2z52_) rfl rfl (fun c54_ => ?_) (fun c54_ => ?_)
      · have d55_ : Int32.toInt (M.1 124 0) ≤ Int32.toInt i2z52_ := (zi_le _ _).mp c54_
        refine pw_blk hT 1 (S' := (38, [some (pvR 124), some (pvI i1z52_), some (pvI i2z52_)], [pvI i1z52_], M)) rfl ⟨trivial, trivial⟩ ?_
        exact pw_ret hT rfl (r := some (pvI i1z52_)) (M' := M) ⟨rfl, rfl⟩ ⟨⟨_, rfl, h1z52_⟩, rfl⟩
      · have b56_ : 1 ≤ Int32.toInt (M.1 124 0) ∧ Int32.toInt (M.1 124 0) ≤ 7 := zr_nle_l 1 c54_ b53_ h2z52_ (by decide)
        have b57_ : 0 ≤ Int32.toInt i2z52_ ∧ Int32.toInt i2z52_ ≤ 6 := zr_nle_r 6 c54_ h2z52_ b56_ (by decide)
        have d58_ : Int32.toInt (M.1 124 0) > Int32.toInt i2z52_ := Int.not_le.mp ((not_congr (zi_le _ _)).mp c54_)
        have b59_ : 0 ≤ Int32.toInt (M.1 131 (Int32.toNatClampNeg i2z52_)) ∧ Int32.toInt (M.1 131 (Int32.toNatClampNeg i2z52_)) ≤ 1 := pvok_r hok 131 (Int32.toNatClampNeg i2z52_) rfl
        refine pw_blk hT 5 (S' := (19, [some (pvR 124), some (pvI i1z52_), some (pvI i2z52_)], [pvI (M.1 131 (Int32.toNatClampNeg i2z52_)), pvI i1z52_], M)) rfl ⟨trivial, trivial, rfl, trivial, ⟨rfl, (zr_in (n := 7) b57_ (by decide) (by decide))⟩, trivial⟩ ?_
        refine pw_if hT (c := (M.1 131 (Int32.toNatClampNeg i2z52_)) = 0) rfl rfl (fun c60_ => ?_) (fun c60_ => ?_)
        · have b61_ : 0 ≤ Int32.toInt (M.1 131 (Int32.toNatClampNeg i2z52_)) ∧ Int32.toInt (M.1 131 (Int32.toNatClampNeg i2z52_)) ≤ 0 := (by have u0 := b59_; have u1 := (zi_eq _ _).mp c60_; have u2 := (show 0 ≤ Int32.toInt 0 ∧ Int32.toInt 0 ≤ 0 from (by decide)); omega)
          refine pw_blk hT 4 (S' := (30, [some (pvR 124), some (pvI i1z52_), some (pvI i2z52_)], [pvI (i1z52_ ||| (1 <<< (i2z52_ &&& 31)))], M)) rfl ⟨trivial, trivial, trivial, trivial, trivial⟩ ?_
          have b62_ : 0 ≤ Int32.toInt (i1z52_ ||| (1 <<< (i2z52_ &&& 31))) ∧ Int32.toInt (i1z52_ ||| (1 <<< (i2z52_ &&& 31))) ≤ 127 := zs_or h1z52_ b57_
          obtain ⟨q64_, b63_⟩ : (Int32.toInt (i2z52_ + 1) = Int32.toInt i2z52_ + 1) ∧ (1 ≤ Int32.toInt (i2z52_ + 1) ∧ Int32.toInt (i2z52_ + 1) ≤ 7) := zadd_k i2z52_ 1 1 1 7 b57_ (by decide) (by decide) (by decide) (by decide) (by decide)
          refine pw_blk hT 3 (S' := (4, [some (pvR 124), some (pvI (i1z52_ ||| (1 <<< (i2z52_ &&& 31)))), some (pvI (i2z52_ + 1))], [], M)) rfl ⟨trivial, trivial, trivial, trivial⟩ ?_
          exact ihz52_ (i1z52_ ||| (1 <<< (i2z52_ &&& 31))) (i2z52_ + 1) b62_ (zr_wide b63_ (by decide) (by decide)) (zhid (pvms_up (zshow hmz52_) h2z52_ q64_ (by decide) (by decide)))
        · have b65_ : 1 ≤ Int32.toInt (M.1 131 (Int32.toNatClampNeg i2z52_)) ∧ Int32.toInt (M.1 131 (Int32.toNatClampNeg i2z52_)) ≤ 1 := (by have u0 := b59_; have u1 := (not_congr (zi_eq _ _)).mp c60_; have u2 := (show 0 ≤ Int32.toInt 0 ∧ Int32.toInt 0 ≤ 0 from (by decide)); omega)
          refine pw_blk hT 3 (S' := (30, [some (pvR 124), some (pvI i1z52_), some (pvI i2z52_)], [pvI (i1z52_ ||| 0)], M)) rfl ⟨trivial, trivial, trivial, trivial⟩ ?_
          have b66_ : 0 ≤ Int32.toInt (i1z52_ ||| 0) ∧ Int32.toInt (i1z52_ ||| 0) ≤ 127 := zs_orz h1z52_
          obtain ⟨q68_, b67_⟩ : (Int32.toInt (i2z52_ + 1) = Int32.toInt i2z52_ + 1) ∧ (1 ≤ Int32.toInt (i2z52_ + 1) ∧ Int32.toInt (i2z52_ + 1) ≤ 7) := zadd_k i2z52_ 1 1 1 7 b57_ (by decide) (by decide) (by decide) (by decide) (by decide)
          refine pw_blk hT 3 (S' := (4, [some (pvR 124), some (pvI (i1z52_ ||| 0)), some (pvI (i2z52_ + 1))], [], M)) rfl ⟨trivial, trivial, trivial, trivial⟩ ?_
          exact ihz52_ (i1z52_ ||| 0) (i2z52_ + 1) b66_ (zr_wide b67_ (by decide) (by decide)) (zhid (pvms_up (zshow hmz52_) h2z52_ q68_ (by decide) (by decide)))
  exact hlz52_ _ 0 0 (zr_wide (show 0 ≤ Int32.toInt 0 ∧ Int32.toInt 0 ≤ 0 from (by decide)) (by decide) (by decide)) (zr_wide (show 0 ≤ Int32.toInt 0 ∧ Int32.toInt 0 ≤ 0 from (by decide)) (by decide) (by decide)) (zhid (Nat.lt_succ_self _))
