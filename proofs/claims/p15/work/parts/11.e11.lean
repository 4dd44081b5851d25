def fpL_eX10_sides_124_x : List (Nat × Nat × Nat) := [(0, 124, 33), (0, 124, 5), (0, 141, 0), (0, 142, 0), (0, 143, 0)]
def fp_eX10_sides_124_x (q k : Nat) : Bool := pvfp fpL_eX10_sides_124_x q k
theorem fp_eX10_sides_124_x_fp_eX10_costOfNone_124 (a b : Nat) (h : fp_eX10_costOfNone_124 a b = true) : fp_eX10_sides_124_x a b = true := pvfp_sub (l1 := fpL_eX10_costOfNone_124) (l2 := fpL_eX10_sides_124_x) (by decide) a b h
theorem fp_eX10_sides_124_x_fp_eX10_layRain_124 (a b : Nat) (h : fp_eX10_layRain_124 a b = true) : fp_eX10_sides_124_x a b = true := pvfp_sub (l1 := fpL_eX10_layRain_124) (l2 := fpL_eX10_sides_124_x) (by decide) a b h
set_option maxHeartbeats 4000000 in
set_option maxRecDepth 10000 in
theorem se_X10_sides_124_x (M : pvM) (hok : pvOk M) (n1 : Int32) (hz : pvWF M) (d : Nat) : PW 77 d (0, [some (pvR 124), some (pvI n1), none, none, none, none], [], M) (fun r X => (∃ x : Int32, r = some (pvI x) ∧ (-1) ≤ Int32.toInt x ∧ Int32.toInt x ≤ 2147483647) ∧ pvOk X ∧ pvFr fp_eX10_sides_124_x M X ∧ X.1 124 4 = M.1 124 4 ∧ yA0 (yGsd n1) r M) := by
  have hT : pvdom 77 = pvD_77 := rfl
  refine pw_blk hT 4 (S' := (4, [some (pvR 124), some (pvI n1), none, none, none, none], [pvI 1, pvI 0, pvI n1, pvR 124], M)) rfl ⟨trivial, trivial, trivial, trivial, trivial⟩ ?_
  refine pw_callT hT (as := [pvR 124, pvI n1, pvI 0, pvI 1]) (lo1 := [some (pvR 124), some (pvI n1), some (pvI 0), some (pvI 1)]) (d1 := d) (rest := []) rfl rfl rfl rfl rfl (fun _ => rfl) (Nat.zero_le _) rfl rfl rfl (sf_X10_in_124_x_x_x M hok n1 0 1 d) ?_
  by_cases c6_ : n1 < 0
  · refine pw_eqI (if_pos c6_) ?_
    have b7_ : (-2147483648) ≤ Int32.toInt n1 ∧ Int32.toInt n1 ≤ (-1) := zr_lt_l (-1) c6_ (zbnd n1) (show 0 ≤ Int32.toInt 0 ∧ Int32.toInt 0 ≤ 0 from (by decide)) (by decide)
    show PW 77 d (7, [some (pvR 124), some (pvI n1), none, none, none, none], [pvI 0], M) _
    refine pw_ifn hT (c := 0 = 0) rfl rfl (fun c8_ => absurd (by decide) c8_) (fun c8_ => ?_)
    refine pw_blk hT 1 (S' := (11, [some (pvR 124), some (pvI n1), none, none, none, none], [pvI (-1)], M)) rfl ⟨trivial, trivial⟩ ?_
    exact pw_ret hT rfl (r := some (pvI (-1))) (M' := M) ⟨rfl, rfl⟩ ⟨⟨_, rfl, (zr_wide (show (-1) ≤ Int32.toInt (-1) ∧ Int32.toInt (-1) ≤ (-1) from (by decide)) (by decide) (by decide))⟩, hok, pvfr_0, rfl, (yGsd0_n (by have u := b7_; omega) (by decide))⟩
  · refine pw_eqI (if_neg c6_) ?_
    have b9_ : 0 ≤ Int32.toInt n1 ∧ Int32.toInt n1 ≤ 2147483647 := zr_nlt_l 0 c6_ (zbnd n1) (show 0 ≤ Int32.toInt 0 ∧ Int32.toInt 0 ≤ 0 from (by decide)) (by decide)
    by_cases c10_ : 1 < n1
    · refine pw_eqI (if_pos c10_) ?_
      have b11_ : 2 ≤ Int32.toInt n1 ∧ Int32.toInt n1 ≤ 2147483647 := zr_lt_r 2 c10_ b9_ (show 1 ≤ Int32.toInt 1 ∧ Int32.toInt 1 ≤ 1 from (by decide)) (by decide)
      show PW 77 d (7, [some (pvR 124), some (pvI n1), none, none, none, none], [pvI 0], M) _
      refine pw_ifn hT (c := 0 = 0) rfl rfl (fun c12_ => absurd (by decide) c12_) (fun c12_ => ?_)
      refine pw_blk hT 1 (S' := (11, [some (pvR 124), some (pvI n1), none, none, none, none], [pvI (-1)], M)) rfl ⟨trivial, trivial⟩ ?_
      exact pw_ret hT rfl (r := some (pvI (-1))) (M' := M) ⟨rfl, rfl⟩ ⟨⟨_, rfl, (zr_wide (show (-1) ≤ Int32.toInt (-1) ∧ Int32.toInt (-1) ≤ (-1) from (by decide)) (by decide) (by decide))⟩, hok, pvfr_0, rfl, (yGsd0_n (by have u := b11_; omega) (by decide))⟩
    · refine pw_eqI (if_neg c10_) ?_
      have b13_ : 0 ≤ Int32.toInt n1 ∧ Int32.toInt n1 ≤ 1 := zr_nlt_r 1 c10_ b9_ (show 1 ≤ Int32.toInt 1 ∧ Int32.toInt 1 ≤ 1 from (by decide)) (by decide)
      show PW 77 d (7, [some (pvR 124), some (pvI n1), none, none, none, none], [pvI 1], M) _
      refine pw_ifn hT (c := 1 = 0) rfl rfl (fun c14_ => ?_) (fun c14_ => absurd c14_ (by decide))
      have b15_ : 0 ≤ Int32.toInt (M.1 124 4) ∧ Int32.toInt (M.1 124 4) ≤ 4 := pvok_r hok 124 4 rfl
      refine pw_blkw hT 10 (pc := 27) (lo := [some (pvR 124), some (pvI n1), some (pvI (M.1 124 4)), some (pvI 0), some (pvI (-1)), none]) (st := []) (M := pvu M 124 4 0) rfl ⟨trivial, rfl, trivial, trivial, trivial, trivial, trivial, trivial, trivial, rfl, trivial⟩ (fun M16_ e17_ => ?_)
      have o18_ : pvOk M16_ := pvok_u2 e17_ hok rfl (zr_wide (show 0 ≤ Int32.toInt 0 ∧ Int32.toInt 0 ≤ 0 from (by decide)) (by decide) (by decide))
      have f19_ : pvFr fp_eX10_sides_124_x M M16_ := pvfr_u e17_ pvfr_0 rfl
      have hlz180_ : ∀ (nz180_ : Nat) (i3z180_ : Int32) (i4z180_ : Int32) (v5z180_ : Option pvV) (Mz180_ : pvM), (pvOk Mz180_) → (pvFr fp_eX10_sides_124_x M Mz180_) → (0 ≤ Int32.toInt i3z180_ ∧ Int32.toInt i3z180_ ≤ 2147483647) → ((-1) ≤ Int32.toInt i4z180_ ∧ Int32.toInt i4z180_ ≤ 2147483647) → (ySd0 M Mz180_ i3z180_ i4z180_ (Mz180_.1 124 4)) → (zhide ((5 - Int32.toInt (Mz180_.1 124 4)).toNat < nz180_)) → PW 77 d (27, [some (pvR 124), some (pvI n1), some (pvI (M.1 124 4)), some (pvI i3z180_), some (pvI i4z180_), v5z180_], [], Mz180_) (fun r X => (∃ x : Int32, r = some (pvI x) ∧ (-1) ≤ Int32.toInt x ∧ Int32.toInt x ≤ 2147483647) ∧ pvOk X ∧ pvFr fp_eX10_sides_124_x M X ∧ X.1 124 4 = M.1 124 4 ∧ yA0 (yGsd n1) r M) := by
        intro nz180_
        induction nz180_ with
        | zero => intro i3z180_ i4z180_ v5z180_ Mz180_ oz180_ fz180_ h3z180_ h4z180_ j0z180_ hmz180_; exact absurd (zshow hmz180_) (Nat.not_lt_zero _)
        | succ nz180_ ihz180_ =>
          intro i3z180_ i4z180_ v5z180_ Mz180_ oz180_ fz180_ h3z180_ h4z180_ j0z180_ hmz180_
          have b181_ : 0 ≤ Int32.toInt (Mz180_.1 124 4) ∧ Int32.toInt (Mz180_.1 124 4) ≤ 4 := pvok_r oz180_ 124 4 rfl
          refine pw_blk hT 3 (S' := (32, [some (pvR 124), some (pvI n1), some (pvI (M.1 124 4)), some (pvI i3z180_), some (pvI i4z180_), v5z180_], [pvI 4, pvI (Mz180_.1 124 4)], Mz180_)) rfl ⟨trivial, rfl, trivial, trivial⟩ ?_
          refine pw_ic hT (c := 4 ≤ (Mz180_.1 124 4)) rfl rfl (fun c182_ => ?_) (fun c182_ => ?_)
          · have b183_ : 4 ≤ Int32.toInt (Mz180_.1 124 4) ∧ Int32.toInt (Mz180_.1 124 4) ≤ 4 := zr_le_r 4 c182_ b181_ (show 4 ≤ Int32.toInt 4 ∧ Int32.toInt 4 ≤ 4 from (by decide)) (by decide)
            refine pw_blkw hT 3 (pc := 82) (lo := [some (pvR 124), some (pvI n1), some (pvI (M.1 124 4)), some (pvI i3z180_), some (pvI i4z180_), v5z180_]) (st := []) (M := pvu Mz180_ 124 4 (M.1 124 4)) rfl ⟨trivial, trivial, rfl, trivial⟩ (fun M184_ e185_ => ?_)
            have o186_ : pvOk M184_ := pvok_u2 e185_ oz180_ rfl b15_
            have f187_ : pvFr fp_eX10_sides_124_x M M184_ := pvfr_u e185_ fz180_ rfl
            refine pw_blk hT 1 (S' := (83, [some (pvR 124), some (pvI n1), some (pvI (M.1 124 4)), some (pvI i3z180_), some (pvI i4z180_), v5z180_], [pvI n1], M184_)) rfl ⟨trivial, trivial⟩ ?_
            refine pw_ifn hT (c := n1 = 0) rfl rfl (fun c188_ => ?_) (fun c188_ => ?_)
            · have b189_ : 1 ≤ Int32.toInt n1 ∧ Int32.toInt n1 ≤ 1 := (by have u0 := b13_; have u1 := (not_congr (zi_eq _ _)).mp c188_; have u2 := (show 0 ≤ Int32.toInt 0 ∧ Int32.toInt 0 ≤ 0 from (by decide)); omega)
              refine pw_blk hT 1 (S' := (92, [some (pvR 124), some (pvI n1), some (pvI (M.1 124 4)), some (pvI i3z180_), some (pvI i4z180_), v5z180_], [pvI i4z180_], M184_)) rfl ⟨trivial, trivial⟩ ?_
              exact pw_ret hT rfl (r := some (pvI i4z180_)) (M' := M184_) ⟨rfl, rfl⟩ ⟨⟨_, rfl, h4z180_⟩, o186_, f187_, (pvu_s e185_), ((yGsd0_e j0z180_ (by have u := b183_; omega) (by have u := b189_; omega)).2 (by have u := b189_; omega))⟩
            · have b190_ : 0 ≤ Int32.toInt n1 ∧ Int32.toInt n1 ≤ 0 := (by have u0 := b13_; have u1 := (zi_eq _ _).mp c188_; have u2 := (show 0 ≤ Int32.toInt 0 ∧ Int32.toInt 0 ≤ 0 from (by decide)); omega)
              refine pw_blk hT 2 (S' := (92, [some (pvR 124), some (pvI n1), some (pvI (M.1 124 4)), some (pvI i3z180_), some (pvI i4z180_), v5z180_], [pvI i3z180_], M184_)) rfl ⟨trivial, trivial, trivial⟩ ?_
              exact pw_ret hT rfl (r := some (pvI i3z180_)) (M' := M184_) ⟨rfl, rfl⟩ ⟨⟨_, rfl, (zr_wide h3z180_ (by decide) (by decide))⟩, o186_, f187_, (pvu_s e185_), ((yGsd0_e j0z180_ (by have u := b183_; omega) (by have u := b190_; omega)).1 (by have u := b190_; omega))⟩
          · have b191_ : 0 ≤ Int32.toInt (Mz180_.1 124 4) ∧ Int32.toInt (Mz180_.1 124 4) ≤ 3 := zr_nle_r 3 c182_ b181_ (show 4 ≤ Int32.toInt 4 ∧ Int32.toInt 4 ≤ 4 from (by decide)) (by decide)
            refine pw_blk hT 1 (S' := (36, [some (pvR 124), some (pvI n1), some (pvI (M.1 124 4)), some (pvI i3z180_), some (pvI i4z180_), v5z180_], [pvR 124], Mz180_)) rfl ⟨trivial, trivial⟩ ?_
            refine pw_callVd hT (as := [pvR 124]) (lo1 := [some (pvR 124), none, none]) (d1 := d) (rest := []) rfl rfl rfl rfl rfl (fun _ => rfl) (Nat.zero_le _) rfl rfl rfl (se_X10_layRain_124 Mz180_ oz180_ (pvWF_fr (L := fpL_eX10_sides_124_x) rfl fz180_ hz) d) (fun M194_ o196_ g197_ d192_ => ?_)
            have f198_ : pvFr fp_eX10_sides_124_x M M194_ := pvfr_t g197_ fz180_ fp_eX10_sides_124_x_fp_eX10_layRain_124
            refine pw_blk hT 1 (S' := (40, [some (pvR 124), some (pvI n1), some (pvI (M.1 124 4)), some (pvI i3z180_), some (pvI i4z180_), v5z180_], [pvR 124], M194_)) rfl ⟨trivial, trivial⟩ ?_
            refine pw_callGd hT (as := [pvR 124]) (lo1 := [some (pvR 124)]) (d1 := d) (rest := []) rfl rfl rfl rfl rfl (fun _ => rfl) (Nat.zero_le _) rfl rfl rfl (se_X10_costOfNone_124 M194_ o196_ d) (fun x200_ M201_ b202_ o203_ g204_ d199_ => ?_)
            have f205_ : pvFr fp_eX10_sides_124_x M M201_ := pvfr_t g204_ f198_ fp_eX10_sides_124_x_fp_eX10_costOfNone_124
            refine pw_blk hT 3 (S' := (49, [some (pvR 124), some (pvI n1), some (pvI (M.1 124 4)), some (pvI i3z180_), some (pvI i4z180_), some (pvI x200_)], [pvI i4z180_, pvI x200_], M201_)) rfl ⟨trivial, trivial, trivial, trivial⟩ ?_
            refine pw_ic hT (c := i4z180_ < x200_) rfl rfl (fun c206_ => ?_) (fun c206_ => ?_)
            · have b207_ : (-1) ≤ Int32.toInt i4z180_ ∧ Int32.toInt i4z180_ ≤ 8999999 := zr_lt_l 8999999 c206_ h4z180_ b202_ (by decide)
              have d208_ : Int32.toInt i4z180_ < Int32.toInt x200_ := (zi_lt _ _).mp c206_
              have e209_ : (M201_.1 124 4) = (Mz180_.1 124 4) := ((g204_ 124 4 rfl).trans (g197_ 124 4 rfl))
              have b210_ : 0 ≤ Int32.toInt (M201_.1 124 4) ∧ Int32.toInt (M201_.1 124 4) ≤ 3 := (by rw [e209_]; exact b191_)
              obtain ⟨q212_, b211_⟩ : (Int32.toInt ((M201_.1 124 4) + 1) = Int32.toInt (M201_.1 124 4) + 1) ∧ (1 ≤ Int32.toInt ((M201_.1 124 4) + 1) ∧ Int32.toInt ((M201_.1 124 4) + 1) ≤ 4) := zadd_k (M201_.1 124 4) 1 1 1 4 b210_ (by decide) (by decide) (by decide) (by decide) (by decide)
              refine pw_blkw hT 11 (pc := 74) (lo := [some (pvR 124), some (pvI n1), some (pvI (M.1 124 4)), some (pvI (M201_.1 124 4)), some (pvI x200_), some (pvI x200_)]) (st := []) (M := pvu M201_ 124 4 ((M201_.1 124 4) + 1)) rfl ⟨trivial, rfl, trivial, trivial, trivial, trivial, trivial, rfl, trivial, trivial, rfl, trivial⟩ (fun M213_ e214_ => ?_)
              have o215_ : pvOk M213_ := pvok_u2 e214_ o203_ rfl (zr_wide b211_ (by decide) (by decide))
              have f216_ : pvFr fp_eX10_sides_124_x M M213_ := pvfr_u e214_ f205_ rfl
              refine pw_blk hT 1 (S' := (27, [some (pvR 124), some (pvI n1), some (pvI (M.1 124 4)), some (pvI (M201_.1 124 4)), some (pvI x200_), some (pvI x200_)], [], M213_)) rfl ⟨trivial, trivial⟩ ?_
              have j217_ : ySd0 M M213_ (M201_.1 124 4) x200_ (M213_.1 124 4) := (ySd0_y j0z180_ (by have u := b191_; omega) d192_ d199_ e214_ rfl rfl (Int32.not_le.mpr c206_))
              exact ihz180_ (M201_.1 124 4) x200_ (some (pvI x200_)) M213_ o215_ f216_ (zr_wide b210_ (by decide) (by decide)) (zr_wide b202_ (by decide) (by decide)) j217_ (zhid (by have hm0 := zshow hmz180_; have z1 : Int32.toInt (M213_.1 124 4) = Int32.toInt ((M201_.1 124 4) + 1) := congrArg Int32.toInt (pvu_s e214_); have z2 : Int32.toInt (M201_.1 124 4) = Int32.toInt (Mz180_.1 124 4) := congrArg Int32.toInt ((g204_ 124 4 rfl).trans (g197_ 124 4 rfl)); omega))
            · have b218_ : 0 ≤ Int32.toInt i4z180_ ∧ Int32.toInt i4z180_ ≤ 2147483647 := zr_nlt_l 0 c206_ h4z180_ b202_ (by decide)
              have d219_ : Int32.toInt i4z180_ ≥ Int32.toInt x200_ := Int.not_lt.mp ((not_congr (zi_lt _ _)).mp c206_)
              have e220_ : (M201_.1 124 4) = (Mz180_.1 124 4) := ((g204_ 124 4 rfl).trans (g197_ 124 4 rfl))
              have b221_ : 0 ≤ Int32.toInt (M201_.1 124 4) ∧ Int32.toInt (M201_.1 124 4) ≤ 3 := (by rw [e220_]; exact b191_)
              obtain ⟨q223_, b222_⟩ : (Int32.toInt ((M201_.1 124 4) + 1) = Int32.toInt (M201_.1 124 4) + 1) ∧ (1 ≤ Int32.toInt ((M201_.1 124 4) + 1) ∧ Int32.toInt ((M201_.1 124 4) + 1) ≤ 4) := zadd_k (M201_.1 124 4) 1 1 1 4 b221_ (by decide) (by decide) (by decide) (by decide) (by decide)
              refine pw_blkw hT 7 (pc := 74) (lo := [some (pvR 124), some (pvI n1), some (pvI (M.1 124 4)), some (pvI i3z180_), some (pvI i4z180_), some (pvI x200_)]) (st := []) (M := pvu M201_ 124 4 ((M201_.1 124 4) + 1)) rfl ⟨trivial, trivial, trivial, rfl, trivial, trivial, rfl, trivial⟩ (fun M224_ e225_ => ?_)
              have o226_ : pvOk M224_ := pvok_u2 e225_ o203_ rfl (zr_wide b222_ (by decide) (by decide))
              have f227_ : pvFr fp_eX10_sides_124_x M M224_ := pvfr_u e225_ f205_ rfl
              refine pw_blk hT 1 (S' := (27, [some (pvR 124), some (pvI n1), some (pvI (M.1 124 4)), some (pvI i3z180_), some (pvI i4z180_), some (pvI x200_)], [], M224_)) rfl ⟨trivial, trivial⟩ ?_
              have j228_ : ySd0 M M224_ i3z180_ i4z180_ (M224_.1 124 4) := (ySd0_n j0z180_ (by have u := b191_; omega) d192_ d199_ e225_ rfl (Int32.not_lt.mp c206_))
              exact ihz180_ i3z180_ i4z180_ (some (pvI x200_)) M224_ o226_ f227_ h3z180_ (zr_wide b218_ (by decide) (by decide)) j228_ (zhid (by have hm0 := zshow hmz180_; have z1 : Int32.toInt (M224_.1 124 4) = Int32.toInt ((M201_.1 124 4) + 1) := congrArg Int32.toInt (pvu_s e225_); have z2 : Int32.toInt (M201_.1 124 4) = Int32.toInt (Mz180_.1 124 4) := congrArg Int32.toInt ((g204_ 124 4 rfl).trans (g197_ 124 4 rfl)); omega))
      have u229_ : Int32.toInt 0 = 0 := by decide
      have u230_ : Int32.toInt (-1) = (-1) := by decide
      have j231_ : ySd0 M M16_ 0 (-1) (M16_.1 124 4) := (ySd0_0 e17_ (by decide) (by decide) (by decide))
      exact hlz180_ _ 0 (-1) none M16_ o18_ f19_ (zr_wide (show 0 ≤ Int32.toInt 0 ∧ Int32.toInt 0 ≤ 0 from (by decide)) (by decide) (by decide)) (zr_wide (show (-1) ≤ Int32.toInt (-1) ∧ Int32.toInt (-1) ≤ (-1) from (by decide)) (by decide) (by decide)) j231_ (zhid (Nat.lt_succ_self _))
def fpL_eX10_stand_124_x_x : List (Nat × Nat × Nat) := [(0, 124, 6), (0, 124, 7)]
def fp_eX10_stand_124_x_x (q k : Nat) : Bool := pvfp fpL_eX10_stand_124_x_x q k
set_option maxHeartbeats 4000000 in
set_option maxRecDepth 10000 in
theorem se_X10_stand_124_x_x (M : pvM) (hok : pvOk M) (n1 : Int32) (n2 : Int32) (d : Nat) : PW 78 d (0, [some (pvR 124), some (pvI n1), some (pvI n2)], [], M) (fun r X => (∃ x : Int32, r = some (pvI x) ∧ ((-2) ≤ Int32.toInt x ∧ Int32.toInt x ≤ 1) ∧ x = (if n1 < 0 then (-2) else (if 3 < n1 then (-2) else (if n2 < 0 then (-2) else (if 4 < n2 then (-2) else 1))))) ∧ pvOk X ∧ pvFr fp_eX10_stand_124_x_x M X ∧ zwS n1 n2 (zw0 1 5 6 131 M) (zw0 1 5 6 131 X)) := by
  have hT : pvdom 78 = pvD_78 := rfl
  refine pw_blk hT 3 (S' := (3, [some (pvR 124), some (pvI n1), some (pvI n2)], [pvI n2, pvI n1, pvR 124], M)) rfl ⟨trivial, trivial, trivial, trivial⟩ ?_
  refine pw_callT hT (as := [pvR 124, pvI n1, pvI n2]) (lo1 := [some (pvR 124), some (pvI n1), some (pvI n2)]) (d1 := d) (rest := []) rfl rfl rfl rfl rfl (fun _ => rfl) (Nat.zero_le _) rfl rfl rfl (sf_X10_isPlace_124_x_x M hok n1 n2 d) ?_
  by_cases c6_ : n1 < 0
  · refine pw_eqI (if_pos c6_) ?_
    have b7_ : (-2147483648) ≤ Int32.toInt n1 ∧ Int32.toInt n1 ≤ (-1) := zr_lt_l (-1) c6_ (zbnd n1) (show 0 ≤ Int32.toInt 0 ∧ Int32.toInt 0 ≤ 0 from (by decide)) (by decide)
    show PW 78 d (6, [some (pvR 124), some (pvI n1), some (pvI n2)], [pvI 0], M) _
    refine pw_ifn hT (c := 0 = 0) rfl rfl (fun c8_ => absurd (by decide) c8_) (fun c8_ => ?_)
    refine pw_blk hT 1 (S' := (11, [some (pvR 124), some (pvI n1), some (pvI n2)], [pvI (-2)], M)) rfl ⟨trivial, trivial⟩ ?_
    exact pw_ret hT rfl (r := some (pvI (-2))) (M' := M) ⟨rfl, rfl⟩ ⟨⟨_, rfl, (zr_wide (show (-2) ≤ Int32.toInt (-2) ∧ Int32.toInt (-2) ≤ (-2) from (by decide)) (by decide) (by decide)), (by rw [if_pos c6_]; first | done | (rw [if_pos c6_]; done))⟩, hok, pvfr_0, (zwS_n (fun z => by have v := (zi_lt _ _).mp c6_; have w := z.1.1; have u0 : (0 : Int32).toInt = 0 := (by decide); have u3 : (3 : Int32).toInt = 3 := (by decide); have u4 : (4 : Int32).toInt = 4 := (by decide); omega))⟩
  · refine pw_eqI (if_neg c6_) ?_
    have b9_ : 0 ≤ Int32.toInt n1 ∧ Int32.toInt n1 ≤ 2147483647 := zr_nlt_l 0 c6_ (zbnd n1) (show 0 ≤ Int32.toInt 0 ∧ Int32.toInt 0 ≤ 0 from (by decide)) (by decide)
    by_cases c10_ : 3 < n1
    · refine pw_eqI (if_pos c10_) ?_
      have b11_ : 4 ≤ Int32.toInt n1 ∧ Int32.toInt n1 ≤ 2147483647 := zr_lt_r 4 c10_ b9_ (show 3 ≤ Int32.toInt 3 ∧ Int32.toInt 3 ≤ 3 from (by decide)) (by decide)
      show PW 78 d (6, [some (pvR 124), some (pvI n1), some (pvI n2)], [pvI 0], M) _
      refine pw_ifn hT (c := 0 = 0) rfl rfl (fun c12_ => absurd (by decide) c12_) (fun c12_ => ?_)
      refine pw_blk hT 1 (S' := (11, [some (pvR 124), some (pvI n1), some (pvI n2)], [pvI (-2)], M)) rfl ⟨trivial, trivial⟩ ?_
      exact pw_ret hT rfl (r := some (pvI (-2))) (M' := M) ⟨rfl, rfl⟩ ⟨⟨_, rfl, (zr_wide (show (-2) ≤ Int32.toInt (-2) ∧ Int32.toInt (-2) ≤ (-2) from (by decide)) (by decide) (by decide)), (by rw [if_neg c6_, if_pos c10_]; first | done | (rw [if_pos c10_]; done))⟩, hok, pvfr_0, (zwS_n (fun z => by have v := (zi_lt _ _).mp c10_; have w := z.1.2; have u0 : (0 : Int32).toInt = 0 := (by decide); have u3 : (3 : Int32).toInt = 3 := (by decide); have u4 : (4 : Int32).toInt = 4 := (by decide); omega))⟩
    · refine pw_eqI (if_neg c10_) ?_
      have b13_ : 0 ≤ Int32.toInt n1 ∧ Int32.toInt n1 ≤ 3 := zr_nlt_r 3 c10_ b9_ (show 3 ≤ Int32.toInt 3 ∧ Int32.toInt 3 ≤ 3 from (by decide)) (by decide)
      by_cases c14_ : n2 < 0
      · refine pw_eqI (if_pos c14_) ?_
        have b15_ : (-2147483648) ≤ Int32.toInt n2 ∧ Int32.toInt n2 ≤ (-1) := zr_lt_l (-1) c14_ (zbnd n2) (show 0 ≤ Int32.toInt 0 ∧ Int32.toInt 0 ≤ 0 from (by decide)) (by decide)
        show PW 78 d (6, [some (pvR 124), some (pvI n1), some (pvI n2)], [pvI 0], M) _
        refine pw_ifn hT (c := 0 = 0) rfl rfl (fun c16_ => absurd (by decide) c16_) (fun c16_ => ?_)
        refine pw_blk hT 1 (S' := (11, [some (pvR 124), some (pvI n1), some (pvI n2)], [pvI (-2)], M)) rfl ⟨trivial, trivial⟩ ?_
        exact pw_ret hT rfl (r := some (pvI (-2))) (M' := M) ⟨rfl, rfl⟩ ⟨⟨_, rfl, (zr_wide (show (-2) ≤ Int32.toInt (-2) ∧ Int32.toInt (-2) ≤ (-2) from (by decide)) (by decide) (by decide)), (by rw [if_neg c6_, if_neg c10_, if_pos c14_]; first | done | (rw [if_pos c14_]; done))⟩, hok, pvfr_0, (zwS_n (fun z => by have v := (zi_lt _ _).mp c14_; have w := z.2.1; have u0 : (0 : Int32).toInt = 0 := (by decide); have u3 : (3 : Int32).toInt = 3 := (by decide); have u4 : (4 : Int32).toInt = 4 := (by decide); omega))⟩
      · refine pw_eqI (if_neg c14_) ?_
        have b17_ : 0 ≤ Int32.toInt n2 ∧ Int32.toInt n2 ≤ 2147483647 := zr_nlt_l 0 c14_ (zbnd n2) (show 0 ≤ Int32.toInt 0 ∧ Int32.toInt 0 ≤ 0 from (by decide)) (by decide)
        by_cases c18_ : 4 < n2
        · refine pw_eqI (if_pos c18_) ?_
          have b19_ : 5 ≤ Int32.toInt n2 ∧ Int32.toInt n2 ≤ 2147483647 := zr_lt_r 5 c18_ b17_ (show 4 ≤ Int32.toInt 4 ∧ Int32.toInt 4 ≤ 4 from (by decide)) (by decide)
          show PW 78 d (6, [some (pvR 124), some (pvI n1), some (pvI n2)], [pvI 0], M) _
          refine pw_ifn hT (c := 0 = 0) rfl rfl (fun c20_ => absurd (by decide) c20_) (fun c20_ => ?_)
          refine pw_blk hT 1 (S' := (11, [some (pvR 124), some (pvI n1), some (pvI n2)], [pvI (-2)], M)) rfl ⟨trivial, trivial⟩ ?_
          exact pw_ret hT rfl (r := some (pvI (-2))) (M' := M) ⟨rfl, rfl⟩ ⟨⟨_, rfl, (zr_wide (show (-2) ≤ Int32.toInt (-2) ∧ Int32.toInt (-2) ≤ (-2) from (by decide)) (by decide) (by decide)), (by rw [if_neg c6_, if_neg c10_, if_neg c14_, if_pos c18_]; first | done | (rw [if_pos c18_]; done))⟩, hok, pvfr_0, (zwS_n (fun z => by have v := (zi_lt _ _).mp c18_; have w := z.2.2; have u0 : (0 : Int32).toInt = 0 := (by decide); have u3 : (3 : Int32).toInt = 3 := (by decide); have u4 : (4 : Int32).toInt = 4 := (by decide); omega))⟩
        · refine pw_eqI (if_neg c18_) ?_
          have b21_ : 0 ≤ Int32.toInt n2 ∧ Int32.toInt n2 ≤ 4 := zr_nlt_r 4 c18_ b17_ (show 4 ≤ Int32.toInt 4 ∧ Int32.toInt 4 ≤ 4 from (by decide)) (by decide)
          show PW 78 d (6, [some (pvR 124), some (pvI n1), some (pvI n2)], [pvI 1], M) _
          refine pw_ifn hT (c := 1 = 0) rfl rfl (fun c22_ => ?_) (fun c22_ => absurd c22_ (by decide))
          refine pw_blkw hT 3 (pc := 17) (lo := [some (pvR 124), some (pvI n1), some (pvI n2)]) (st := []) (M := pvu M 124 5 n1) rfl ⟨trivial, trivial, rfl, trivial⟩ (fun M23_ e24_ => ?_)
          have o25_ : pvOk M23_ := pvok_u2 e24_ hok rfl b13_
          have f26_ : pvFr fp_eX10_stand_124_x_x M M23_ := pvfr_u e24_ pvfr_0 rfl
          refine pw_blkw hT 3 (pc := 22) (lo := [some (pvR 124), some (pvI n1), some (pvI n2)]) (st := []) (M := pvu M23_ 124 6 n2) rfl ⟨trivial, trivial, rfl, trivial⟩ (fun M27_ e28_ => ?_)
          have o29_ : pvOk M27_ := pvok_u2 e28_ o25_ rfl b21_
          have f30_ : pvFr fp_eX10_stand_124_x_x M M27_ := pvfr_u e28_ f26_ rfl
          refine pw_blk hT 1 (S' := (23, [some (pvR 124), some (pvI n1), some (pvI n2)], [pvI 1], M27_)) rfl ⟨trivial, trivial⟩ ?_
          exact pw_ret hT rfl (r := some (pvI 1)) (M' := M27_) ⟨rfl, rfl⟩ ⟨⟨_, rfl, (zr_wide (show 1 ≤ Int32.toInt 1 ∧ Int32.toInt 1 ≤ 1 from (by decide)) (by decide) (by decide)), (by rw [if_neg c6_, if_neg c10_, if_neg c14_, if_neg c18_]; first | done | (rw [if_neg c18_]; done))⟩, o29_, f30_, (zwS_i ⟨b13_, b21_⟩ ((pvu_n e28_ 124 1 (Or.inr (by decide))).trans (pvu_n e24_ 124 1 (Or.inr (by decide)))) ((pvu_n e28_ 124 5 (Or.inr (by decide))).trans (pvu_s e24_)) (pvu_s e28_) (fun i _ => (pvu_n e28_ 131 i (Or.inl (by decide))).trans (pvu_n e24_ 131 i (Or.inl (by decide)))))⟩
def fpL_eX10_storm_124_x_x : List (Nat × Nat × Nat) := [(0, 124, 4), (0, 124, 5)]
def fp_eX10_storm_124_x_x (q k : Nat) : Bool := pvfp fpL_eX10_storm_124_x_x q k
set_option maxHeartbeats 4000000 in
set_option maxRecDepth 10000 in
theorem se_X10_storm_124_x_x (M : pvM) (hok : pvOk M) (n1 : Int32) (n2 : Int32) (d : Nat) : PW 80 d (0, [some (pvR 124), some (pvI n1), some (pvI n2), none], [], M) (fun r X => (∃ x : Int32, r = some (pvI x) ∧ ((-2) ≤ Int32.toInt x ∧ Int32.toInt x ≤ 108) ∧ x = (if n2 < 0 then (-1) else (if 3 < n2 then (-1) else (if n1 < 0 then (-2) else (if 99 < n1 then (-2) else (M.1 124 3)))))) ∧ pvOk X ∧ pvFr fp_eX10_storm_124_x_x M X ∧ ((Int32.toInt (X.1 124 3) ≤ 99 ∨ X.1 124 3 = M.1 124 3)) ∧ X.1 124 3 = (if n2 < 0 then (M.1 124 3) else (if 3 < n2 then (M.1 124 3) else (if n1 < 0 then (M.1 124 3) else (if 99 < n1 then (M.1 124 3) else n1)))) ∧ X.1 124 4 = (if n2 < 0 then (M.1 124 4) else (if 3 < n2 then (M.1 124 4) else (if n1 < 0 then (M.1 124 4) else (if 99 < n1 then (M.1 124 4) else n2))))) := by
  have hT : pvdom 80 = pvD_80 := rfl
  refine pw_blk hT 4 (S' := (4, [some (pvR 124), some (pvI n1), some (pvI n2), none], [pvI 3, pvI 0, pvI n2, pvR 124], M)) rfl ⟨trivial, trivial, trivial, trivial, trivial⟩ ?_
  refine pw_callT hT (as := [pvR 124, pvI n2, pvI 0, pvI 3]) (lo1 := [some (pvR 124), some (pvI n2), some (pvI 0), some (pvI 3)]) (d1 := d) (rest := []) rfl rfl rfl rfl rfl (fun _ => rfl) (Nat.zero_le _) rfl rfl rfl (sf_X10_in_124_x_x_x M hok n2 0 3 d) ?_
  by_cases c6_ : n2 < 0
  · refine pw_eqI (if_pos c6_) ?_
    have b7_ : (-2147483648) ≤ Int32.toInt n2 ∧ Int32.toInt n2 ≤ (-1) := zr_lt_l (-1) c6_ (zbnd n2) (show 0 ≤ Int32.toInt 0 ∧ Int32.toInt 0 ≤ 0 from (by decide)) (by decide)
    show PW 80 d (7, [some (pvR 124), some (pvI n1), some (pvI n2), none], [pvI 0], M) _
    refine pw_ifn hT (c := 0 = 0) rfl rfl (fun c8_ => absurd (by decide) c8_) (fun c8_ => ?_)
    refine pw_blk hT 1 (S' := (11, [some (pvR 124), some (pvI n1), some (pvI n2), none], [pvI (-1)], M)) rfl ⟨trivial, trivial⟩ ?_
    exact pw_ret hT rfl (r := some (pvI (-1))) (M' := M) ⟨rfl, rfl⟩ ⟨⟨_, rfl, (zr_wide (show (-1) ≤ Int32.toInt (-1) ∧ Int32.toInt (-1) ≤ (-1) from (by decide)) (by decide) (by decide)), (by rw [if_pos c6_]; first | done | (rw [if_pos c6_]; done))⟩, hok, pvfr_0, (Or.inr rfl), (by rw [if_pos c6_]; first | done | exact rfl | (rw [if_pos c6_]; done) | (rw [if_pos c6_]; exact rfl)), (by rw [if_pos c6_]; first | done | exact rfl | (rw [if_pos c6_]; done) | (rw [if_pos c6_]; exact rfl))⟩
  · refine pw_eqI (if_neg c6_) ?_
    have b9_ : 0 ≤ Int32.toInt n2 ∧ Int32.toInt n2 ≤ 2147483647 := zr_nlt_l 0 c6_ (zbnd n2) (show 0 ≤ Int32.toInt 0 ∧ Int32.toInt 0 ≤ 0 from (by decide)) (by decide)
    by_cases c10_ : 3 < n2
    · refine pw_eqI (if_pos c10_) ?_
      have b11_ : 4 ≤ Int32.toInt n2 ∧ Int32.toInt n2 ≤ 2147483647 := zr_lt_r 4 c10_ b9_ (show 3 ≤ Int32.toInt 3 ∧ Int32.toInt 3 ≤ 3 from (by decide)) (by decide)
      show PW 80 d (7, [some (pvR 124), some (pvI n1), some (pvI n2), none], [pvI 0], M) _
      refine pw_ifn hT (c := 0 = 0) rfl rfl (fun c12_ => absurd (by decide) c12_) (fun c12_ => ?_)
      refine pw_blk hT 1 (S' := (11, [some (pvR 124), some (pvI n1), some (pvI n2), none], [pvI (-1)], M)) rfl ⟨trivial, trivial⟩ ?_
      exact pw_ret hT rfl (r := some (pvI (-1))) (M' := M) ⟨rfl, rfl⟩ ⟨⟨_, rfl, (zr_wide (show (-1) ≤ Int32.toInt (-1) ∧ Int32.toInt (-1) ≤ (-1) from (by decide)) (by decide) (by decide)), (by rw [if_neg c6_, if_pos c10_]; first | done | (rw [if_pos c10_]; done))⟩, hok, pvfr_0, (Or.inr rfl), (by rw [if_neg c6_, if_pos c10_]; first | done | exact rfl | (rw [if_pos c10_]; done) | (rw [if_pos c10_]; exact rfl)), (by rw [if_neg c6_, if_pos c10_]; first | done | exact rfl | (rw [if_pos c10_]; done) | (rw [if_pos c10_]; exact rfl))⟩
    · refine pw_eqI (if_neg c10_) ?_
      have b13_ : 0 ≤ Int32.toInt n2 ∧ Int32.toInt n2 ≤ 3 := zr_nlt_r 3 c10_ b9_ (show 3 ≤ Int32.toInt 3 ∧ Int32.toInt 3 ≤ 3 from (by decide)) (by decide)
      show PW 80 d (7, [some (pvR 124), some (pvI n1), some (pvI n2), none], [pvI 1], M) _
      refine pw_ifn hT (c := 1 = 0) rfl rfl (fun c14_ => ?_) (fun c14_ => absurd c14_ (by decide))
      refine pw_blk hT 4 (S' := (17, [some (pvR 124), some (pvI n1), some (pvI n2), none], [pvI 99, pvI 0, pvI n1, pvR 124], M)) rfl ⟨trivial, trivial, trivial, trivial, trivial⟩ ?_
      refine pw_callT hT (as := [pvR 124, pvI n1, pvI 0, pvI 99]) (lo1 := [some (pvR 124), some (pvI n1), some (pvI 0), some (pvI 99)]) (d1 := d) (rest := []) rfl rfl rfl rfl rfl (fun _ => rfl) (Nat.zero_le _) rfl rfl rfl (sf_X10_in_124_x_x_x M hok n1 0 99 d) ?_
      by_cases c20_ : n1 < 0
      · refine pw_eqI (if_pos c20_) ?_
        have b21_ : (-2147483648) ≤ Int32.toInt n1 ∧ Int32.toInt n1 ≤ (-1) := zr_lt_l (-1) c20_ (zbnd n1) (show 0 ≤ Int32.toInt 0 ∧ Int32.toInt 0 ≤ 0 from (by decide)) (by decide)
        show PW 80 d (20, [some (pvR 124), some (pvI n1), some (pvI n2), none], [pvI 0], M) _
        refine pw_ifn hT (c := 0 = 0) rfl rfl (fun c22_ => absurd (by decide) c22_) (fun c22_ => ?_)
        refine pw_blk hT 1 (S' := (25, [some (pvR 124), some (pvI n1), some (pvI n2), none], [pvI (-2)], M)) rfl ⟨trivial, trivial⟩ ?_
        exact pw_ret hT rfl (r := some (pvI (-2))) (M' := M) ⟨rfl, rfl⟩ ⟨⟨_, rfl, (zr_wide (show (-2) ≤ Int32.toInt (-2) ∧ Int32.toInt (-2) ≤ (-2) from (by decide)) (by decide) (by decide)), (by rw [if_neg c6_, if_neg c10_, if_pos c20_]; first | done | (rw [if_pos c20_]; done))⟩, hok, pvfr_0, (Or.inr rfl), (by rw [if_neg c6_, if_neg c10_, if_pos c20_]; first | done | exact rfl | (rw [if_pos c20_]; done) | (rw [if_pos c20_]; exact rfl)), (by rw [if_neg c6_, if_neg c10_, if_pos c20_]; first | done | exact rfl | (rw [if_pos c20_]; done) | (rw [if_pos c20_]; exact rfl))⟩
      · refine pw_eqI (if_neg c20_) ?_
        have b23_ : 0 ≤ Int32.toInt n1 ∧ Int32.toInt n1 ≤ 2147483647 := zr_nlt_l 0 c20_ (zbnd n1) (show 0 ≤ Int32.toInt 0 ∧ Int32.toInt 0 ≤ 0 from (by decide)) (by decide)
        by_cases c24_ : 99 < n1
        · refine pw_eqI (if_pos c24_) ?_
          have b25_ : 100 ≤ Int32.toInt n1 ∧ Int32.toInt n1 ≤ 2147483647 := zr_lt_r 100 c24_ b23_ (show 99 ≤ Int32.toInt 99 ∧ Int32.toInt 99 ≤ 99 from (by decide)) (by decide)
          show PW 80 d (20, [some (pvR 124), some (pvI n1), some (pvI n2), none], [pvI 0], M) _
          refine pw_ifn hT (c := 0 = 0) rfl rfl (fun c26_ => absurd (by decide) c26_) (fun c26_ => ?_)
          refine pw_blk hT 1 (S' := (25, [some (pvR 124), some (pvI n1), some (pvI n2), none], [pvI (-2)], M)) rfl ⟨trivial, trivial⟩ ?_
          exact pw_ret hT rfl (r := some (pvI (-2))) (M' := M) ⟨rfl, rfl⟩ ⟨⟨_, rfl, (zr_wide (show (-2) ≤ Int32.toInt (-2) ∧ Int32.toInt (-2) ≤ (-2) from (by decide)) (by decide) (by decide)), (by rw [if_neg c6_, if_neg c10_, if_neg c20_, if_pos c24_]; first | done | (rw [if_pos c24_]; done))⟩, hok, pvfr_0, (Or.inr rfl), (by rw [if_neg c6_, if_neg c10_, if_neg c20_, if_pos c24_]; first | done | exact rfl | (rw [if_pos c24_]; done) | (rw [if_pos c24_]; exact rfl)), (by rw [if_neg c6_, if_neg c10_, if_neg c20_, if_pos c24_]; first | done | exact rfl | (rw [if_pos c24_]; done) | (rw [if_pos c24_]; exact rfl))⟩
        · refine pw_eqI (if_neg c24_) ?_
          have b27_ : 0 ≤ Int32.toInt n1 ∧ Int32.toInt n1 ≤ 99 := zr_nlt_r 99 c24_ b23_ (show 99 ≤ Int32.toInt 99 ∧ Int32.toInt 99 ≤ 99 from (by decide)) (by decide)
          show PW 80 d (20, [some (pvR 124), some (pvI n1), some (pvI n2), none], [pvI 1], M) _
          refine pw_ifn hT (c := 1 = 0) rfl rfl (fun c28_ => ?_) (fun c28_ => absurd c28_ (by decide))
          have b29_ : 0 ≤ Int32.toInt (M.1 124 3) ∧ Int32.toInt (M.1 124 3) ≤ 108 := pvok_r hok 124 3 rfl
          refine pw_blkw hT 6 (pc := 36) (lo := [some (pvR 124), some (pvI n1), some (pvI n2), some (pvI (M.1 124 3))]) (st := []) (M := pvu M 124 3 n1) rfl ⟨trivial, rfl, trivial, trivial, trivial, rfl, trivial⟩ (fun M30_ e31_ => ?_)
          have o32_ : pvOk M30_ := pvok_u2 e31_ hok rfl (zr_wide b27_ (by decide) (by decide))
          have f33_ : pvFr fp_eX10_storm_124_x_x M M30_ := pvfr_u e31_ pvfr_0 rfl
          refine pw_blkw hT 3 (pc := 41) (lo := [some (pvR 124), some (pvI n1), some (pvI n2), some (pvI (M.1 124 3))]) (st := []) (M := pvu M30_ 124 4 n2) rfl ⟨trivial, trivial, rfl, trivial⟩ (fun M34_ e35_ => ?_)
          have o36_ : pvOk M34_ := pvok_u2 e35_ o32_ rfl (zr_wide b13_ (by decide) (by decide))
          have f37_ : pvFr fp_eX10_storm_124_x_x M M34_ := pvfr_u e35_ f33_ rfl
          refine pw_blk hT 1 (S' := (42, [some (pvR 124), some (pvI n1), some (pvI n2), some (pvI (M.1 124 3))], [pvI (M.1 124 3)], M34_)) rfl ⟨trivial, trivial⟩ ?_
          exact pw_ret hT rfl (r := some (pvI (M.1 124 3))) (M' := M34_) ⟨rfl, rfl⟩ ⟨⟨_, rfl, (zr_wide b29_ (by decide) (by decide)), (by rw [if_neg c6_, if_neg c10_, if_neg c20_, if_neg c24_]; first | done | (rw [if_neg c24_]; done))⟩, o36_, f37_, (Or.inl (by have w0 : Int32.toInt (M34_.1 124 3) = Int32.toInt (M30_.1 124 3) := congrArg Int32.toInt (pvu_n e35_ 124 3 (Or.inr (by decide))); have w1 : Int32.toInt (M30_.1 124 3) = Int32.toInt n1 := congrArg Int32.toInt (pvu_s e31_); omega)), (by rw [if_neg c6_, if_neg c10_, if_neg c20_, if_neg c24_]; first | done | exact ((pvu_n e35_ 124 3 (Or.inr (by decide))).trans (pvu_s e31_)) | (rw [if_neg c24_]; done) | (rw [if_neg c24_]; exact ((pvu_n e35_ 124 3 (Or.inr (by decide))).trans (pvu_s e31_)))), (by rw [if_neg c6_, if_neg c10_, if_neg c20_, if_neg c24_]; first | done | exact (pvu_s e35_) | (rw [if_neg c24_]; done) | (rw [if_neg c24_]; exact (pvu_s e35_)))⟩
set_option maxHeartbeats 4000000 in
set_option maxRecDepth 10000 in
theorem se_X10_taken_124_x_x (M : pvM) (hok : pvOk M) (n1 : Int32) (n2 : Int32) (d : Nat) : PW 81 d (0, [some (pvR 124), some (pvI n1), some (pvI n2), none], [], M) (fun r X => (∃ x : Int32, r = some (pvI x) ∧ ((-12) ≤ Int32.toInt x ∧ Int32.toInt x ≤ 6) ∧ x = (if n2 < 0 then (-2) else (if 6 < n2 then (-2) else (if n1 < 0 then (-11) else (if ((M.1 124 0) - 1) < n1 then (-11) else (if n2 = 0 then (M.1 125 (Int32.toNatClampNeg n1)) else (if (M.1 125 (Int32.toNatClampNeg n1)) = n2 then (M.1 125 (Int32.toNatClampNeg n1)) else (if n2 = 1 then (if (M.1 125 (Int32.toNatClampNeg n1)) = 4 then (M.1 125 (Int32.toNatClampNeg n1)) else (-12)) else (if n2 = 2 then (if (M.1 125 (Int32.toNatClampNeg n1)) = 5 then (M.1 125 (Int32.toNatClampNeg n1)) else (-12)) else (if n2 = 3 then (if (M.1 125 (Int32.toNatClampNeg n1)) = 6 then (M.1 125 (Int32.toNatClampNeg n1)) else (-12)) else (-12))))))))))) ∧ X = M) := by
  have hT : pvdom 81 = pvD_81 := rfl
  refine pw_blk hT 4 (S' := (5, [some (pvR 124), some (pvI n1), some (pvI n2), none], [pvI 6, pvI 0, pvI n2, pvR 124], M)) rfl ⟨trivial, trivial, trivial, trivial, trivial⟩ ?_
  refine pw_callT hT (as := [pvR 124, pvI n2, pvI 0, pvI 6]) (lo1 := [some (pvR 124), some (pvI n2), some (pvI 0), some (pvI 6)]) (d1 := d) (rest := []) rfl rfl rfl rfl rfl (fun _ => rfl) (Nat.zero_le _) rfl rfl rfl (sf_X10_in_124_x_x_x M hok n2 0 6 d) ?_
  by_cases c6_ : n2 < 0
  · refine pw_eqI (if_pos c6_) ?_
    have b7_ : (-2147483648) ≤ Int32.toInt n2 ∧ Int32.toInt n2 ≤ (-1) := zr_lt_l (-1) c6_ (zbnd n2) (show 0 ≤ Int32.toInt 0 ∧ Int32.toInt 0 ≤ 0 from (by decide)) (by decide)
    show PW 81 d (8, [some (pvR 124), some (pvI n1), some (pvI n2), none], [pvI 0], M) _
    refine pw_ifn hT (c := 0 = 0) rfl rfl (fun c8_ => absurd (by decide) c8_) (fun c8_ => ?_)
    refine pw_blk hT 1 (S' := (13, [some (pvR 124), some (pvI n1), some (pvI n2), none], [pvI (-2)], M)) rfl ⟨trivial, trivial⟩ ?_
    exact pw_ret hT rfl (r := some (pvI (-2))) (M' := M) ⟨rfl, rfl⟩ ⟨⟨_, rfl, (zr_wide (show (-2) ≤ Int32.toInt (-2) ∧ Int32.toInt (-2) ≤ (-2) from (by decide)) (by decide) (by decide)), (by rw [if_pos c6_]; first | done | (rw [if_pos c6_]; done))⟩, rfl⟩
  · refine pw_eqI (if_neg c6_) ?_
    have b9_ : 0 ≤ Int32.toInt n2 ∧ Int32.toInt n2 ≤ 2147483647 := zr_nlt_l 0 c6_ (zbnd n2) (show 0 ≤ Int32.toInt 0 ∧ Int32.toInt 0 ≤ 0 from (by decide)) (by decide)
    by_cases c10_ : 6 < n2
    · refine pw_eqI (if_pos c10_) ?_
      have b11_ : 7 ≤ Int32.toInt n2 ∧ Int32.toInt n2 ≤ 2147483647 := zr_lt_r 7 c10_ b9_ (show 6 ≤ Int32.toInt 6 ∧ Int32.toInt 6 ≤ 6 from (by decide)) (by decide)
      show PW 81 d (8, [some (pvR 124), some (pvI n1), some (pvI n2), none], [pvI 0], M) _
      refine pw_ifn hT (c := 0 = 0) rfl rfl (fun c12_ => absurd (by decide) c12_) (fun c12_ => ?_)
      refine pw_blk hT 1 (S' := (13, [some (pvR 124), some (pvI n1), some (pvI n2), none], [pvI (-2)], M)) rfl ⟨trivial, trivial⟩ ?_
      exact pw_ret hT rfl (r := some (pvI (-2))) (M' := M) ⟨rfl, rfl⟩ ⟨⟨_, rfl, (zr_wide (show (-2) ≤ Int32.toInt (-2) ∧ Int32.toInt (-2) ≤ (-2) from (by decide)) (by decide) (by decide)), (by rw [if_neg c6_, if_pos c10_]; first | done | (rw [if_pos c10_]; done))⟩, rfl⟩
    · refine pw_eqI (if_neg c10_) ?_
      have b13_ : 0 ≤ Int32.toInt n2 ∧ Int32.toInt n2 ≤ 6 := zr_nlt_r 6 c10_ b9_ (show 6 ≤ Int32.toInt 6 ∧ Int32.toInt 6 ≤ 6 from (by decide)) (by decide)
      show PW 81 d (8, [some (pvR 124), some (pvI n1), some (pvI n2), none], [pvI 1], M) _
      refine pw_ifn hT (c := 1 = 0) rfl rfl (fun c14_ => ?_) (fun c14_ => absurd c14_ (by decide))
      refine pw_blk hT 2 (S' := (16, [some (pvR 124), some (pvI n1), some (pvI n2), none], [pvI n1, pvR 124], M)) rfl ⟨trivial, trivial, trivial⟩ ?_
      refine pw_callT hT (as := [pvR 124, pvI n1]) (lo1 := [some (pvR 124), some (pvI n1)]) (d1 := d) (rest := []) rfl rfl rfl rfl rfl (fun _ => rfl) (Nat.zero_le _) rfl rfl rfl (sf_X10_isWindow_124_x M hok n1 d) ?_
      by_cases c20_ : n1 < 0
      · refine pw_eqI (if_pos c20_) ?_
        have b21_ : (-2147483648) ≤ Int32.toInt n1 ∧ Int32.toInt n1 ≤ (-1) := zr_lt_l (-1) c20_ (zbnd n1) (show 0 ≤ Int32.toInt 0 ∧ Int32.toInt 0 ≤ 0 from (by decide)) (by decide)
        show PW 81 d (19, [some (pvR 124), some (pvI n1), some (pvI n2), none], [pvI 0], M) _
        refine pw_ifn hT (c := 0 = 0) rfl rfl (fun c22_ => absurd (by decide) c22_) (fun c22_ => ?_)
        refine pw_blk hT 1 (S' := (24, [some (pvR 124), some (pvI n1), some (pvI n2), none], [pvI (-11)], M)) rfl ⟨trivial, trivial⟩ ?_
        exact pw_ret hT rfl (r := some (pvI (-11))) (M' := M) ⟨rfl, rfl⟩ ⟨⟨_, rfl, (zr_wide (show (-11) ≤ Int32.toInt (-11) ∧ Int32.toInt (-11) ≤ (-11) from (by decide)) (by decide) (by decide)), (by rw [if_neg c6_, if_neg c10_, if_pos c20_]; first | done | (rw [if_pos c20_]; done))⟩, rfl⟩
      · refine pw_eqI (if_neg c20_) ?_
        have b23_ : 0 ≤ Int32.toInt n1 ∧ Int32.toInt n1 ≤ 2147483647 := zr_nlt_l 0 c20_ (zbnd n1) (show 0 ≤ Int32.toInt 0 ∧ Int32.toInt 0 ≤ 0 from (by decide)) (by decide)
        have b24_ : 0 ≤ Int32.toInt (M.1 124 0) ∧ Int32.toInt (M.1 124 0) ≤ 7 := pvok_r hok 124 0 rfl
        obtain ⟨q26_, b25_⟩ : (Int32.toInt ((M.1 124 0) - 1) = Int32.toInt (M.1 124 0) - 1) ∧ ((-1) ≤ Int32.toInt ((M.1 124 0) - 1) ∧ Int32.toInt ((M.1 124 0) - 1) ≤ 6) := zsub_k (M.1 124 0) 1 1 (-1) 6 b24_ (by decide) (by decide) (by decide) (by decide) (by decide)
        by_cases c27_ : ((M.1 124 0) - 1) < n1
        · refine pw_eqI (if_pos c27_) ?_
          have d28_ : Int32.toInt ((M.1 124 0) - 1) < Int32.toInt n1 := (zi_lt _ _).mp c27_
          show PW 81 d (19, [some (pvR 124), some (pvI n1), some (pvI n2), none], [pvI 0], M) _
          refine pw_ifn hT (c := 0 = 0) rfl rfl (fun c29_ => absurd (by decide) c29_) (fun c29_ => ?_)
          refine pw_blk hT 1 (S' := (24, [some (pvR 124), some (pvI n1), some (pvI n2), none], [pvI (-11)], M)) rfl ⟨trivial, trivial⟩ ?_
          exact pw_ret hT rfl (r := some (pvI (-11))) (M' := M) ⟨rfl, rfl⟩ ⟨⟨_, rfl, (zr_wide (show (-11) ≤ Int32.toInt (-11) ∧ Int32.toInt (-11) ≤ (-11) from (by decide)) (by decide) (by decide)), (by rw [if_neg c6_, if_neg c10_, if_neg c20_, if_pos c27_]; first | done | (rw [if_pos c27_]; done))⟩, rfl⟩
        · refine pw_eqI (if_neg c27_) ?_
          have b30_ : 0 ≤ Int32.toInt ((M.1 124 0) - 1) ∧ Int32.toInt ((M.1 124 0) - 1) ≤ 6 := zr_nlt_l 0 c27_ b25_ b23_ (by decide)
          have b31_ : 0 ≤ Int32.toInt n1 ∧ Int32.toInt n1 ≤ 6 := zr_nlt_r 6 c27_ b23_ b30_ (by decide)
          have d32_ : Int32.toInt ((M.1 124 0) - 1) ≥ Int32.toInt n1 := Int.not_lt.mp ((not_congr (zi_lt _ _)).mp c27_)
          show PW 81 d (19, [some (pvR 124), some (pvI n1), some (pvI n2), none], [pvI 1], M) _
          refine pw_ifn hT (c := 1 = 0) rfl rfl (fun c33_ => ?_) (fun c33_ => absurd c33_ (by decide))
          have b34_ : 0 ≤ Int32.toInt (M.1 125 (Int32.toNatClampNeg n1)) ∧ Int32.toInt (M.1 125 (Int32.toNatClampNeg n1)) ≤ 6 := pvok_r hok 125 (Int32.toNatClampNeg n1) rfl
          refine pw_blk hT 6 (S' := (33, [some (pvR 124), some (pvI n1), some (pvI n2), some (pvI (M.1 125 (Int32.toNatClampNeg n1)))], [pvI n2], M)) rfl ⟨trivial, rfl, trivial, ⟨rfl, (zr_in (n := 7) b31_ (by decide) (by decide))⟩, trivial, trivial, trivial⟩ ?_
          refine pw_if hT (c := n2 = 0) rfl rfl (fun c35_ => ?_) (fun c35_ => ?_)
          · have b36_ : 0 ≤ Int32.toInt n2 ∧ Int32.toInt n2 ≤ 0 := (by have u0 := b13_; have u1 := (zi_eq _ _).mp c35_; have u2 := (show 0 ≤ Int32.toInt 0 ∧ Int32.toInt 0 ≤ 0 from (by decide)); omega)
            refine pw_blk hT 2 (S' := (78, [some (pvR 124), some (pvI n1), some (pvI n2), some (pvI (M.1 125 (Int32.toNatClampNeg n1)))], [pvI (M.1 125 (Int32.toNatClampNeg n1))], M)) rfl ⟨trivial, trivial, trivial⟩ ?_
            exact pw_ret hT rfl (r := some (pvI (M.1 125 (Int32.toNatClampNeg n1)))) (M' := M) ⟨rfl, rfl⟩ ⟨⟨_, rfl, (zr_wide b34_ (by decide) (by decide)), (by rw [if_neg c6_, if_neg c10_, if_neg c20_, if_neg c27_, if_pos c35_]; first | done | (rw [if_pos c35_]; done))⟩, rfl⟩
          · have b37_ : 1 ≤ Int32.toInt n2 ∧ Int32.toInt n2 ≤ 6 := (by have u0 := b13_; have u1 := (not_congr (zi_eq _ _)).mp c35_; have u2 := (show 0 ≤ Int32.toInt 0 ∧ Int32.toInt 0 ≤ 0 from (by decide)); omega)
            refine pw_blk hT 2 (S' := (38, [some (pvR 124), some (pvI n1), some (pvI n2), some (pvI (M.1 125 (Int32.toNatClampNeg n1)))], [pvI n2, pvI (M.1 125 (Int32.toNatClampNeg n1))], M)) rfl ⟨trivial, trivial, trivial⟩ ?_
            refine pw_ic hT (c := (M.1 125 (Int32.toNatClampNeg n1)) = n2) rfl rfl (fun c38_ => ?_) (fun c38_ => ?_)
            · have b39_ : 1 ≤ Int32.toInt (M.1 125 (Int32.toNatClampNeg n1)) ∧ Int32.toInt (M.1 125 (Int32.toNatClampNeg n1)) ≤ 6 := (by have u0 := b34_; have u1 := (zi_eq _ _).mp c38_; have u2 := b37_; omega)
              have d40_ : Int32.toInt (M.1 125 (Int32.toNatClampNeg n1)) = Int32.toInt n2 := (zi_eq _ _).mp c38_
              refine pw_blk hT 2 (S' := (78, [some (pvR 124), some (pvI n1), some (pvI n2), some (pvI (M.1 125 (Int32.toNatClampNeg n1)))], [pvI (M.1 125 (Int32.toNatClampNeg n1))], M)) rfl ⟨trivial, trivial, trivial⟩ ?_
              exact pw_ret hT rfl (r := some (pvI (M.1 125 (Int32.toNatClampNeg n1)))) (M' := M) ⟨rfl, rfl⟩ ⟨⟨_, rfl, (zr_wide b39_ (by decide) (by decide)), (by rw [if_neg c6_, if_neg c10_, if_neg c20_, if_neg c27_, if_neg c35_, if_pos c38_]; first | done | (rw [if_pos c38_]; done))⟩, rfl⟩
            · refine pw_blk hT 2 (S' := (43, [some (pvR 124), some (pvI n1), some (pvI n2), some (pvI (M.1 125 (Int32.toNatClampNeg n1)))], [pvI 1, pvI n2], M)) rfl ⟨trivial, trivial, trivial⟩ ?_
              refine pw_icn hT (c := n2 = 1) rfl rfl (fun c41_ => ?_) (fun c41_ => ?_)
              · have b42_ : 2 ≤ Int32.toInt n2 ∧ Int32.toInt n2 ≤ 6 := (by have u0 := b37_; have u1 := (not_congr (zi_eq _ _)).mp c41_; have u2 := (show 1 ≤ Int32.toInt 1 ∧ Int32.toInt 1 ≤ 1 from (by decide)); omega)
                refine pw_blk hT 2 (S' := (53, [some (pvR 124), some (pvI n1), some (pvI n2), some (pvI (M.1 125 (Int32.toNatClampNeg n1)))], [pvI 2, pvI n2], M)) rfl ⟨trivial, trivial, trivial⟩ ?_
                refine pw_icn hT (c := n2 = 2) rfl rfl (fun c43_ => ?_) (fun c43_ => ?_)
                · have b44_ : 3 ≤ Int32.toInt n2 ∧ Int32.toInt n2 ≤ 6 := (by have u0 := b42_; have u1 := (not_congr (zi_eq _ _)).mp c43_; have u2 := (show 2 ≤ Int32.toInt 2 ∧ Int32.toInt 2 ≤ 2 from (by decide)); omega)
                  refine pw_blk hT 2 (S' := (63, [some (pvR 124), some (pvI n1), some (pvI n2), some (pvI (M.1 125 (Int32.toNatClampNeg n1)))], [pvI 3, pvI n2], M)) rfl ⟨trivial, trivial, trivial⟩ ?_
                  refine pw_icn hT (c := n2 = 3) rfl rfl (fun c45_ => ?_) (fun c45_ => ?_)
                  · have b46_ : 4 ≤ Int32.toInt n2 ∧ Int32.toInt n2 ≤ 6 := (by have u0 := b44_; have u1 := (not_congr (zi_eq _ _)).mp c45_; have u2 := (show 3 ≤ Int32.toInt 3 ∧ Int32.toInt 3 ≤ 3 from (by decide)); omega)
                    refine pw_blk hT 1 (S' := (78, [some (pvR 124), some (pvI n1), some (pvI n2), some (pvI (M.1 125 (Int32.toNatClampNeg n1)))], [pvI (-12)], M)) rfl ⟨trivial, trivial⟩ ?_
                    exact pw_ret hT rfl (r := some (pvI (-12))) (M' := M) ⟨rfl, rfl⟩ ⟨⟨_, rfl, (zr_wide (show (-12) ≤ Int32.toInt (-12) ∧ Int32.toInt (-12) ≤ (-12) from (by decide)) (by decide) (by decide)), (by rw [if_neg c6_, if_neg c10_, if_neg c20_, if_neg c27_, if_neg c35_, if_neg c38_, if_neg c41_, if_neg c43_, if_neg c45_]; first | done | (rw [if_neg c45_]; done))⟩, rfl⟩
                  · have b47_ : 3 ≤ Int32.toInt n2 ∧ Int32.toInt n2 ≤ 3 := (by have u0 := b44_; have u1 := (zi_eq _ _).mp c45_; have u2 := (show 3 ≤ Int32.toInt 3 ∧ Int32.toInt 3 ≤ 3 from (by decide)); omega)
                    refine pw_blk hT 2 (S' := (69, [some (pvR 124), some (pvI n1), some (pvI n2), some (pvI (M.1 125 (Int32.toNatClampNeg n1)))], [pvI 6, pvI (M.1 125 (Int32.toNatClampNeg n1))], M)) rfl ⟨trivial, trivial, trivial⟩ ?_
                    refine pw_icn hT (c := (M.1 125 (Int32.toNatClampNeg n1)) = 6) rfl rfl (fun c48_ => ?_) (fun c48_ => ?_)
                    · have b49_ : 0 ≤ Int32.toInt (M.1 125 (Int32.toNatClampNeg n1)) ∧ Int32.toInt (M.1 125 (Int32.toNatClampNeg n1)) ≤ 5 := (by have u0 := b34_; have u1 := (not_congr (zi_eq _ _)).mp c48_; have u2 := (show 6 ≤ Int32.toInt 6 ∧ Int32.toInt 6 ≤ 6 from (by decide)); omega)
                      refine pw_blk hT 1 (S' := (78, [some (pvR 124), some (pvI n1), some (pvI n2), some (pvI (M.1 125 (Int32.toNatClampNeg n1)))], [pvI (-12)], M)) rfl ⟨trivial, trivial⟩ ?_
                      exact pw_ret hT rfl (r := some (pvI (-12))) (M' := M) ⟨rfl, rfl⟩ ⟨⟨_, rfl, (zr_wide (show (-12) ≤ Int32.toInt (-12) ∧ Int32.toInt (-12) ≤ (-12) from (by decide)) (by decide) (by decide)), (by rw [if_neg c6_, if_neg c10_, if_neg c20_, if_neg c27_, if_neg c35_, if_neg c38_, if_neg c41_, if_neg c43_, if_pos c45_, if_neg c48_]; first | done | (rw [if_neg c48_]; done))⟩, rfl⟩
                    · have b50_ : 6 ≤ Int32.toInt (M.1 125 (Int32.toNatClampNeg n1)) ∧ Int32.toInt (M.1 125 (Int32.toNatClampNeg n1)) ≤ 6 := (by have u0 := b34_; have u1 := (zi_eq _ _).mp c48_; have u2 := (show 6 ≤ Int32.toInt 6 ∧ Int32.toInt 6 ≤ 6 from (by decide)); omega)
                      refine pw_blk hT 2 (S' := (78, [some (pvR 124), some (pvI n1), some (pvI n2), some (pvI (M.1 125 (Int32.toNatClampNeg n1)))], [pvI (M.1 125 (Int32.toNatClampNeg n1))], M)) rfl ⟨trivial, trivial, trivial⟩ ?_
                      exact pw_ret hT rfl (r := some (pvI (M.1 125 (Int32.toNatClampNeg n1)))) (M' := M) ⟨rfl, rfl⟩ ⟨⟨_, rfl, (zr_wide b50_ (by decide) (by decide)), (by rw [if_neg c6_, if_neg c10_, if_neg c20_, if_neg c27_, if_neg c35_, if_neg c38_, if_neg c41_, if_neg c43_, if_pos c45_, if_pos c48_]; first | done | (rw [if_pos c48_]; done))⟩, rfl⟩
                · have b51_ : 2 ≤ Int32.toInt n2 ∧ Int32.toInt n2 ≤ 2 := (by have u0 := b42_; have u1 := (zi_eq _ _).mp c43_; have u2 := (show 2 ≤ Int32.toInt 2 ∧ Int32.toInt 2 ≤ 2 from (by decide)); omega)
                  refine pw_blk hT 2 (S' := (58, [some (pvR 124), some (pvI n1), some (pvI n2), some (pvI (M.1 125 (Int32.toNatClampNeg n1)))], [pvI 5, pvI (M.1 125 (Int32.toNatClampNeg n1))], M)) rfl ⟨trivial, trivial, trivial⟩ ?_
                  refine pw_ic hT (c := (M.1 125 (Int32.toNatClampNeg n1)) = 5) rfl rfl (fun c52_ => ?_) (fun c52_ => ?_)
                  · have b53_ : 5 ≤ Int32.toInt (M.1 125 (Int32.toNatClampNeg n1)) ∧ Int32.toInt (M.1 125 (Int32.toNatClampNeg n1)) ≤ 5 := (by have u0 := b34_; have u1 := (zi_eq _ _).mp c52_; have u2 := (show 5 ≤ Int32.toInt 5 ∧ Int32.toInt 5 ≤ 5 from (by decide)); omega)
                    refine pw_blk hT 2 (S' := (78, [some (pvR 124), some (pvI n1), some (pvI n2), some (pvI (M.1 125 (Int32.toNatClampNeg n1)))], [pvI (M.1 125 (Int32.toNatClampNeg n1))], M)) rfl ⟨trivial, trivial, trivial⟩ ?_
                    exact pw_ret hT rfl (r := some (pvI (M.1 125 (Int32.toNatClampNeg n1)))) (M' := M) ⟨rfl, rfl⟩ ⟨⟨_, rfl, (zr_wide b53_ (by decide) (by decide)), (by rw [if_neg c6_, if_neg c10_, if_neg c20_, if_neg c27_, if_neg c35_, if_neg c38_, if_neg c41_, if_pos c43_, if_pos c52_]; first | done | (rw [if_pos c52_]; done))⟩, rfl⟩
                  · refine pw_blk hT 2 (S' := (63, [some (pvR 124), some (pvI n1), some (pvI n2), some (pvI (M.1 125 (Int32.toNatClampNeg n1)))], [pvI 3, pvI n2], M)) rfl ⟨trivial, trivial, trivial⟩ ?_
                    refine pw_icn hT (c := n2 = 3) rfl rfl (fun c54_ => ?_) (fun c54_ => absurd c54_ (by have z0 := b51_; have z1 := (show 3 ≤ Int32.toInt 3 ∧ Int32.toInt 3 ≤ 3 from (by decide)); rw [zi_eq]; omega))
                    refine pw_blk hT 1 (S' := (78, [some (pvR 124), some (pvI n1), some (pvI n2), some (pvI (M.1 125 (Int32.toNatClampNeg n1)))], [pvI (-12)], M)) rfl ⟨trivial, trivial⟩ ?_
                    exact pw_ret hT rfl (r := some (pvI (-12))) (M' := M) ⟨rfl, rfl⟩ ⟨⟨_, rfl, (zr_wide (show (-12) ≤ Int32.toInt (-12) ∧ Int32.toInt (-12) ≤ (-12) from (by decide)) (by decide) (by decide)), (by rw [if_neg c6_, if_neg c10_, if_neg c20_, if_neg c27_, if_neg c35_, if_neg c38_, if_neg c41_, if_pos c43_, if_neg c52_]; first | done | (rw [if_neg c52_]; done))⟩, rfl⟩
              · have b55_ : 1 ≤ Int32.toInt n2 ∧ Int32.toInt n2 ≤ 1 := (by have u0 := b37_; have u1 := (zi_eq _ _).mp c41_; have u2 := (show 1 ≤ Int32.toInt 1 ∧ Int32.toInt 1 ≤ 1 from (by decide)); omega)
                refine pw_blk hT 2 (S' := (48, [some (pvR 124), some (pvI n1), some (pvI n2), some (pvI (M.1 125 (Int32.toNatClampNeg n1)))], [pvI 4, pvI (M.1 125 (Int32.toNatClampNeg n1))], M)) rfl ⟨trivial, trivial, trivial⟩ ?_
                refine pw_ic hT (c := (M.1 125 (Int32.toNatClampNeg n1)) = 4) rfl rfl (fun c56_ => ?_) (fun c56_ => ?_)
                · have b57_ : 4 ≤ Int32.toInt (M.1 125 (Int32.toNatClampNeg n1)) ∧ Int32.toInt (M.1 125 (Int32.toNatClampNeg n1)) ≤ 4 := (by have u0 := b34_; have u1 := (zi_eq _ _).mp c56_; have u2 := (show 4 ≤ Int32.toInt 4 ∧ Int32.toInt 4 ≤ 4 from (by decide)); omega)
                  refine pw_blk hT 2 (S' := (78, [some (pvR 124), some (pvI n1), some (pvI n2), some (pvI (M.1 125 (Int32.toNatClampNeg n1)))], [pvI (M.1 125 (Int32.toNatClampNeg n1))], M)) rfl ⟨trivial, trivial, trivial⟩ ?_
                  exact pw_ret hT rfl (r := some (pvI (M.1 125 (Int32.toNatClampNeg n1)))) (M' := M) ⟨rfl, rfl⟩ ⟨⟨_, rfl, (zr_wide b57_ (by decide) (by decide)), (by rw [if_neg c6_, if_neg c10_, if_neg c20_, if_neg c27_, if_neg c35_, if_neg c38_, if_pos c41_, if_pos c56_]; first | done | (rw [if_pos c56_]; done))⟩, rfl⟩
                · refine pw_blk hT 2 (S' := (53, [some (pvR 124), some (pvI n1), some (pvI n2), some (pvI (M.1 125 (Int32.toNatClampNeg n1)))], [pvI 2, pvI n2], M)) rfl ⟨trivial, trivial, trivial⟩ ?_
                  refine pw_icn hT (c := n2 = 2) rfl rfl (fun c58_ => ?_) (fun c58_ => absurd c58_ (by have z0 := b55_; have z1 := (show 2 ≤ Int32.toInt 2 ∧ Int32.toInt 2 ≤ 2 from (by decide)); rw [zi_eq]; omega))
                  refine pw_blk hT 2 (S' := (63, [some (pvR 124), some (pvI n1), some (pvI n2), some (pvI (M.1 125 (Int32.toNatClampNeg n1)))], [pvI 3, pvI n2], M)) rfl ⟨trivial, trivial, trivial⟩ ?_
                  refine pw_icn hT (c := n2 = 3) rfl rfl (fun c59_ => ?_) (fun c59_ => absurd c59_ (by have z0 := b55_; have z1 := (show 3 ≤ Int32.toInt 3 ∧ Int32.toInt 3 ≤ 3 from (by decide)); rw [zi_eq]; omega))
                  refine pw_blk hT 1 (S' := (78, [some (pvR 124), some (pvI n1), some (pvI n2), some (pvI (M.1 125 (Int32.toNatClampNeg n1)))], [pvI (-12)], M)) rfl ⟨trivial, trivial⟩ ?_
                  exact pw_ret hT rfl (r := some (pvI (-12))) (M' := M) ⟨rfl, rfl⟩ ⟨⟨_, rfl, (zr_wide (show (-12) ≤ Int32.toInt (-12) ∧ Int32.toInt (-12) ≤ (-12) from (by decide)) (by decide) (by decide)), (by rw [if_neg c6_, if_neg c10_, if_neg c20_, if_neg c27_, if_neg c35_, if_neg c38_, if_pos c41_, if_neg c56_]; first | done | (rw [if_neg c56_]; done))⟩, rfl⟩
def fpL_eX10_tape_124_x_x_x : List (Nat × Nat × Nat) := [(0, 164, 0), (0, 165, 0)]
def fp_eX10_tape_124_x_x_x (q k : Nat) : Bool := pvfp fpL_eX10_tape_124_x_x_x q k
set_option maxHeartbeats 4000000 in
set_option maxRecDepth 10000 in
theorem se_X10_tape_124_x_x_x (M : pvM) (hok : pvOk M) (n1 : Int32) (n2 : Int32) (n3 : Int32) (d : Nat) : PW 89 d (0, [some (pvR 124), some (pvI n1), some (pvI n2), some (pvI n3), none], [], M) (fun r X => (∃ x : Int32, r = some (pvI x) ∧ ((-14) ≤ Int32.toInt x ∧ Int32.toInt x ≤ 1) ∧ x = (if n1 < 0 then (-1) else (if 5 < n1 then (-1) else (if n2 < (-1) then (-2) else (if 4 < n2 then (-2) else (if n2 < 0 then 1 else (if n3 ≤ 60 then (if 0 ≤ n3 then 1 else (-14)) else (-2)))))))) ∧ pvOk X ∧ pvFr fp_eX10_tape_124_x_x_x M X) := by
  have hT : pvdom 89 = pvD_89 := rfl
  refine pw_blk hT 2 (S' := (2, [some (pvR 124), some (pvI n1), some (pvI n2), some (pvI n3), none], [pvI n1, pvR 124], M)) rfl ⟨trivial, trivial, trivial⟩ ?_
  refine pw_callT hT (as := [pvR 124, pvI n1]) (lo1 := [some (pvR 124), some (pvI n1)]) (d1 := d) (rest := []) rfl rfl rfl rfl rfl (fun _ => rfl) (Nat.zero_le _) rfl rfl rfl (sf_X10_isTape_124_x M hok n1 d) ?_
  by_cases c6_ : n1 < 0
  · refine pw_eqI (if_pos c6_) ?_
    have b7_ : (-2147483648) ≤ Int32.toInt n1 ∧ Int32.toInt n1 ≤ (-1) := zr_lt_l (-1) c6_ (zbnd n1) (show 0 ≤ Int32.toInt 0 ∧ Int32.toInt 0 ≤ 0 from (by decide)) (by decide)
    show PW 89 d (5, [some (pvR 124), some (pvI n1), some (pvI n2), some (pvI n3), none], [pvI 0], M) _
    refine pw_ifn hT (c := 0 = 0) rfl rfl (fun c8_ => absurd (by decide) c8_) (fun c8_ => ?_)
    refine pw_blk hT 1 (S' := (9, [some (pvR 124), some (pvI n1), some (pvI n2), some (pvI n3), none], [pvI (-1)], M)) rfl ⟨trivial, trivial⟩ ?_
    exact pw_ret hT rfl (r := some (pvI (-1))) (M' := M) ⟨rfl, rfl⟩ ⟨⟨_, rfl, (zr_wide (show (-1) ≤ Int32.toInt (-1) ∧ Int32.toInt (-1) ≤ (-1) from (by decide)) (by decide) (by decide)), (by rw [if_pos c6_]; first | done | (rw [if_pos c6_]; done))⟩, hok, pvfr_0⟩
  · refine pw_eqI (if_neg c6_) ?_
    have b9_ : 0 ≤ Int32.toInt n1 ∧ Int32.toInt n1 ≤ 2147483647 := zr_nlt_l 0 c6_ (zbnd n1) (show 0 ≤ Int32.toInt 0 ∧ Int32.toInt 0 ≤ 0 from (by decide)) (by decide)
    by_cases c10_ : 5 < n1
    · refine pw_eqI (if_pos c10_) ?_
      have b11_ : 6 ≤ Int32.toInt n1 ∧ Int32.toInt n1 ≤ 2147483647 := zr_lt_r 6 c10_ b9_ (show 5 ≤ Int32.toInt 5 ∧ Int32.toInt 5 ≤ 5 from (by decide)) (by decide)
      show PW 89 d (5, [some (pvR 124), some (pvI n1), some (pvI n2), some (pvI n3), none], [pvI 0], M) _
      refine pw_ifn hT (c := 0 = 0) rfl rfl (fun c12_ => absurd (by decide) c12_) (fun c12_ => ?_)
      refine pw_blk hT 1 (S' := (9, [some (pvR 124), some (pvI n1), some (pvI n2), some (pvI n3), none], [pvI (-1)], M)) rfl ⟨trivial, trivial⟩ ?_
      exact pw_ret hT rfl (r := some (pvI (-1))) (M' := M) ⟨rfl, rfl⟩ ⟨⟨_, rfl, (zr_wide (show (-1) ≤ Int32.toInt (-1) ∧ Int32.toInt (-1) ≤ (-1) from (by decide)) (by decide) (by decide)), (by rw [if_neg c6_, if_pos c10_]; first | done | (rw [if_pos c10_]; done))⟩, hok, pvfr_0⟩
    · refine pw_eqI (if_neg c10_) ?_
      have b13_ : 0 ≤ Int32.toInt n1 ∧ Int32.toInt n1 ≤ 5 := zr_nlt_r 5 c10_ b9_ (show 5 ≤ Int32.toInt 5 ∧ Int32.toInt 5 ≤ 5 from (by decide)) (by decide)
      show PW 89 d (5, [some (pvR 124), some (pvI n1), some (pvI n2), some (pvI n3), none], [pvI 1], M) _
      refine pw_ifn hT (c := 1 = 0) rfl rfl (fun c14_ => ?_) (fun c14_ => absurd c14_ (by decide))
      refine pw_blk hT 4 (S' := (14, [some (pvR 124), some (pvI n1), some (pvI n2), some (pvI n3), none], [pvI 4, pvI (-1), pvI n2, pvR 124], M)) rfl ⟨trivial, trivial, trivial, trivial, trivial⟩ ?_
      refine pw_callT hT (as := [pvR 124, pvI n2, pvI (-1), pvI 4]) (lo1 := [some (pvR 124), some (pvI n2), some (pvI (-1)), some (pvI 4)]) (d1 := d) (rest := []) rfl rfl rfl rfl rfl (fun _ => rfl) (Nat.zero_le _) rfl rfl rfl (sf_X10_in_124_x_x_x M hok n2 (-1) 4 d) ?_
      by_cases c20_ : n2 < (-1)
      · refine pw_eqI (if_pos c20_) ?_
        have b21_ : (-2147483648) ≤ Int32.toInt n2 ∧ Int32.toInt n2 ≤ (-2) := zr_lt_l (-2) c20_ (zbnd n2) (show (-1) ≤ Int32.toInt (-1) ∧ Int32.toInt (-1) ≤ (-1) from (by decide)) (by decide)
        show PW 89 d (17, [some (pvR 124), some (pvI n1), some (pvI n2), some (pvI n3), none], [pvI 0], M) _
        refine pw_if hT (c := 0 = 0) rfl rfl (fun c22_ => ?_) (fun c22_ => absurd (by decide) c22_)
        refine pw_blk hT 1 (S' := (32, [some (pvR 124), some (pvI n1), some (pvI n2), some (pvI n3), none], [pvI (-2)], M)) rfl ⟨trivial, trivial⟩ ?_
        exact pw_ret hT rfl (r := some (pvI (-2))) (M' := M) ⟨rfl, rfl⟩ ⟨⟨_, rfl, (zr_wide (show (-2) ≤ Int32.toInt (-2) ∧ Int32.toInt (-2) ≤ (-2) from (by decide)) (by decide) (by decide)), (by rw [if_neg c6_, if_neg c10_, if_pos c20_]; first | done | (rw [if_pos c20_]; done))⟩, hok, pvfr_0⟩
      · refine pw_eqI (if_neg c20_) ?_
        have b23_ : (-1) ≤ Int32.toInt n2 ∧ Int32.toInt n2 ≤ 2147483647 := zr_nlt_l (-1) c20_ (zbnd n2) (show (-1) ≤ Int32.toInt (-1) ∧ Int32.toInt (-1) ≤ (-1) from (by decide)) (by decide)
        by_cases c24_ : 4 < n2
        · refine pw_eqI (if_pos c24_) ?_
          have b25_ : 5 ≤ Int32.toInt n2 ∧ Int32.toInt n2 ≤ 2147483647 := zr_lt_r 5 c24_ b23_ (show 4 ≤ Int32.toInt 4 ∧ Int32.toInt 4 ≤ 4 from (by decide)) (by decide)
          show PW 89 d (17, [some (pvR 124), some (pvI n1), some (pvI n2), some (pvI n3), none], [pvI 0], M) _
          refine pw_if hT (c := 0 = 0) rfl rfl (fun c26_ => ?_) (fun c26_ => absurd (by decide) c26_)
          refine pw_blk hT 1 (S' := (32, [some (pvR 124), some (pvI n1), some (pvI n2), some (pvI n3), none], [pvI (-2)], M)) rfl ⟨trivial, trivial⟩ ?_
          exact pw_ret hT rfl (r := some (pvI (-2))) (M' := M) ⟨rfl, rfl⟩ ⟨⟨_, rfl, (zr_wide (show (-2) ≤ Int32.toInt (-2) ∧ Int32.toInt (-2) ≤ (-2) from (by decide)) (by decide) (by decide)), (by rw [if_neg c6_, if_neg c10_, if_neg c20_, if_pos c24_]; first | done | (rw [if_pos c24_]; done))⟩, hok, pvfr_0⟩
        · refine pw_eqI (if_neg c24_) ?_
          have b27_ : (-1) ≤ Int32.toInt n2 ∧ Int32.toInt n2 ≤ 4 := zr_nlt_r 4 c24_ b23_ (show 4 ≤ Int32.toInt 4 ∧ Int32.toInt 4 ≤ 4 from (by decide)) (by decide)
          show PW 89 d (17, [some (pvR 124), some (pvI n1), some (pvI n2), some (pvI n3), none], [pvI 1], M) _
          refine pw_if hT (c := 1 = 0) rfl rfl (fun c28_ => absurd c28_ (by decide)) (fun c28_ => ?_)
          refine pw_blk hT 1 (S' := (21, [some (pvR 124), some (pvI n1), some (pvI n2), some (pvI n3), none], [pvI n2], M)) rfl ⟨trivial, trivial⟩ ?_
          refine pw_if hT (c := n2 < 0) rfl rfl (fun c29_ => ?_) (fun c29_ => ?_)
          · have b30_ : (-1) ≤ Int32.toInt n2 ∧ Int32.toInt n2 ≤ (-1) := zr_lt_l (-1) c29_ b27_ (show 0 ≤ Int32.toInt 0 ∧ Int32.toInt 0 ≤ 0 from (by decide)) (by decide)
            refine pw_blk hT 1 (S' := (34, [some (pvR 124), some (pvI n1), some (pvI n2), some (pvI n3), none], [pvI n2], M)) rfl ⟨trivial, trivial⟩ ?_
            refine pw_if hT (c := n2 < 0) rfl rfl (fun c31_ => ?_) (fun c31_ => absurd c29_ c31_)
            refine pw_blkw hT 5 (pc := 51) (lo := [some (pvR 124), some (pvI n1), some (pvI n2), some (pvI n3), none]) (st := []) (M := pvu M 164 (Int32.toNatClampNeg n1) n2) rfl ⟨trivial, rfl, trivial, trivial, ⟨rfl, (zr_in (n := 6) b13_ (by decide) (by decide))⟩, trivial⟩ (fun M32_ e33_ => ?_)
            have o34_ : pvOk M32_ := pvok_u2 e33_ hok rfl (zr_wide b30_ (by decide) (by decide))
            have f35_ : pvFr fp_eX10_tape_124_x_x_x M M32_ := pvfr_u e33_ pvfr_0 rfl
            refine pw_blk hT 4 (S' := (57, [some (pvR 124), some (pvI n1), some (pvI n2), some (pvI n3), none], [pvI n2, pvI n1, pvR 165], M32_)) rfl ⟨trivial, rfl, trivial, trivial, trivial⟩ ?_
            refine pw_if hT (c := 0 ≤ n2) rfl rfl (fun c36_ => absurd c36_ (by have z0 := (show 0 ≤ Int32.toInt 0 ∧ Int32.toInt 0 ≤ 0 from (by decide)); have z1 := b30_; rw [zi_le]; omega)) (fun c36_ => ?_)
            refine pw_blkw hT 3 (pc := 66) (lo := [some (pvR 124), some (pvI n1), some (pvI n2), some (pvI n3), none]) (st := []) (M := pvu M32_ 165 (Int32.toNatClampNeg n1) 0) rfl ⟨trivial, trivial, ⟨rfl, (zr_in (n := 6) b13_ (by decide) (by decide))⟩, trivial⟩ (fun M37_ e38_ => ?_)
            have o39_ : pvOk M37_ := pvok_u2 e38_ o34_ rfl (zr_wide (show 0 ≤ Int32.toInt 0 ∧ Int32.toInt 0 ≤ 0 from (by decide)) (by decide) (by decide))
            have f40_ : pvFr fp_eX10_tape_124_x_x_x M M37_ := pvfr_u e38_ f35_ rfl
            refine pw_blk hT 2 (S' := (69, [some (pvR 124), some (pvI n1), some (pvI n2), some (pvI n3), some (pvI 0)], [], M37_)) rfl ⟨trivial, trivial, trivial⟩ ?_
            have hlz95_ : ∀ (nz95_ : Nat) (i4z95_ : Int32) (Mz95_ : pvM), (pvOk Mz95_) → (pvFr fp_eX10_tape_124_x_x_x M Mz95_) → (0 ≤ Int32.toInt i4z95_ ∧ Int32.toInt i4z95_ ≤ 60) → (zhide ((61 - Int32.toInt i4z95_).toNat < nz95_)) → PW 89 d (69, [some (pvR 124), some (pvI n1), some (pvI n2), some (pvI n3), some (pvI i4z95_)], [], Mz95_) (fun r X => (∃ x : Int32, r = some (pvI x) ∧ ((-14) ≤ Int32.toInt x ∧ Int32.toInt x ≤ 1) ∧ x = (if n1 < 0 then (-1) else (if 5 < n1 then (-1) else (if n2 < (-1) then (-2) else (if 4 < n2 then (-2) else (if n2 < 0 then 1 else (if n3 ≤ 60 then (if 0 ≤ n3 then 1 else (-14)) else (-2)))))))) ∧ pvOk X ∧ pvFr fp_eX10_tape_124_x_x_x M X) := by
              intro nz95_
              induction nz95_ with
              | zero => intro i4z95_ Mz95_ oz95_ fz95_ h4z95_ hmz95_; exact absurd (zshow hmz95_) (Nat.not_lt_zero _)
              | succ nz95_ ihz95_ =>
                intro i4z95_ Mz95_ oz95_ fz95_ h4z95_ hmz95_
                refine pw_blk hT 2 (S' := (73, [some (pvR 124), some (pvI n1), some (pvI n2), some (pvI n3), some (pvI i4z95_)], [pvI 60, pvI i4z95_], Mz95_)) rfl ⟨trivial, trivial, trivial⟩ ?_
                refine pw_ic hT (c := 60 ≤ i4z95_) rfl rfl (fun c96_ => ?_) (fun c96_ => ?_)
                · have b97_ : 60 ≤ Int32.toInt i4z95_ ∧ Int32.toInt i4z95_ ≤ 60 := zr_le_r 60 c96_ h4z95_ (show 60 ≤ Int32.toInt 60 ∧ Int32.toInt 60 ≤ 60 from (by decide)) (by decide)
                  refine pw_blk hT 1 (S' := (96, [some (pvR 124), some (pvI n1), some (pvI n2), some (pvI n3), some (pvI i4z95_)], [pvI 1], Mz95_)) rfl ⟨trivial, trivial⟩ ?_
                  exact pw_ret hT rfl (r := some (pvI 1)) (M' := Mz95_) ⟨rfl, rfl⟩ ⟨⟨_, rfl, (zr_wide (show 1 ≤ Int32.toInt 1 ∧ Int32.toInt 1 ≤ 1 from (by decide)) (by decide) (by decide)), (by rw [if_neg c6_, if_neg c10_, if_neg c20_, if_neg c24_, if_pos c29_]; first | done | (rw [if_pos c29_]; done))⟩, oz95_, fz95_⟩
                · have b98_ : 0 ≤ Int32.toInt i4z95_ ∧ Int32.toInt i4z95_ ≤ 59 := zr_nle_r 59 c96_ h4z95_ (show 60 ≤ Int32.toInt 60 ∧ Int32.toInt 60 ≤ 60 from (by decide)) (by decide)
                  have q99_ : Int32.toInt (60 * n1) = 60 * Int32.toInt n1 := by have u0 : Int32.toInt 60 = 60 := (by decide); have u1 := b13_; have u2 := zmul 60 n1 (by rw [u0]; omega) (by rw [u0]; omega); rw [u0] at u2; omega
                  have b100_ : 0 ≤ Int32.toInt (60 * n1) ∧ Int32.toInt (60 * n1) ≤ 300 := (by have u1 := b13_; omega)
                  obtain ⟨q102_, b101_⟩ : (Int32.toInt ((60 * n1) + i4z95_) = Int32.toInt (60 * n1) + Int32.toInt i4z95_) ∧ (0 ≤ Int32.toInt ((60 * n1) + i4z95_) ∧ Int32.toInt ((60 * n1) + i4z95_) ≤ 359) := zadd_r (60 * n1) i4z95_ 0 359 b100_ b98_ (by decide) (by decide) (by decide) (by decide)
                  refine pw_blkw hT 9 (pc := 89) (lo := [some (pvR 124), some (pvI n1), some (pvI n2), some (pvI n3), some (pvI i4z95_)]) (st := []) (M := pvw Mz95_ 166 (Int32.toNatClampNeg ((60 * n1) + i4z95_)) 0) rfl ⟨trivial, rfl, trivial, trivial, trivial, trivial, trivial, trivial, ⟨rfl, (zr_in (n := 360) b101_ (by decide) (by decide))⟩, trivial⟩ (fun M103_ e104_ => ?_)
                  have o105_ : pvOk M103_ := pvok_w e104_ oz95_
                  have f106_ : pvFr fp_eX10_tape_124_x_x_x M M103_ := pvfr_w e104_ fz95_
                  obtain ⟨q108_, b107_⟩ : (Int32.toInt (i4z95_ + 1) = Int32.toInt i4z95_ + 1) ∧ (1 ≤ Int32.toInt (i4z95_ + 1) ∧ Int32.toInt (i4z95_ + 1) ≤ 60) := zadd_k i4z95_ 1 1 1 60 b98_ (by decide) (by decide) (by decide) (by decide) (by decide)
                  refine pw_blk hT 2 (S' := (69, [some (pvR 124), some (pvI n1), some (pvI n2), some (pvI n3), some (pvI (i4z95_ + 1))], [], M103_)) rfl ⟨trivial, trivial, trivial⟩ ?_
                  exact ihz95_ (i4z95_ + 1) M103_ o105_ f106_ (zr_wide b107_ (by decide) (by decide)) (zhid (pvms_up (zshow hmz95_) h4z95_ q108_ (by decide) (by decide)))
            exact hlz95_ _ 0 M37_ o39_ f40_ (zr_wide (show 0 ≤ Int32.toInt 0 ∧ Int32.toInt 0 ≤ 0 from (by decide)) (by decide) (by decide)) (zhid (Nat.lt_succ_self _))
          · have b109_ : 0 ≤ Int32.toInt n2 ∧ Int32.toInt n2 ≤ 4 := zr_nlt_l 0 c29_ b27_ (show 0 ≤ Int32.toInt 0 ∧ Int32.toInt 0 ≤ 0 from (by decide)) (by decide)
            refine pw_blk hT 2 (S' := (27, [some (pvR 124), some (pvI n1), some (pvI n2), some (pvI n3), none], [pvI 60, pvI n3], M)) rfl ⟨trivial, trivial, trivial⟩ ?_
            refine pw_ic hT (c := n3 ≤ 60) rfl rfl (fun c110_ => ?_) (fun c110_ => ?_)
            · have b111_ : (-2147483648) ≤ Int32.toInt n3 ∧ Int32.toInt n3 ≤ 60 := zr_le_l 60 c110_ (zbnd n3) (show 60 ≤ Int32.toInt 60 ∧ Int32.toInt 60 ≤ 60 from (by decide)) (by decide)
              refine pw_blk hT 1 (S' := (34, [some (pvR 124), some (pvI n1), some (pvI n2), some (pvI n3), none], [pvI n2], M)) rfl ⟨trivial, trivial⟩ ?_
              refine pw_if hT (c := n2 < 0) rfl rfl (fun c112_ => absurd c112_ c29_) (fun c112_ => ?_)
              refine pw_blk hT 1 (S' := (38, [some (pvR 124), some (pvI n1), some (pvI n2), some (pvI n3), none], [pvI n3], M)) rfl ⟨trivial, trivial⟩ ?_
              refine pw_if hT (c := 0 ≤ n3) rfl rfl (fun c113_ => ?_) (fun c113_ => ?_)
              · have b114_ : 0 ≤ Int32.toInt n3 ∧ Int32.toInt n3 ≤ 60 := zr_le_r 0 c113_ b111_ (show 0 ≤ Int32.toInt 0 ∧ Int32.toInt 0 ≤ 0 from (by decide)) (by decide)
                refine pw_blkw hT 5 (pc := 51) (lo := [some (pvR 124), some (pvI n1), some (pvI n2), some (pvI n3), none]) (st := []) (M := pvu M 164 (Int32.toNatClampNeg n1) n2) rfl ⟨trivial, rfl, trivial, trivial, ⟨rfl, (zr_in (n := 6) b13_ (by decide) (by decide))⟩, trivial⟩ (fun M115_ e116_ => ?_)
                have o117_ : pvOk M115_ := pvok_u2 e116_ hok rfl (zr_wide b109_ (by decide) (by decide))
                have f118_ : pvFr fp_eX10_tape_124_x_x_x M M115_ := pvfr_u e116_ pvfr_0 rfl
                refine pw_blk hT 4 (S' := (57, [some (pvR 124), some (pvI n1), some (pvI n2), some (pvI n3), none], [pvI n2, pvI n1, pvR 165], M115_)) rfl ⟨trivial, rfl, trivial, trivial, trivial⟩ ?_
                refine pw_if hT (c := 0 ≤ n2) rfl rfl (fun c119_ => ?_) (fun c119_ => absurd (by have z0 := (show 0 ≤ Int32.toInt 0 ∧ Int32.toInt 0 ≤ 0 from (by decide)); have z1 := b109_; rw [zi_le]; omega) c119_)
                refine pw_blkw hT 2 (pc := 66) (lo := [some (pvR 124), some (pvI n1), some (pvI n2), some (pvI n3), none]) (st := []) (M := pvu M115_ 165 (Int32.toNatClampNeg n1) n3) rfl ⟨trivial, ⟨rfl, (zr_in (n := 6) b13_ (by decide) (by decide))⟩, trivial⟩ (fun M120_ e121_ => ?_)
                have o122_ : pvOk M120_ := pvok_u2 e121_ o117_ rfl b114_
                have f123_ : pvFr fp_eX10_tape_124_x_x_x M M120_ := pvfr_u e121_ f118_ rfl
                refine pw_blk hT 2 (S' := (69, [some (pvR 124), some (pvI n1), some (pvI n2), some (pvI n3), some (pvI 0)], [], M120_)) rfl ⟨trivial, trivial, trivial⟩ ?_
                have hlz178_ : ∀ (nz178_ : Nat) (i4z178_ : Int32) (Mz178_ : pvM), (pvOk Mz178_) → (pvFr fp_eX10_tape_124_x_x_x M Mz178_) → (0 ≤ Int32.toInt i4z178_ ∧ Int32.toInt i4z178_ ≤ 60) → (zhide ((61 - Int32.toInt i4z178_).toNat < nz178_)) → PW 89 d (69, [some (pvR 124), some (pvI n1), some (pvI n2), some (pvI n3), some (pvI i4z178_)], [], Mz178_) (fun r X => (∃ x : Int32, r = some (pvI x) ∧ ((-14) ≤ Int32.toInt x ∧ Int32.toInt x ≤ 1) ∧ x = (if n1 < 0 then (-1) else (if 5 < n1 then (-1) else (if n2 < (-1) then (-2) else (if 4 < n2 then (-2) else (if n2 < 0 then 1 else (if n3 ≤ 60 then (if 0 ≤ n3 then 1 else (-14)) else (-2)))))))) ∧ pvOk X ∧ pvFr fp_eX10_tape_124_x_x_x M X) := by
                  intro nz178_
                  induction nz178_ with
                  | zero => intro i4z178_ Mz178_ oz178_ fz178_ h4z178_ hmz178_; exact absurd (zshow hmz178_) (Nat.not_lt_zero _)
                  | succ nz178_ ihz178_ =>
                    intro i4z178_ Mz178_ oz178_ fz178_ h4z178_ hmz178_
                    refine pw_blk hT 2 (S' := (73, [some (pvR 124), some (pvI n1), some (pvI n2), some (pvI n3), some (pvI i4z178_)], [pvI 60, pvI i4z178_], Mz178_)) rfl ⟨trivial, trivial, trivial⟩ ?_
                    refine pw_ic hT (c := 60 ≤ i4z178_) rfl rfl (fun c179_ => ?_) (fun c179_ => ?_)
                    · have b180_ : 60 ≤ Int32.toInt i4z178_ ∧ Int32.toInt i4z178_ ≤ 60 := zr_le_r 60 c179_ h4z178_ (show 60 ≤ Int32.toInt 60 ∧ Int32.toInt 60 ≤ 60 from (by decide)) (by decide)
                      refine pw_blk hT 1 (S' := (96, [some (pvR 124), some (pvI n1), some (pvI n2), some (pvI n3), some (pvI i4z178_)], [pvI 1], Mz178_)) rfl ⟨trivial, trivial⟩ ?_
                      exact pw_ret hT rfl (r := some (pvI 1)) (M' := Mz178_) ⟨rfl, rfl⟩ ⟨⟨_, rfl, (zr_wide (show 1 ≤ Int32.toInt 1 ∧ Int32.toInt 1 ≤ 1 from (by decide)) (by decide) (by decide)), (by rw [if_neg c6_, if_neg c10_, if_neg c20_, if_neg c24_, if_neg c29_, if_pos c110_, if_pos c113_]; first | done | (rw [if_pos c113_]; done))⟩, oz178_, fz178_⟩
                    · have b181_ : 0 ≤ Int32.toInt i4z178_ ∧ Int32.toInt i4z178_ ≤ 59 := zr_nle_r 59 c179_ h4z178_ (show 60 ≤ Int32.toInt 60 ∧ Int32.toInt 60 ≤ 60 from (by decide)) (by decide)
                      have q182_ : Int32.toInt (60 * n1) = 60 * Int32.toInt n1 := by have u0 : Int32.toInt 60 = 60 := (by decide); have u1 := b13_; have u2 := zmul 60 n1 (by rw [u0]; omega) (by rw [u0]; omega); rw [u0] at u2; omega
                      have b183_ : 0 ≤ Int32.toInt (60 * n1) ∧ Int32.toInt (60 * n1) ≤ 300 := (by have u1 := b13_; omega)
                      obtain ⟨q185_, b184_⟩ : (Int32.toInt ((60 * n1) + i4z178_) = Int32.toInt (60 * n1) + Int32.toInt i4z178_) ∧ (0 ≤ Int32.toInt ((60 * n1) + i4z178_) ∧ Int32.toInt ((60 * n1) + i4z178_) ≤ 359) := zadd_r (60 * n1) i4z178_ 0 359 b183_ b181_ (by decide) (by decide) (by decide) (by decide)
                      refine pw_blkw hT 9 (pc := 89) (lo := [some (pvR 124), some (pvI n1), some (pvI n2), some (pvI n3), some (pvI i4z178_)]) (st := []) (M := pvw Mz178_ 166 (Int32.toNatClampNeg ((60 * n1) + i4z178_)) 0) rfl ⟨trivial, rfl, trivial, trivial, trivial, trivial, trivial, trivial, ⟨rfl, (zr_in (n := 360) b184_ (by decide) (by decide))⟩, trivial⟩ (fun M186_ e187_ => ?_)
                      have o188_ : pvOk M186_ := pvok_w e187_ oz178_
                      have f189_ : pvFr fp_eX10_tape_124_x_x_x M M186_ := pvfr_w e187_ fz178_
                      obtain ⟨q191_, b190_⟩ : (Int32.toInt (i4z178_ + 1) = Int32.toInt i4z178_ + 1) ∧ (1 ≤ Int32.toInt (i4z178_ + 1) ∧ Int32.toInt (i4z178_ + 1) ≤ 60) := zadd_k i4z178_ 1 1 1 60 b181_ (by decide) (by decide) (by decide) (by decide) (by decide)
                      refine pw_blk hT 2 (S' := (69, [some (pvR 124), some (pvI n1), some (pvI n2), some (pvI n3), some (pvI (i4z178_ + 1))], [], M186_)) rfl ⟨trivial, trivial, trivial⟩ ?_
                      exact ihz178_ (i4z178_ + 1) M186_ o188_ f189_ (zr_wide b190_ (by decide) (by decide)) (zhid (pvms_up (zshow hmz178_) h4z178_ q191_ (by decide) (by decide)))
                exact hlz178_ _ 0 M120_ o122_ f123_ (zr_wide (show 0 ≤ Int32.toInt 0 ∧ Int32.toInt 0 ≤ 0 from (by decide)) (by decide) (by decide)) (zhid (Nat.lt_succ_self _))
              · have b192_ : (-2147483648) ≤ Int32.toInt n3 ∧ Int32.toInt n3 ≤ (-1) := zr_nle_r (-1) c113_ b111_ (show 0 ≤ Int32.toInt 0 ∧ Int32.toInt 0 ≤ 0 from (by decide)) (by decide)
                refine pw_blk hT 1 (S' := (43, [some (pvR 124), some (pvI n1), some (pvI n2), some (pvI n3), none], [pvI (-14)], M)) rfl ⟨trivial, trivial⟩ ?_
                exact pw_ret hT rfl (r := some (pvI (-14))) (M' := M) ⟨rfl, rfl⟩ ⟨⟨_, rfl, (zr_wide (show (-14) ≤ Int32.toInt (-14) ∧ Int32.toInt (-14) ≤ (-14) from (by decide)) (by decide) (by decide)), (by rw [if_neg c6_, if_neg c10_, if_neg c20_, if_neg c24_, if_neg c29_, if_pos c110_, if_neg c113_]; first | done | (rw [if_neg c113_]; done))⟩, hok, pvfr_0⟩
            · have b193_ : 61 ≤ Int32.toInt n3 ∧ Int32.toInt n3 ≤ 2147483647 := zr_nle_l 61 c110_ (zbnd n3) (show 60 ≤ Int32.toInt 60 ∧ Int32.toInt 60 ≤ 60 from (by decide)) (by decide)
              refine pw_blk hT 1 (S' := (32, [some (pvR 124), some (pvI n1), some (pvI n2), some (pvI n3), none], [pvI (-2)], M)) rfl ⟨trivial, trivial⟩ ?_
              exact pw_ret hT rfl (r := some (pvI (-2))) (M' := M) ⟨rfl, rfl⟩ ⟨⟨_, rfl, (zr_wide (show (-2) ≤ Int32.toInt (-2) ∧ Int32.toInt (-2) ≤ (-2) from (by decide)) (by decide) (by decide)), (by rw [if_neg c6_, if_neg c10_, if_neg c20_, if_neg c24_, if_neg c29_, if_neg c110_]; first | done | (rw [if_neg c110_]; done))⟩, hok, pvfr_0⟩
set_option maxHeartbeats 4000000 in
set_option maxRecDepth 10000 in
theorem se_X10_trace_124_x (M : pvM) (hok : pvOk M) (n1 : Int32) (d : Nat) : PW 92 d (0, [some (pvR 124), some (pvI n1)], [], M) (fun r X => r = some (pvI ((if n1 < 0 then (-1) else (if 19 < n1 then (-1) else (if (M.1 124 70) ≤ n1 then (-1) else (M.1 163 (Int32.toNatClampNeg n1))))))) ∧ X = M) := by
  have hT : pvdom 92 = pvD_92 := rfl
  refine pw_blk hT 4 (S' := (5, [some (pvR 124), some (pvI n1)], [pvI 19, pvI 0, pvI n1, pvR 124], M)) rfl ⟨trivial, trivial, trivial, trivial, trivial⟩ ?_
  refine pw_callT hT (as := [pvR 124, pvI n1, pvI 0, pvI 19]) (lo1 := [some (pvR 124), some (pvI n1), some (pvI 0), some (pvI 19)]) (d1 := d) (rest := []) rfl rfl rfl rfl rfl (fun _ => rfl) (Nat.zero_le _) rfl rfl rfl (sf_X10_in_124_x_x_x M hok n1 0 19 d) ?_
  by_cases c6_ : n1 < 0
  · refine pw_eqI (if_pos c6_) ?_
    have b7_ : (-2147483648) ≤ Int32.toInt n1 ∧ Int32.toInt n1 ≤ (-1) := zr_lt_l (-1) c6_ (zbnd n1) (show 0 ≤ Int32.toInt 0 ∧ Int32.toInt 0 ≤ 0 from (by decide)) (by decide)
    show PW 92 d (8, [some (pvR 124), some (pvI n1)], [pvI 0], M) _
    refine pw_if hT (c := 0 = 0) rfl rfl (fun c8_ => ?_) (fun c8_ => absurd (by decide) c8_)
    refine pw_blk hT 1 (S' := (29, [some (pvR 124), some (pvI n1)], [pvI (-1)], M)) rfl ⟨trivial, trivial⟩ ?_
    exact pw_ret hT rfl (r := some (pvI (-1))) (M' := M) ⟨rfl, rfl⟩ ⟨(by rw [if_pos c6_]; first | done | (rw [if_pos c6_]; done)), rfl⟩
  · refine pw_eqI (if_neg c6_) ?_
    have b9_ : 0 ≤ Int32.toInt n1 ∧ Int32.toInt n1 ≤ 2147483647 := zr_nlt_l 0 c6_ (zbnd n1) (show 0 ≤ Int32.toInt 0 ∧ Int32.toInt 0 ≤ 0 from (by decide)) (by decide)
    by_cases c10_ : 19 < n1
    · refine pw_eqI (if_pos c10_) ?_
      have b11_ : 20 ≤ Int32.toInt n1 ∧ Int32.toInt n1 ≤ 2147483647 := zr_lt_r 20 c10_ b9_ (show 19 ≤ Int32.toInt 19 ∧ Int32.toInt 19 ≤ 19 from (by decide)) (by decide)
      show PW 92 d (8, [some (pvR 124), some (pvI n1)], [pvI 0], M) _
      refine pw_if hT (c := 0 = 0) rfl rfl (fun c12_ => ?_) (fun c12_ => absurd (by decide) c12_)
      refine pw_blk hT 1 (S' := (29, [some (pvR 124), some (pvI n1)], [pvI (-1)], M)) rfl ⟨trivial, trivial⟩ ?_
      exact pw_ret hT rfl (r := some (pvI (-1))) (M' := M) ⟨rfl, rfl⟩ ⟨(by rw [if_neg c6_, if_pos c10_]; first | done | (rw [if_pos c10_]; done)), rfl⟩
    · refine pw_eqI (if_neg c10_) ?_
      have b13_ : 0 ≤ Int32.toInt n1 ∧ Int32.toInt n1 ≤ 19 := zr_nlt_r 19 c10_ b9_ (show 19 ≤ Int32.toInt 19 ∧ Int32.toInt 19 ≤ 19 from (by decide)) (by decide)
      show PW 92 d (8, [some (pvR 124), some (pvI n1)], [pvI 1], M) _
      refine pw_if hT (c := 1 = 0) rfl rfl (fun c14_ => absurd c14_ (by decide)) (fun c14_ => ?_)
      have b15_ : 0 ≤ Int32.toInt (M.1 124 70) ∧ Int32.toInt (M.1 124 70) ≤ 1000000 := pvok_r hok 124 70 rfl
      refine pw_blk hT 3 (S' := (16, [some (pvR 124), some (pvI n1)], [pvI (M.1 124 70), pvI n1], M)) rfl ⟨trivial, trivial, rfl, trivial⟩ ?_
      refine pw_ic hT (c := (M.1 124 70) ≤ n1) rfl rfl (fun c16_ => ?_) (fun c16_ => ?_)
      · have b17_ : 0 ≤ Int32.toInt (M.1 124 70) ∧ Int32.toInt (M.1 124 70) ≤ 19 := zr_le_l 19 c16_ b15_ b13_ (by decide)
        have d18_ : Int32.toInt (M.1 124 70) ≤ Int32.toInt n1 := (zi_le _ _).mp c16_
        refine pw_blk hT 1 (S' := (29, [some (pvR 124), some (pvI n1)], [pvI (-1)], M)) rfl ⟨trivial, trivial⟩ ?_
        exact pw_ret hT rfl (r := some (pvI (-1))) (M' := M) ⟨rfl, rfl⟩ ⟨(by rw [if_neg c6_, if_neg c10_, if_pos c16_]; first | done | (rw [if_pos c16_]; done)), rfl⟩
      · have b19_ : 1 ≤ Int32.toInt (M.1 124 70) ∧ Int32.toInt (M.1 124 70) ≤ 1000000 := zr_nle_l 1 c16_ b15_ b13_ (by decide)
        have d20_ : Int32.toInt (M.1 124 70) > Int32.toInt n1 := Int.not_le.mp ((not_congr (zi_le _ _)).mp c16_)
        refine pw_blk hT 5 (S' := (29, [some (pvR 124), some (pvI n1)], [pvI (M.1 163 (Int32.toNatClampNeg n1))], M)) rfl ⟨trivial, rfl, trivial, ⟨rfl, (zr_in (n := 20) b13_ (by decide) (by decide))⟩, trivial, trivial⟩ ?_
        exact pw_ret hT rfl (r := some (pvI (M.1 163 (Int32.toNatClampNeg n1)))) (M' := M) ⟨rfl, rfl⟩ ⟨(by rw [if_neg c6_, if_neg c10_, if_neg c16_]; first | done | (rw [if_neg c16_]; done)), rfl⟩
def fpL_eX10_two_124_x : List (Nat × Nat × Nat) := [(0, 124, 33), (0, 124, 36), (0, 141, 0), (0, 142, 0), (0, 143, 0), (0, 144, 0)]
def fp_eX10_two_124_x (q k : Nat) : Bool := pvfp fpL_eX10_two_124_x q k
theorem fp_eX10_two_124_x_fp_eX10_goes_124_x_x_x (a b : Nat) (h : fp_eX10_goes_124_x_x_x a b = true) : fp_eX10_two_124_x a b = true := pvfp_sub (l1 := fpL_eX10_goes_124_x_x_x) (l2 := fpL_eX10_two_124_x) (by decide) a b h
theorem fp_eX10_two_124_x_fp_eX10_layOpen_124 (a b : Nat) (h : fp_eX10_layOpen_124 a b = true) : fp_eX10_two_124_x a b = true := pvfp_sub (l1 := fpL_eX10_layOpen_124) (l2 := fpL_eX10_two_124_x) (by decide) a b h
theorem fp_eX10_two_124_x_fp_eX10_layRain_124 (a b : Nat) (h : fp_eX10_layRain_124 a b = true) : fp_eX10_two_124_x a b = true := pvfp_sub (l1 := fpL_eX10_layRain_124) (l2 := fpL_eX10_two_124_x) (by decide) a b h
theorem fp_eX10_two_124_x_fp_eX10_layRound_124 (a b : Nat) (h : fp_eX10_layRound_124 a b = true) : fp_eX10_two_124_x a b = true := pvfp_sub (l1 := fpL_eX10_layRound_124) (l2 := fpL_eX10_two_124_x) (by decide) a b h
set_option maxHeartbeats 4000000 in
set_option maxRecDepth 10000 in
theorem se_X10_two_124_x (M : pvM) (hok : pvOk M) (n1 : Int32) (hz : pvWF M) (d : Nat) : PW 93 d (0, [some (pvR 124), some (pvI n1), none, none, none], [], M) (fun r X => (∃ x : Int32, r = some (pvI x) ∧ (-1) ≤ Int32.toInt x ∧ Int32.toInt x ≤ 9000000) ∧ pvOk X ∧ pvFr fp_eX10_two_124_x M X ∧ yA0 (yGtw n1) r M) := by
  have hT : pvdom 93 = pvD_93 := rfl
  refine pw_blk hT 4 (S' := (4, [some (pvR 124), some (pvI n1), none, none, none], [pvI 1, pvI 0, pvI n1, pvR 124], M)) rfl ⟨trivial, trivial, trivial, trivial, trivial⟩ ?_
  refine pw_callT hT (as := [pvR 124, pvI n1, pvI 0, pvI 1]) (lo1 := [some (pvR 124), some (pvI n1), some (pvI 0), some (pvI 1)]) (d1 := d) (rest := []) rfl rfl rfl rfl rfl (fun _ => rfl) (Nat.zero_le _) rfl rfl rfl (sf_X10_in_124_x_x_x M hok n1 0 1 d) ?_
  by_cases c6_ : n1 < 0
  · refine pw_eqI (if_pos c6_) ?_
    have b7_ : (-2147483648) ≤ Int32.toInt n1 ∧ Int32.toInt n1 ≤ (-1) := zr_lt_l (-1) c6_ (zbnd n1) (show 0 ≤ Int32.toInt 0 ∧ Int32.toInt 0 ≤ 0 from (by decide)) (by decide)
    show PW 93 d (7, [some (pvR 124), some (pvI n1), none, none, none], [pvI 0], M) _
    refine pw_ifn hT (c := 0 = 0) rfl rfl (fun c8_ => absurd (by decide) c8_) (fun c8_ => ?_)
    refine pw_blk hT 1 (S' := (11, [some (pvR 124), some (pvI n1), none, none, none], [pvI (-1)], M)) rfl ⟨trivial, trivial⟩ ?_
    exact pw_ret hT rfl (r := some (pvI (-1))) (M' := M) ⟨rfl, rfl⟩ ⟨⟨_, rfl, (zr_wide (show (-1) ≤ Int32.toInt (-1) ∧ Int32.toInt (-1) ≤ (-1) from (by decide)) (by decide) (by decide))⟩, hok, pvfr_0, (yGtw0_n (by have u := b7_; omega) (by decide))⟩
  · refine pw_eqI (if_neg c6_) ?_
    have b9_ : 0 ≤ Int32.toInt n1 ∧ Int32.toInt n1 ≤ 2147483647 := zr_nlt_l 0 c6_ (zbnd n1) (show 0 ≤ Int32.toInt 0 ∧ Int32.toInt 0 ≤ 0 from (by decide)) (by decide)
    by_cases c10_ : 1 < n1
    · refine pw_eqI (if_pos c10_) ?_
      have b11_ : 2 ≤ Int32.toInt n1 ∧ Int32.toInt n1 ≤ 2147483647 := zr_lt_r 2 c10_ b9_ (show 1 ≤ Int32.toInt 1 ∧ Int32.toInt 1 ≤ 1 from (by decide)) (by decide)
      show PW 93 d (7, [some (pvR 124), some (pvI n1), none, none, none], [pvI 0], M) _
      refine pw_ifn hT (c := 0 = 0) rfl rfl (fun c12_ => absurd (by decide) c12_) (fun c12_ => ?_)
      refine pw_blk hT 1 (S' := (11, [some (pvR 124), some (pvI n1), none, none, none], [pvI (-1)], M)) rfl ⟨trivial, trivial⟩ ?_
      exact pw_ret hT rfl (r := some (pvI (-1))) (M' := M) ⟨rfl, rfl⟩ ⟨⟨_, rfl, (zr_wide (show (-1) ≤ Int32.toInt (-1) ∧ Int32.toInt (-1) ≤ (-1) from (by decide)) (by decide) (by decide))⟩, hok, pvfr_0, (yGtw0_n (by have u := b11_; omega) (by decide))⟩
    · refine pw_eqI (if_neg c10_) ?_
      have b13_ : 0 ≤ Int32.toInt n1 ∧ Int32.toInt n1 ≤ 1 := zr_nlt_r 1 c10_ b9_ (show 1 ≤ Int32.toInt 1 ∧ Int32.toInt 1 ≤ 1 from (by decide)) (by decide)
      show PW 93 d (7, [some (pvR 124), some (pvI n1), none, none, none], [pvI 1], M) _
      refine pw_ifn hT (c := 1 = 0) rfl rfl (fun c14_ => ?_) (fun c14_ => absurd c14_ (by decide))
      refine pw_blk hT 1 (S' := (13, [some (pvR 124), some (pvI n1), none, none, none], [pvR 124], M)) rfl ⟨trivial, trivial⟩ ?_
      refine pw_callVd hT (as := [pvR 124]) (lo1 := [some (pvR 124), none, none]) (d1 := d) (rest := []) rfl rfl rfl rfl rfl (fun _ => rfl) (Nat.zero_le _) rfl rfl rfl (se_X10_layRain_124 M hok hz d) (fun M17_ o19_ g20_ d15_ => ?_)
      have f21_ : pvFr fp_eX10_two_124_x M M17_ := pvfr_t g20_ pvfr_0 fp_eX10_two_124_x_fp_eX10_layRain_124
      refine pw_blk hT 1 (S' := (17, [some (pvR 124), some (pvI n1), none, none, none], [pvR 124], M17_)) rfl ⟨trivial, trivial⟩ ?_
      refine pw_callVd hT (as := [pvR 124]) (lo1 := [some (pvR 124), none]) (d1 := d) (rest := []) rfl rfl rfl rfl rfl (fun _ => rfl) (Nat.zero_le _) rfl rfl rfl (se_X10_layRound_124 M17_ o19_ d) (fun M24_ o26_ g27_ d22_ => ?_)
      have f28_ : pvFr fp_eX10_two_124_x M M24_ := pvfr_t g27_ f21_ fp_eX10_two_124_x_fp_eX10_layRound_124
      refine pw_blk hT 1 (S' := (21, [some (pvR 124), some (pvI n1), none, none, none], [pvR 124], M24_)) rfl ⟨trivial, trivial⟩ ?_
      refine pw_callVd hT (as := [pvR 124]) (lo1 := [some (pvR 124), none]) (d1 := d) (rest := []) rfl rfl rfl rfl rfl (fun _ => rfl) (Nat.zero_le _) rfl rfl rfl (se_X10_layOpen_124 M24_ o26_ d) (fun M31_ o33_ g34_ d29_ => ?_)
      have f35_ : pvFr fp_eX10_two_124_x M M31_ := pvfr_t g34_ f28_ fp_eX10_two_124_x_fp_eX10_layOpen_124
      have b36_ : 0 ≤ Int32.toInt (M31_.1 124 37) ∧ Int32.toInt (M31_.1 124 37) ≤ 7 := pvok_r o33_ 124 37 rfl
      have q37_ : Int32.toInt ((M31_.1 124 37) / 2) = Int32.toInt (M31_.1 124 37) / 2 := by have u0 := b36_; have u := zdiv_p (M31_.1 124 37) 2 (by omega) (by decide) (by decide); have e0 : nI 2 = (2 : Int32) := rfl; rw [e0] at u; omega
      have b38_ : 0 ≤ Int32.toInt ((M31_.1 124 37) / 2) ∧ Int32.toInt ((M31_.1 124 37) / 2) ≤ 3 := (by have u0 := b36_; omega)
      obtain ⟨q40_, b39_⟩ : (Int32.toInt ((M31_.1 124 37) - ((M31_.1 124 37) / 2)) = Int32.toInt (M31_.1 124 37) - Int32.toInt ((M31_.1 124 37) / 2)) ∧ ((-3) ≤ Int32.toInt ((M31_.1 124 37) - ((M31_.1 124 37) / 2)) ∧ Int32.toInt ((M31_.1 124 37) - ((M31_.1 124 37) / 2)) ≤ 7) := zsub_r (M31_.1 124 37) ((M31_.1 124 37) / 2) (-3) 7 b36_ b38_ (by decide) (by decide) (by decide) (by decide)
      have b41_ : 0 ≤ Int32.toInt (M31_.1 124 1) ∧ Int32.toInt (M31_.1 124 1) ≤ 9999 := pvok_r o33_ 124 1 rfl
      refine pw_blk hT 13 (S' := (43, [some (pvR 124), some (pvI n1), some (pvI ((M31_.1 124 37) - ((M31_.1 124 37) / 2))), none, none], [pvI (M31_.1 124 1), pvI ((M31_.1 124 37) - ((M31_.1 124 37) / 2)), pvI 0, pvR 124], M31_)) rfl ⟨trivial, rfl, trivial, rfl, trivial, (by decide), trivial, trivial, trivial, trivial, trivial, trivial, rfl, trivial⟩ ?_
      refine pw_callGd hT (as := [pvR 124, pvI 0, pvI ((M31_.1 124 37) - ((M31_.1 124 37) / 2)), pvI (M31_.1 124 1)]) (lo1 := [some (pvR 124), some (pvI 0), some (pvI ((M31_.1 124 37) - ((M31_.1 124 37) / 2))), some (pvI (M31_.1 124 1)), none, none, none, none, none]) (d1 := d) (rest := []) rfl rfl rfl rfl rfl (fun _ => rfl) (Nat.zero_le _) rfl rfl rfl (se_X10_goes_124_x_x_x M31_ o33_ 0 ((M31_.1 124 37) - ((M31_.1 124 37) / 2)) (M31_.1 124 1) (zr_wide (show 0 ≤ Int32.toInt 0 ∧ Int32.toInt 0 ≤ 0 from (by decide)) (by decide) (by decide)) (by have u0 := b39_; omega) (zr_wide b41_ (by decide) (by decide)) d) (fun x43_ M44_ b45_ o46_ g47_ d42_ => ?_)
      have f48_ : pvFr fp_eX10_two_124_x M M44_ := pvfr_t g47_ f35_ fp_eX10_two_124_x_fp_eX10_goes_124_x_x_x
      have b49_ : 0 ≤ Int32.toInt (M44_.1 124 37) ∧ Int32.toInt (M44_.1 124 37) ≤ 7 := pvok_r o46_ 124 37 rfl
      have b50_ : 0 ≤ Int32.toInt (M44_.1 124 1) ∧ Int32.toInt (M44_.1 124 1) ≤ 9999 := pvok_r o46_ 124 1 rfl
      refine pw_blk hT 7 (S' := (57, [some (pvR 124), some (pvI n1), some (pvI ((M31_.1 124 37) - ((M31_.1 124 37) / 2))), some (pvI x43_), none], [pvI (M44_.1 124 1), pvI (M44_.1 124 37), pvI ((M31_.1 124 37) - ((M31_.1 124 37) / 2)), pvR 124], M44_)) rfl ⟨trivial, trivial, trivial, trivial, rfl, trivial, rfl, trivial⟩ ?_
      refine pw_callGd hT (as := [pvR 124, pvI ((M31_.1 124 37) - ((M31_.1 124 37) / 2)), pvI (M44_.1 124 37), pvI (M44_.1 124 1)]) (lo1 := [some (pvR 124), some (pvI ((M31_.1 124 37) - ((M31_.1 124 37) / 2))), some (pvI (M44_.1 124 37)), some (pvI (M44_.1 124 1)), none, none, none, none, none]) (d1 := d) (rest := []) rfl rfl rfl rfl rfl (fun _ => rfl) (Nat.zero_le _) rfl rfl rfl (se_X10_goes_124_x_x_x M44_ o46_ ((M31_.1 124 37) - ((M31_.1 124 37) / 2)) (M44_.1 124 37) (M44_.1 124 1) (by have u0 := b39_; omega) b49_ (zr_wide b50_ (by decide) (by decide)) d) (fun x52_ M53_ b54_ o55_ g56_ d51_ => ?_)
      have f57_ : pvFr fp_eX10_two_124_x M M53_ := pvfr_t g56_ f48_ fp_eX10_two_124_x_fp_eX10_goes_124_x_x_x
      refine pw_blk hT 2 (S' := (63, [some (pvR 124), some (pvI n1), some (pvI ((M31_.1 124 37) - ((M31_.1 124 37) / 2))), some (pvI x43_), some (pvI x52_)], [pvI n1], M53_)) rfl ⟨trivial, trivial, trivial⟩ ?_
      refine pw_ifn hT (c := n1 = 0) rfl rfl (fun c58_ => ?_) (fun c58_ => ?_)
      · have b59_ : 1 ≤ Int32.toInt n1 ∧ Int32.toInt n1 ≤ 1 := (by have u0 := b13_; have u1 := (not_congr (zi_eq _ _)).mp c58_; have u2 := (show 0 ≤ Int32.toInt 0 ∧ Int32.toInt 0 ≤ 0 from (by decide)); omega)
        refine pw_blk hT 2 (S' := (76, [some (pvR 124), some (pvI n1), some (pvI ((M31_.1 124 37) - ((M31_.1 124 37) / 2))), some (pvI x43_), some (pvI x52_)], [pvI x52_, pvI x43_], M53_)) rfl ⟨trivial, trivial, trivial⟩ ?_
        refine pw_ic hT (c := x43_ ≤ x52_) rfl rfl (fun c60_ => ?_) (fun c60_ => ?_)
        · have d61_ : Int32.toInt x43_ ≤ Int32.toInt x52_ := (zi_le _ _).mp c60_
          refine pw_blk hT 1 (S' := (85, [some (pvR 124), some (pvI n1), some (pvI ((M31_.1 124 37) - ((M31_.1 124 37) / 2))), some (pvI x43_), some (pvI x52_)], [pvI x52_], M53_)) rfl ⟨trivial, trivial⟩ ?_
          exact pw_ret hT rfl (r := some (pvI x52_)) (M' := M53_) ⟨rfl, rfl⟩ ⟨⟨_, rfl, (zr_wide b54_ (by decide) (by decide))⟩, o55_, f57_, (yGtw0_1 (yTw0 d15_ d22_ d29_ d42_ d51_ rfl rfl (by omega) rfl) (by have u := b59_; omega) (by have u := b59_; omega) (by omega))⟩
        · have b62_ : 1 ≤ Int32.toInt x43_ ∧ Int32.toInt x43_ ≤ 64000 := zr_nle_l 1 c60_ b45_ b54_ (by decide)
          have b63_ : 0 ≤ Int32.toInt x52_ ∧ Int32.toInt x52_ ≤ 63999 := zr_nle_r 63999 c60_ b54_ b62_ (by decide)
          have d64_ : Int32.toInt x43_ > Int32.toInt x52_ := Int.not_le.mp ((not_congr (zi_le _ _)).mp c60_)
          refine pw_blk hT 2 (S' := (85, [some (pvR 124), some (pvI n1), some (pvI ((M31_.1 124 37) - ((M31_.1 124 37) / 2))), some (pvI x43_), some (pvI x52_)], [pvI x43_], M53_)) rfl ⟨trivial, trivial, trivial⟩ ?_
          exact pw_ret hT rfl (r := some (pvI x43_)) (M' := M53_) ⟨rfl, rfl⟩ ⟨⟨_, rfl, (zr_wide b62_ (by decide) (by decide))⟩, o55_, f57_, (yGtw0_1 (yTw0 d15_ d22_ d29_ d42_ d51_ rfl rfl (by omega) rfl) (by have u := b59_; omega) (by have u := b59_; omega) (by omega))⟩
      · have b65_ : 0 ≤ Int32.toInt n1 ∧ Int32.toInt n1 ≤ 0 := (by have u0 := b13_; have u1 := (zi_eq _ _).mp c58_; have u2 := (show 0 ≤ Int32.toInt 0 ∧ Int32.toInt 0 ≤ 0 from (by decide)); omega)
        refine pw_blk hT 1 (S' := (67, [some (pvR 124), some (pvI n1), some (pvI ((M31_.1 124 37) - ((M31_.1 124 37) / 2))), some (pvI x43_), some (pvI x52_)], [pvR 124], M53_)) rfl ⟨trivial, trivial⟩ ?_
        refine pw_callGp hT (as := [pvR 124]) (lo1 := [some (pvR 124)]) (d1 := d) (rest := []) rfl rfl rfl rfl rfl (fun _ => rfl) (Nat.zero_le _) rfl rfl rfl (se_X10_harmTillEnd_124 M53_ o55_ d) (fun x66_ b68_ => ?_)
        obtain ⟨b71_, d72_⟩ := b68_
        refine pw_blk hT 1 (S' := (85, [some (pvR 124), some (pvI n1), some (pvI ((M31_.1 124 37) - ((M31_.1 124 37) / 2))), some (pvI x43_), some (pvI x52_)], [pvI x66_], M53_)) rfl ⟨trivial, trivial⟩ ?_
        exact pw_ret hT rfl (r := some (pvI x66_)) (M' := M53_) ⟨rfl, rfl⟩ ⟨⟨_, rfl, (zr_wide b71_ (by decide) (by decide))⟩, o55_, f57_, (yGtw0_0 o55_ (yTw0 d15_ d22_ d29_ d42_ d51_ rfl rfl (by omega) rfl) (by have u := b65_; omega) (by have u := b65_; omega) d72_)⟩
def fpL_eX10_undo_124 : List (Nat × Nat × Nat) := [(0, 124, 1), (0, 124, 2), (0, 124, 16), (0, 124, 3), (0, 124, 4), (0, 124, 38), (0, 124, 5), (0, 124, 41), (0, 124, 44), (0, 124, 6), (0, 124, 7), (0, 125, 0), (0, 126, 0), (0, 127, 0), (0, 128, 0), (0, 129, 0), (0, 130, 0), (0, 131, 0), (0, 145, 0), (0, 147, 0), (0, 148, 0), (0, 149, 0), (0, 150, 0)]
def fp_eX10_undo_124 (q k : Nat) : Bool := pvfp fpL_eX10_undo_124 q k
set_option maxHeartbeats 4000000 in
set_option maxRecDepth 10000 in
theorem se_X10_undo_124 (M : pvM) (hok : pvOk M) (d : Nat) : PW 94 d (0, [some (pvR 124), none], [], M) (fun r X => (∃ x : Int32, r = some (pvI x) ∧ ((-3) ≤ Int32.toInt x ∧ Int32.toInt x ≤ 7) ∧ x = (if (M.1 124 46) = 0 then (-3) else (M.1 124 48))) ∧ pvOk X ∧ pvFr fp_eX10_undo_124 M X ∧ ((pvWF M → pvWF X) ∧ (Int32.toInt (M.1 124 51) ≤ 99 → Int32.toInt (M.1 124 3) ≤ 99 → Int32.toInt (X.1 124 3) ≤ 99)) ∧ zU10 M X ∧ zU1 124 46 145 157 7 M X ∧ zU1 124 46 147 158 6 M X ∧ zU1 124 46 148 159 6 M X ∧ zU1 124 46 149 160 8 M X ∧ zU1 124 46 150 161 8 M X ∧ zwU (M.1 124 46) 7 (zw0 49 53 54 162 M) (zw0 1 5 6 131 M) (zw0 1 5 6 131 X) ∧ zKu0 M X ∧ X.1 124 0 = (if (M.1 124 46) = 0 then (M.1 124 0) else (M.1 124 48)) ∧ X.1 124 3 = (if (M.1 124 46) = 0 then (M.1 124 3) else (M.1 124 51)) ∧ X.1 124 4 = (if (M.1 124 46) = 0 then (M.1 124 4) else (M.1 124 52)) ∧ X.1 124 40 = (if (M.1 124 46) = 0 then (M.1 124 40) else (M.1 124 56)) ∧ X.1 124 43 = (if (M.1 124 46) = 0 then (M.1 124 43) else (M.1 124 57)) ∧ X.1 124 37 = (if (M.1 124 46) = 0 then (M.1 124 37) else (M.1 124 55))) := by
  have hT : pvdom 94 = pvD_94 := rfl
  have b1_ : 0 ≤ Int32.toInt (M.1 124 46) ∧ Int32.toInt (M.1 124 46) ≤ 1 := pvok_r hok 124 46 rfl
  refine pw_blk hT 2 (S' := (4, [some (pvR 124), none], [pvI (M.1 124 46)], M)) rfl ⟨trivial, rfl, trivial⟩ ?_
  refine pw_ifn hT (c := (M.1 124 46) = 0) rfl rfl (fun c2_ => ?_) (fun c2_ => ?_)
  · have b3_ : 1 ≤ Int32.toInt (M.1 124 46) ∧ Int32.toInt (M.1 124 46) ≤ 1 := (by have u0 := b1_; have u1 := (not_congr (zi_eq _ _)).mp c2_; have u2 := (show 0 ≤ Int32.toInt 0 ∧ Int32.toInt 0 ≤ 0 from (by decide)); omega)
    have b4_ : (-1) ≤ Int32.toInt (M.1 124 47) ∧ Int32.toInt (M.1 124 47) ≤ 5 := pvok_r hok 124 47 rfl
    refine pw_blkw hT 4 (pc := 18) (lo := [some (pvR 124), none]) (st := []) (M := pvu M 124 15 (M.1 124 47)) rfl ⟨trivial, trivial, rfl, rfl, trivial⟩ (fun M5_ e6_ => ?_)
    have o7_ : pvOk M5_ := pvok_u2 e6_ hok rfl b4_
    have f8_ : pvFr fp_eX10_undo_124 M M5_ := pvfr_u e6_ pvfr_0 rfl
    have b9_ : 0 ≤ Int32.toInt (M5_.1 124 48) ∧ Int32.toInt (M5_.1 124 48) ≤ 7 := pvok_r o7_ 124 48 rfl
    refine pw_blkw hT 4 (pc := 26) (lo := [some (pvR 124), none]) (st := []) (M := pvu M5_ 124 0 (M5_.1 124 48)) rfl ⟨trivial, trivial, rfl, rfl, trivial⟩ (fun M10_ e11_ => ?_)
    have o12_ : pvOk M10_ := pvok_u2 e11_ o7_ rfl b9_
    have f13_ : pvFr fp_eX10_undo_124 M M10_ := pvfr_u e11_ f8_ rfl
    have b14_ : 0 ≤ Int32.toInt (M10_.1 124 49) ∧ Int32.toInt (M10_.1 124 49) ≤ 9999 := pvok_r o12_ 124 49 rfl
    refine pw_blkw hT 4 (pc := 34) (lo := [some (pvR 124), none]) (st := []) (M := pvu M10_ 124 1 (M10_.1 124 49)) rfl ⟨trivial, trivial, rfl, rfl, trivial⟩ (fun M15_ e16_ => ?_)
    have o17_ : pvOk M15_ := pvok_u2 e16_ o12_ rfl b14_
    have f18_ : pvFr fp_eX10_undo_124 M M15_ := pvfr_u e16_ f13_ rfl
    have b19_ : 0 ≤ Int32.toInt (M15_.1 124 50) ∧ Int32.toInt (M15_.1 124 50) ≤ 999999 := pvok_r o17_ 124 50 rfl
    refine pw_blkw hT 4 (pc := 42) (lo := [some (pvR 124), none]) (st := []) (M := pvu M15_ 124 2 (M15_.1 124 50)) rfl ⟨trivial, trivial, rfl, rfl, trivial⟩ (fun M20_ e21_ => ?_)
    have o22_ : pvOk M20_ := pvok_u2 e21_ o17_ rfl b19_
    have f23_ : pvFr fp_eX10_undo_124 M M20_ := pvfr_u e21_ f18_ rfl
    have b24_ : 0 ≤ Int32.toInt (M20_.1 124 51) ∧ Int32.toInt (M20_.1 124 51) ≤ 108 := pvok_r o22_ 124 51 rfl
    refine pw_blkw hT 4 (pc := 50) (lo := [some (pvR 124), none]) (st := []) (M := pvu M20_ 124 3 (M20_.1 124 51)) rfl ⟨trivial, trivial, rfl, rfl, trivial⟩ (fun M25_ e26_ => ?_)
    have o27_ : pvOk M25_ := pvok_u2 e26_ o22_ rfl b24_
    have f28_ : pvFr fp_eX10_undo_124 M M25_ := pvfr_u e26_ f23_ rfl
    have b29_ : 0 ≤ Int32.toInt (M25_.1 124 52) ∧ Int32.toInt (M25_.1 124 52) ≤ 4 := pvok_r o27_ 124 52 rfl
    refine pw_blkw hT 4 (pc := 58) (lo := [some (pvR 124), none]) (st := []) (M := pvu M25_ 124 4 (M25_.1 124 52)) rfl ⟨trivial, trivial, rfl, rfl, trivial⟩ (fun M30_ e31_ => ?_)
    have o32_ : pvOk M30_ := pvok_u2 e31_ o27_ rfl b29_
    have f33_ : pvFr fp_eX10_undo_124 M M30_ := pvfr_u e31_ f28_ rfl
    have b34_ : 0 ≤ Int32.toInt (M30_.1 124 53) ∧ Int32.toInt (M30_.1 124 53) ≤ 3 := pvok_r o32_ 124 53 rfl
    refine pw_blkw hT 4 (pc := 66) (lo := [some (pvR 124), none]) (st := []) (M := pvu M30_ 124 5 (M30_.1 124 53)) rfl ⟨trivial, trivial, rfl, rfl, trivial⟩ (fun M35_ e36_ => ?_)
    have o37_ : pvOk M35_ := pvok_u2 e36_ o32_ rfl b34_
    have f38_ : pvFr fp_eX10_undo_124 M M35_ := pvfr_u e36_ f33_ rfl
    have b39_ : 0 ≤ Int32.toInt (M35_.1 124 54) ∧ Int32.toInt (M35_.1 124 54) ≤ 4 := pvok_r o37_ 124 54 rfl
    refine pw_blkw hT 4 (pc := 74) (lo := [some (pvR 124), none]) (st := []) (M := pvu M35_ 124 6 (M35_.1 124 54)) rfl ⟨trivial, trivial, rfl, rfl, trivial⟩ (fun M40_ e41_ => ?_)
    have o42_ : pvOk M40_ := pvok_u2 e41_ o37_ rfl b39_
    have f43_ : pvFr fp_eX10_undo_124 M M40_ := pvfr_u e41_ f38_ rfl
    have b44_ : 0 ≤ Int32.toInt (M40_.1 124 55) ∧ Int32.toInt (M40_.1 124 55) ≤ 7 := pvok_r o42_ 124 55 rfl
    refine pw_blkw hT 4 (pc := 82) (lo := [some (pvR 124), none]) (st := []) (M := pvu M40_ 124 37 (M40_.1 124 55)) rfl ⟨trivial, trivial, rfl, rfl, trivial⟩ (fun M45_ e46_ => ?_)
    have o47_ : pvOk M45_ := pvok_u2 e46_ o42_ rfl b44_
    have f48_ : pvFr fp_eX10_undo_124 M M45_ := pvfr_u e46_ f43_ rfl
    have b49_ : 0 ≤ Int32.toInt (M45_.1 124 56) ∧ Int32.toInt (M45_.1 124 56) ≤ 6 := pvok_r o47_ 124 56 rfl
    refine pw_blkw hT 4 (pc := 90) (lo := [some (pvR 124), none]) (st := []) (M := pvu M45_ 124 40 (M45_.1 124 56)) rfl ⟨trivial, trivial, rfl, rfl, trivial⟩ (fun M50_ e51_ => ?_)
    have o52_ : pvOk M50_ := pvok_u2 e51_ o47_ rfl b49_
    have f53_ : pvFr fp_eX10_undo_124 M M50_ := pvfr_u e51_ f48_ rfl
    have b54_ : 0 ≤ Int32.toInt (M50_.1 124 57) ∧ Int32.toInt (M50_.1 124 57) ≤ 8 := pvok_r o52_ 124 57 rfl
    refine pw_blkw hT 4 (pc := 98) (lo := [some (pvR 124), none]) (st := []) (M := pvu M50_ 124 43 (M50_.1 124 57)) rfl ⟨trivial, trivial, rfl, rfl, trivial⟩ (fun M55_ e56_ => ?_)
    have o57_ : pvOk M55_ := pvok_u2 e56_ o52_ rfl b54_
    have f58_ : pvFr fp_eX10_undo_124 M M55_ := pvfr_u e56_ f53_ rfl
    refine pw_blk hT 2 (S' := (100, [some (pvR 124), some (pvI 0)], [], M55_)) rfl ⟨trivial, trivial, trivial⟩ ?_
    have e59_ : (M55_.1 124 46) = (M.1 124 46) := (((((((((((pvu_n e56_ 124 46 (Or.inr (by decide))).trans (pvu_n e51_ 124 46 (Or.inr (by decide)))).trans (pvu_n e46_ 124 46 (Or.inr (by decide)))).trans (pvu_n e41_ 124 46 (Or.inr (by decide)))).trans (pvu_n e36_ 124 46 (Or.inr (by decide)))).trans (pvu_n e31_ 124 46 (Or.inr (by decide)))).trans (pvu_n e26_ 124 46 (Or.inr (by decide)))).trans (pvu_n e21_ 124 46 (Or.inr (by decide)))).trans (pvu_n e16_ 124 46 (Or.inr (by decide)))).trans (pvu_n e11_ 124 46 (Or.inr (by decide)))).trans (pvu_n e6_ 124 46 (Or.inr (by decide))))
    have b60_ : 1 ≤ Int32.toInt (M55_.1 124 46) ∧ Int32.toInt (M55_.1 124 46) ≤ 1 := (by rw [e59_]; exact b3_)
    have hlz7013_ : ∀ (nz7013_ : Nat) (i1z7013_ : Int32) (Mz7013_ : pvM), (pvOk Mz7013_) → (pvFr fp_eX10_undo_124 M Mz7013_) → (Mz7013_.1 124 46 = M55_.1 124 46) → (0 ≤ Int32.toInt i1z7013_ ∧ Int32.toInt i1z7013_ ≤ 7) → (Int32.toInt (Mz7013_.1 124 15) = Int32.toInt (M.1 124 47)) → (Int32.toInt (Mz7013_.1 124 3) = Int32.toInt (M.1 124 51)) → (Mz7013_.1 124 0 = (M.1 124 48)) → (Mz7013_.1 124 3 = (M.1 124 51)) → (Mz7013_.1 124 4 = (M.1 124 52)) → (Mz7013_.1 124 40 = (M.1 124 56)) → (Mz7013_.1 124 43 = (M.1 124 57)) → (zC1 125 151 (Int32.toNatClampNeg i1z7013_) M Mz7013_) → (zC1 126 152 (Int32.toNatClampNeg i1z7013_) M Mz7013_) → (zC1 127 153 (Int32.toNatClampNeg i1z7013_) M Mz7013_) → (zC1 128 154 (Int32.toNatClampNeg i1z7013_) M Mz7013_) → (zC1 129 155 (Int32.toNatClampNeg i1z7013_) M Mz7013_) → (zC1 131 162 (Int32.toNatClampNeg i1z7013_) M Mz7013_) → (zC1 145 157 (Int32.toNatClampNeg i1z7013_) M Mz7013_) → (Mz7013_.1 124 37 = (M.1 124 55)) → (Mz7013_.1 124 1 = (M.1 124 49)) → (Mz7013_.1 124 5 = (M.1 124 53)) → (Mz7013_.1 124 6 = (M.1 124 54)) → (Mz7013_.1 124 15 = (M.1 124 47)) → (zhide ((8 - Int32.toInt i1z7013_).toNat < nz7013_)) → PW 94 d (100, [some (pvR 124), some (pvI i1z7013_)], [], Mz7013_) (fun r X => (∃ x : Int32, r = some (pvI x) ∧ ((-3) ≤ Int32.toInt x ∧ Int32.toInt x ≤ 7) ∧ x = (if (M.1 124 46) = 0 then (-3) else (M.1 124 48))) ∧ pvOk X ∧ pvFr fp_eX10_undo_124 M X ∧ ((pvWF M → pvWF X) ∧ (Int32.toInt (M.1 124 51) ≤ 99 → Int32.toInt (M.1 124 3) ≤ 99 → Int32.toInt (X.1 124 3) ≤ 99)) ∧ zU10 M X ∧ zU1 124 46 145 157 7 M X ∧ zU1 124 46 147 158 6 M X ∧ zU1 124 46 148 159 6 M X ∧ zU1 124 46 149 160 8 M X ∧ zU1 124 46 150 161 8 M X ∧ zwU (M.1 124 46) 7 (zw0 49 53 54 162 M) (zw0 1 5 6 131 M) (zw0 1 5 6 131 X) ∧ zKu0 M X ∧ X.1 124 0 = (if (M.1 124 46) = 0 then (M.1 124 0) else (M.1 124 48)) ∧ X.1 124 3 = (if (M.1 124 46) = 0 then (M.1 124 3) else (M.1 124 51)) ∧ X.1 124 4 = (if (M.1 124 46) = 0 then (M.1 124 4) else (M.1 124 52)) ∧ X.1 124 40 = (if (M.1 124 46) = 0 then (M.1 124 40) else (M.1 124 56)) ∧ X.1 124 43 = (if (M.1 124 46) = 0 then (M.1 124 43) else (M.1 124 57)) ∧ X.1 124 37 = (if (M.1 124 46) = 0 then (M.1 124 37) else (M.1 124 55))) := by
      intro nz7013_
      induction nz7013_ with
      | zero => intro i1z7013_ Mz7013_ oz7013_ fz7013_ k124_46z7013_ h1z7013_ j0z7013_ j1z7013_ j2z7013_ j3z7013_ j4z7013_ j5z7013_ j6z7013_ j7z7013_ j8z7013_ j9z7013_ j10z7013_ j11z7013_ j12z7013_ j13z7013_ j14z7013_ j15z7013_ j16z7013_ j17z7013_ j18z7013_ hmz7013_; exact absurd (zshow hmz7013_) (Nat.not_lt_zero _)
      | succ nz7013_ ihz7013_ =>
        intro i1z7013_ Mz7013_ oz7013_ fz7013_ k124_46z7013_ h1z7013_ j0z7013_ j1z7013_ j2z7013_ j3z7013_ j4z7013_ j5z7013_ j6z7013_ j7z7013_ j8z7013_ j9z7013_ j10z7013_ j11z7013_ j12z7013_ j13z7013_ j14z7013_ j15z7013_ j16z7013_ j17z7013_ j18z7013_ hmz7013_
        have b7014_ : (-1) ≤ Int32.toInt (Mz7013_.1 124 15) ∧ Int32.toInt (Mz7013_.1 124 15) ≤ 5 := pvok_r oz7013_ 124 15 rfl
        have b7015_ : 0 ≤ Int32.toInt (Mz7013_.1 124 3) ∧ Int32.toInt (Mz7013_.1 124 3) ≤ 108 := pvok_r oz7013_ 124 3 rfl
        refine pw_blk hT 2 (S' := (103, [some (pvR 124), some (pvI i1z7013_)], [pvI 7, pvI i1z7013_], Mz7013_)) rfl ⟨trivial, trivial, trivial⟩ ?_
        refine pw_ic hT (c := 7 ≤ i1z7013_) rfl rfl (fun c7016_ => ?_) (fun c7016_ => ?_)
        · have b7017_ : 7 ≤ Int32.toInt i1z7013_ ∧ Int32.toInt i1z7013_ ≤ 7 := zr_le_r 7 c7016_ h1z7013_ (show 7 ≤ Int32.toInt 7 ∧ Int32.toInt 7 ≤ 7 from (by decide)) (by decide)
          refine pw_blk hT 2 (S' := (198, [some (pvR 124), some (pvI 0)], [], Mz7013_)) rfl ⟨trivial, trivial, trivial⟩ ?_
          have e7018_ : (Mz7013_.1 124 46) = (M55_.1 124 46) := (k124_46z7013_)
          have b7019_ : 1 ≤ Int32.toInt (Mz7013_.1 124 46) ∧ Int32.toInt (Mz7013_.1 124 46) ≤ 1 := (by rw [e7018_]; exact b60_)
          have hlz8701_ : ∀ (nz8701_ : Nat) (i1z8701_ : Int32) (Mz8701_ : pvM), (pvOk Mz8701_) → (pvFr fp_eX10_undo_124 M Mz8701_) → (Mz8701_.1 124 46 = Mz7013_.1 124 46) → (0 ≤ Int32.toInt i1z8701_ ∧ Int32.toInt i1z8701_ ≤ 28) → (Int32.toInt (Mz8701_.1 124 15) = Int32.toInt (M.1 124 47)) → (Int32.toInt (Mz8701_.1 124 3) = Int32.toInt (M.1 124 51)) → (Mz8701_.1 124 0 = (M.1 124 48)) → (Mz8701_.1 124 3 = (M.1 124 51)) → (Mz8701_.1 124 4 = (M.1 124 52)) → (Mz8701_.1 124 40 = (M.1 124 56)) → (Mz8701_.1 124 43 = (M.1 124 57)) → (zC1 125 151 7 M Mz8701_) → (zC1 126 152 7 M Mz8701_) → (zC1 127 153 7 M Mz8701_) → (zC1 128 154 7 M Mz8701_) → (zC1 129 155 7 M Mz8701_) → (zC1 131 162 7 M Mz8701_) → (zC1 145 157 7 M Mz8701_) → (zC1 130 156 (Int32.toNatClampNeg i1z8701_) M Mz8701_) → (Mz8701_.1 124 37 = (M.1 124 55)) → (Mz8701_.1 124 1 = (M.1 124 49)) → (Mz8701_.1 124 5 = (M.1 124 53)) → (Mz8701_.1 124 6 = (M.1 124 54)) → (Mz8701_.1 124 15 = (M.1 124 47)) → (zhide ((29 - Int32.toInt i1z8701_).toNat < nz8701_)) → PW 94 d (198, [some (pvR 124), some (pvI i1z8701_)], [], Mz8701_) (fun r X => (∃ x : Int32, r = some (pvI x) ∧ ((-3) ≤ Int32.toInt x ∧ Int32.toInt x ≤ 7) ∧ x = (if (M.1 124 46) = 0 then (-3) else (M.1 124 48))) ∧ pvOk X ∧ pvFr fp_eX10_undo_124 M X ∧ ((pvWF M → pvWF X) ∧ (Int32.toInt (M.1 124 51) ≤ 99 → Int32.toInt (M.1 124 3) ≤ 99 → Int32.toInt (X.1 124 3) ≤ 99)) ∧ zU10 M X ∧ zU1 124 46 145 157 7 M X ∧ zU1 124 46 147 158 6 M X ∧ zU1 124 46 148 159 6 M X ∧ zU1 124 46 149 160 8 M X ∧ zU1 124 46 150 161 8 M X ∧ zwU (M.1 124 46) 7 (zw0 49 53 54 162 M) (zw0 1 5 6 131 M) (zw0 1 5 6 131 X) ∧ zKu0 M X ∧ X.1 124 0 = (if (M.1 124 46) = 0 then (M.1 124 0) else (M.1 124 48)) ∧ X.1 124 3 = (if (M.1 124 46) = 0 then (M.1 124 3) else (M.1 124 51)) ∧ X.1 124 4 = (if (M.1 124 46) = 0 then (M.1 124 4) else (M.1 124 52)) ∧ X.1 124 40 = (if (M.1 124 46) = 0 then (M.1 124 40) else (M.1 124 56)) ∧ X.1 124 43 = (if (M.1 124 46) = 0 then (M.1 124 43) else (M.1 124 57)) ∧ X.1 124 37 = (if (M.1 124 46) = 0 then (M.1 124 37) else (M.1 124 55))) := by
            intro nz8701_
            induction nz8701_ with
            | zero => intro i1z8701_ Mz8701_ oz8701_ fz8701_ k124_46z8701_ h1z8701_ j0z8701_ j1z8701_ j2z8701_ j3z8701_ j4z8701_ j5z8701_ j6z8701_ j7z8701_ j8z8701_ j9z8701_ j10z8701_ j11z8701_ j12z8701_ j13z8701_ j14z8701_ j15z8701_ j16z8701_ j17z8701_ j18z8701_ j19z8701_ hmz8701_; exact absurd (zshow hmz8701_) (Nat.not_lt_zero _)
            | succ nz8701_ ihz8701_ =>
              intro i1z8701_ Mz8701_ oz8701_ fz8701_ k124_46z8701_ h1z8701_ j0z8701_ j1z8701_ j2z8701_ j3z8701_ j4z8701_ j5z8701_ j6z8701_ j7z8701_ j8z8701_ j9z8701_ j10z8701_ j11z8701_ j12z8701_ j13z8701_ j14z8701_ j15z8701_ j16z8701_ j17z8701_ j18z8701_ j19z8701_ hmz8701_
              have b8702_ : (-1) ≤ Int32.toInt (Mz8701_.1 124 15) ∧ Int32.toInt (Mz8701_.1 124 15) ≤ 5 := pvok_r oz8701_ 124 15 rfl
              have b8703_ : 0 ≤ Int32.toInt (Mz8701_.1 124 3) ∧ Int32.toInt (Mz8701_.1 124 3) ≤ 108 := pvok_r oz8701_ 124 3 rfl
              refine pw_blk hT 2 (S' := (201, [some (pvR 124), some (pvI i1z8701_)], [pvI 28, pvI i1z8701_], Mz8701_)) rfl ⟨trivial, trivial, trivial⟩ ?_
              refine pw_ic hT (c := 28 ≤ i1z8701_) rfl rfl (fun c8704_ => ?_) (fun c8704_ => ?_)
              · have b8705_ : 28 ≤ Int32.toInt i1z8701_ ∧ Int32.toInt i1z8701_ ≤ 28 := zr_le_r 28 c8704_ h1z8701_ (show 28 ≤ Int32.toInt 28 ∧ Int32.toInt 28 ≤ 28 from (by decide)) (by decide)
                refine pw_blk hT 2 (S' := (224, [some (pvR 124), some (pvI 0)], [], Mz8701_)) rfl ⟨trivial, trivial, trivial⟩ ?_
                have e8706_ : (Mz8701_.1 124 46) = (Mz7013_.1 124 46) := (k124_46z8701_)
                have b8707_ : 1 ≤ Int32.toInt (Mz8701_.1 124 46) ∧ Int32.toInt (Mz8701_.1 124 46) ≤ 1 := (by rw [e8706_]; exact b7019_)
                have hlz9101_ : ∀ (nz9101_ : Nat) (i1z9101_ : Int32) (Mz9101_ : pvM), (pvOk Mz9101_) → (pvFr fp_eX10_undo_124 M Mz9101_) → (Mz9101_.1 124 46 = Mz8701_.1 124 46) → (0 ≤ Int32.toInt i1z9101_ ∧ Int32.toInt i1z9101_ ≤ 6) → (Int32.toInt (Mz9101_.1 124 15) = Int32.toInt (M.1 124 47)) → (Int32.toInt (Mz9101_.1 124 3) = Int32.toInt (M.1 124 51)) → (Mz9101_.1 124 0 = (M.1 124 48)) → (Mz9101_.1 124 3 = (M.1 124 51)) → (Mz9101_.1 124 4 = (M.1 124 52)) → (Mz9101_.1 124 40 = (M.1 124 56)) → (Mz9101_.1 124 43 = (M.1 124 57)) → (zC1 125 151 7 M Mz9101_) → (zC1 126 152 7 M Mz9101_) → (zC1 127 153 7 M Mz9101_) → (zC1 128 154 7 M Mz9101_) → (zC1 129 155 7 M Mz9101_) → (zC1 131 162 7 M Mz9101_) → (zC1 145 157 7 M Mz9101_) → (zC1 130 156 28 M Mz9101_) → (zC1 147 158 (Int32.toNatClampNeg i1z9101_) M Mz9101_) → (zC1 148 159 (Int32.toNatClampNeg i1z9101_) M Mz9101_) → (Mz9101_.1 124 37 = (M.1 124 55)) → (Mz9101_.1 124 1 = (M.1 124 49)) → (Mz9101_.1 124 5 = (M.1 124 53)) → (Mz9101_.1 124 6 = (M.1 124 54)) → (Mz9101_.1 124 15 = (M.1 124 47)) → (zhide ((7 - Int32.toInt i1z9101_).toNat < nz9101_)) → PW 94 d (224, [some (pvR 124), some (pvI i1z9101_)], [], Mz9101_) (fun r X => (∃ x : Int32, r = some (pvI x) ∧ ((-3) ≤ Int32.toInt x ∧ Int32.toInt x ≤ 7) ∧ x = (if (M.1 124 46) = 0 then (-3) else (M.1 124 48))) ∧ pvOk X ∧ pvFr fp_eX10_undo_124 M X ∧ ((pvWF M → pvWF X) ∧ (Int32.toInt (M.1 124 51) ≤ 99 → Int32.toInt (M.1 124 3) ≤ 99 → Int32.toInt (X.1 124 3) ≤ 99)) ∧ zU10 M X ∧ zU1 124 46 145 157 7 M X ∧ zU1 124 46 147 158 6 M X ∧ zU1 124 46 148 159 6 M X ∧ zU1 124 46 149 160 8 M X ∧ zU1 124 46 150 161 8 M X ∧ zwU (M.1 124 46) 7 (zw0 49 53 54 162 M) (zw0 1 5 6 131 M) (zw0 1 5 6 131 X) ∧ zKu0 M X ∧ X.1 124 0 = (if (M.1 124 46) = 0 then (M.1 124 0) else (M.1 124 48)) ∧ X.1 124 3 = (if (M.1 124 46) = 0 then (M.1 124 3) else (M.1 124 51)) ∧ X.1 124 4 = (if (M.1 124 46) = 0 then (M.1 124 4) else (M.1 124 52)) ∧ X.1 124 40 = (if (M.1 124 46) = 0 then (M.1 124 40) else (M.1 124 56)) ∧ X.1 124 43 = (if (M.1 124 46) = 0 then (M.1 124 43) else (M.1 124 57)) ∧ X.1 124 37 = (if (M.1 124 46) = 0 then (M.1 124 37) else (M.1 124 55))) := by
                  intro nz9101_
                  induction nz9101_ with
                  | zero => intro i1z9101_ Mz9101_ oz9101_ fz9101_ k124_46z9101_ h1z9101_ j0z9101_ j1z9101_ j2z9101_ j3z9101_ j4z9101_ j5z9101_ j6z9101_ j7z9101_ j8z9101_ j9z9101_ j10z9101_ j11z9101_ j12z9101_ j13z9101_ j14z9101_ j15z9101_ j16z9101_ j17z9101_ j18z9101_ j19z9101_ j20z9101_ j21z9101_ hmz9101_; exact absurd (zshow hmz9101_) (Nat.not_lt_zero _)
                  | succ nz9101_ ihz9101_ =>
                    intro i1z9101_ Mz9101_ oz9101_ fz9101_ k124_46z9101_ h1z9101_ j0z9101_ j1z9101_ j2z9101_ j3z9101_ j4z9101_ j5z9101_ j6z9101_ j7z9101_ j8z9101_ j9z9101_ j10z9101_ j11z9101_ j12z9101_ j13z9101_ j14z9101_ j15z9101_ j16z9101_ j17z9101_ j18z9101_ j19z9101_ j20z9101_ j21z9101_ hmz9101_
                    have b9102_ : (-1) ≤ Int32.toInt (Mz9101_.1 124 15) ∧ Int32.toInt (Mz9101_.1 124 15) ≤ 5 := pvok_r oz9101_ 124 15 rfl
                    have b9103_ : 0 ≤ Int32.toInt (Mz9101_.1 124 3) ∧ Int32.toInt (Mz9101_.1 124 3) ≤ 108 := pvok_r oz9101_ 124 3 rfl
                    refine pw_blk hT 2 (S' := (227, [some (pvR 124), some (pvI i1z9101_)], [pvI 6, pvI i1z9101_], Mz9101_)) rfl ⟨trivial, trivial, trivial⟩ ?_
                    refine pw_ic hT (c := 6 ≤ i1z9101_) rfl rfl (fun c9104_ => ?_) (fun c9104_ => ?_)
                    · have b9105_ : 6 ≤ Int32.toInt i1z9101_ ∧ Int32.toInt i1z9101_ ≤ 6 := zr_le_r 6 c9104_ h1z9101_ (show 6 ≤ Int32.toInt 6 ∧ Int32.toInt 6 ≤ 6 from (by decide)) (by decide)
                      refine pw_blk hT 2 (S' := (262, [some (pvR 124), some (pvI 0)], [], Mz9101_)) rfl ⟨trivial, trivial, trivial⟩ ?_
                      have e9106_ : (Mz9101_.1 124 46) = (Mz8701_.1 124 46) := (k124_46z9101_)
                      have b9107_ : 1 ≤ Int32.toInt (Mz9101_.1 124 46) ∧ Int32.toInt (Mz9101_.1 124 46) ≤ 1 := (by rw [e9106_]; exact b8707_)
                      have hlz9173_ : ∀ (nz9173_ : Nat) (i1z9173_ : Int32) (Mz9173_ : pvM), (pvOk Mz9173_) → (pvFr fp_eX10_undo_124 M Mz9173_) → (Mz9173_.1 124 46 = Mz9101_.1 124 46) → (0 ≤ Int32.toInt i1z9173_ ∧ Int32.toInt i1z9173_ ≤ 8) → (Int32.toInt (Mz9173_.1 124 15) = Int32.toInt (M.1 124 47)) → (Int32.toInt (Mz9173_.1 124 3) = Int32.toInt (M.1 124 51)) → (Mz9173_.1 124 0 = (M.1 124 48)) → (Mz9173_.1 124 3 = (M.1 124 51)) → (Mz9173_.1 124 4 = (M.1 124 52)) → (Mz9173_.1 124 40 = (M.1 124 56)) → (Mz9173_.1 124 43 = (M.1 124 57)) → (zC1 125 151 7 M Mz9173_) → (zC1 126 152 7 M Mz9173_) → (zC1 127 153 7 M Mz9173_) → (zC1 128 154 7 M Mz9173_) → (zC1 129 155 7 M Mz9173_) → (zC1 131 162 7 M Mz9173_) → (zC1 145 157 7 M Mz9173_) → (zC1 130 156 28 M Mz9173_) → (zC1 147 158 6 M Mz9173_) → (zC1 148 159 6 M Mz9173_) → (zC1 149 160 (Int32.toNatClampNeg i1z9173_) M Mz9173_) → (zC1 150 161 (Int32.toNatClampNeg i1z9173_) M Mz9173_) → (Mz9173_.1 124 37 = (M.1 124 55)) → (Mz9173_.1 124 1 = (M.1 124 49)) → (Mz9173_.1 124 5 = (M.1 124 53)) → (Mz9173_.1 124 6 = (M.1 124 54)) → (Mz9173_.1 124 15 = (M.1 124 47)) → (zhide ((9 - Int32.toInt i1z9173_).toNat < nz9173_)) → PW 94 d (262, [some (pvR 124), some (pvI i1z9173_)], [], Mz9173_) (fun r X => (∃ x : Int32, r = some (pvI x) ∧ ((-3) ≤ Int32.toInt x ∧ Int32.toInt x ≤ 7) ∧ x = (if (M.1 124 46) = 0 then (-3) else (M.1 124 48))) ∧ pvOk X ∧ pvFr fp_eX10_undo_124 M X ∧ ((pvWF M → pvWF X) ∧ (Int32.toInt (M.1 124 51) ≤ 99 → Int32.toInt (M.1 124 3) ≤ 99 → Int32.toInt (X.1 124 3) ≤ 99)) ∧ zU10 M X ∧ zU1 124 46 145 157 7 M X ∧ zU1 124 46 147 158 6 M X ∧ zU1 124 46 148 159 6 M X ∧ zU1 124 46 149 160 8 M X ∧ zU1 124 46 150 161 8 M X ∧ zwU (M.1 124 46) 7 (zw0 49 53 54 162 M) (zw0 1 5 6 131 M) (zw0 1 5 6 131 X) ∧ zKu0 M X ∧ X.1 124 0 = (if (M.1 124 46) = 0 then (M.1 124 0) else (M.1 124 48)) ∧ X.1 124 3 = (if (M.1 124 46) = 0 then (M.1 124 3) else (M.1 124 51)) ∧ X.1 124 4 = (if (M.1 124 46) = 0 then (M.1 124 4) else (M.1 124 52)) ∧ X.1 124 40 = (if (M.1 124 46) = 0 then (M.1 124 40) else (M.1 124 56)) ∧ X.1 124 43 = (if (M.1 124 46) = 0 then (M.1 124 43) else (M.1 124 57)) ∧ X.1 124 37 = (if (M.1 124 46) = 0 then (M.1 124 37) else (M.1 124 55))) := by
                        intro nz9173_
                        induction nz9173_ with
                        | zero => intro i1z9173_ Mz9173_ oz9173_ fz9173_ k124_46z9173_ h1z9173_ j0z9173_ j1z9173_ j2z9173_ j3z9173_ j4z9173_ j5z9173_ j6z9173_ j7z9173_ j8z9173_ j9z9173_ j10z9173_ j11z9173_ j12z9173_ j13z9173_ j14z9173_ j15z9173_ j16z9173_ j17z9173_ j18z9173_ j19z9173_ j20z9173_ j21z9173_ j22z9173_ j23z9173_ hmz9173_; exact absurd (zshow hmz9173_) (Nat.not_lt_zero _)
                        | succ nz9173_ ihz9173_ =>
                          intro i1z9173_ Mz9173_ oz9173_ fz9173_ k124_46z9173_ h1z9173_ j0z9173_ j1z9173_ j2z9173_ j3z9173_ j4z9173_ j5z9173_ j6z9173_ j7z9173_ j8z9173_ j9z9173_ j10z9173_ j11z9173_ j12z9173_ j13z9173_ j14z9173_ j15z9173_ j16z9173_ j17z9173_ j18z9173_ j19z9173_ j20z9173_ j21z9173_ j22z9173_ j23z9173_ hmz9173_
                          have b9174_ : (-1) ≤ Int32.toInt (Mz9173_.1 124 15) ∧ Int32.toInt (Mz9173_.1 124 15) ≤ 5 := pvok_r oz9173_ 124 15 rfl
                          have b9175_ : 0 ≤ Int32.toInt (Mz9173_.1 124 3) ∧ Int32.toInt (Mz9173_.1 124 3) ≤ 108 := pvok_r oz9173_ 124 3 rfl
                          refine pw_blk hT 2 (S' := (265, [some (pvR 124), some (pvI i1z9173_)], [pvI 8, pvI i1z9173_], Mz9173_)) rfl ⟨trivial, trivial, trivial⟩ ?_
                          refine pw_ic hT (c := 8 ≤ i1z9173_) rfl rfl (fun c9176_ => ?_) (fun c9176_ => ?_)
                          · have b9177_ : 8 ≤ Int32.toInt i1z9173_ ∧ Int32.toInt i1z9173_ ≤ 8 := zr_le_r 8 c9176_ h1z9173_ (show 8 ≤ Int32.toInt 8 ∧ Int32.toInt 8 ≤ 8 from (by decide)) (by decide)
                            have b9178_ : 0 ≤ Int32.toInt (Mz9173_.1 124 0) ∧ Int32.toInt (Mz9173_.1 124 0) ≤ 7 := pvok_r oz9173_ 124 0 rfl
                            refine pw_blk hT 2 (S' := (302, [some (pvR 124), some (pvI i1z9173_)], [pvI (Mz9173_.1 124 0)], Mz9173_)) rfl ⟨trivial, rfl, trivial⟩ ?_
                            exact pw_ret hT rfl (r := some (pvI (Mz9173_.1 124 0))) (M' := Mz9173_) ⟨rfl, rfl⟩ ⟨⟨_, rfl, (zr_wide b9178_ (by decide) (by decide)), (by rw [if_neg c2_]; first | done | exact (show (Mz9173_.1 124 0) = (M.1 124 48) from by rw [j2z9173_]) | (rw [if_neg c2_]; exact (show (Mz9173_.1 124 0) = (M.1 124 48) from by rw [j2z9173_])))⟩, oz9173_, fz9173_, ⟨fun hz => ⟨by have z3 := hz.1; have z4 := hz.2.1; have w0 : Int32.toInt (Mz9173_.1 124 14) = Int32.toInt (M.1 124 14) := congrArg Int32.toInt (fz9173_ 124 14 rfl); omega, by have z3 := hz.1; have z4 := hz.2.1; have w0 : Int32.toInt (Mz9173_.1 124 14) = Int32.toInt (M.1 124 14) := congrArg Int32.toInt (fz9173_ 124 14 rfl); have v0 : Int32.toInt (Mz9173_.1 124 47) = Int32.toInt (M.1 124 47) := congrArg Int32.toInt (fz9173_ 124 47 rfl); omega, fun a ha => pvWh_r (pvfr_row (L := fpL_eX10_undo_124) fz9173_ rfl) (pvfr_row (L := fpL_eX10_undo_124) fz9173_ rfl) (pvfr_row (L := fpL_eX10_undo_124) fz9173_ rfl) (pvfr_row (L := fpL_eX10_undo_124) fz9173_ rfl) (pvfr_row (L := fpL_eX10_undo_124) fz9173_ rfl) (hz.2.2 a (by have w0 : Int32.toInt (Mz9173_.1 124 14) = Int32.toInt (M.1 124 14) := congrArg Int32.toInt (fz9173_ 124 14 rfl); omega))⟩, fun hc hc2 => by omega⟩, (Or.inr ⟨c2_, (zD_c j7z9173_ j8z9173_ j9z9173_ j10z9173_ j11z9173_ j14z9173_)⟩), (Or.inr ⟨c2_, j13z9173_⟩), (Or.inr ⟨c2_, j15z9173_⟩), (Or.inr ⟨c2_, j16z9173_⟩), (Or.inr ⟨c2_, (zC1_n (znp0 b9177_) j17z9173_)⟩), (Or.inr ⟨c2_, (zC1_n (znp0 b9177_) j18z9173_)⟩), (Or.inr ⟨c2_, (zwC_i (j20z9173_) (j21z9173_) (j22z9173_) (fun i hi _ => j12z9173_ i hi))⟩), (Or.inr ⟨c2_, (fz9173_ 124 14 rfl), (j23z9173_), (fz9173_ 124 47 rfl), (fun a c h1 h2 => (zfr6 (L := fpL_eX10_undo_124) fz9173_ (by decide +kernel) a c h1 h2))⟩), (by rw [if_neg c2_]; first | done | exact j2z9173_ | (rw [if_neg c2_]; done) | (rw [if_neg c2_]; exact j2z9173_)), (by rw [if_neg c2_]; first | done | exact j3z9173_ | (rw [if_neg c2_]; done) | (rw [if_neg c2_]; exact j3z9173_)), (by rw [if_neg c2_]; first | done | exact j4z9173_ | (rw [if_neg c2_]; done) | (rw [if_neg c2_]; exact j4z9173_)), (by rw [if_neg c2_]; first | done | exact j5z9173_ | (rw [if_neg c2_]; done) | (rw [if_neg c2_]; exact j5z9173_)), (by rw [if_neg c2_]; first | done | exact j6z9173_ | (rw [if_neg c2_]; done) | (rw [if_neg c2_]; exact j6z9173_)), (by rw [if_neg c2_]; first | done | exact j19z9173_ | (rw [if_neg c2_]; done) | (rw [if_neg c2_]; exact j19z9173_))⟩
                          · have b9179_ : 0 ≤ Int32.toInt i1z9173_ ∧ Int32.toInt i1z9173_ ≤ 7 := zr_nle_r 7 c9176_ h1z9173_ (show 8 ≤ Int32.toInt 8 ∧ Int32.toInt 8 ≤ 8 from (by decide)) (by decide)
                            have b9180_ : 0 ≤ Int32.toInt (Mz9173_.1 160 (Int32.toNatClampNeg i1z9173_)) ∧ Int32.toInt (Mz9173_.1 160 (Int32.toNatClampNeg i1z9173_)) ≤ 6 := pvok_r oz9173_ 160 (Int32.toNatClampNeg i1z9173_) rfl
                            refine pw_blkw hT 8 (pc := 280) (lo := [some (pvR 124), some (pvI i1z9173_)]) (st := []) (M := pvu Mz9173_ 149 (Int32.toNatClampNeg i1z9173_) (Mz9173_.1 160 (Int32.toNatClampNeg i1z9173_))) rfl ⟨trivial, rfl, trivial, trivial, rfl, trivial, ⟨rfl, (zr_in (n := 8) b9179_ (by decide) (by decide))⟩, ⟨rfl, (zr_in (n := 8) b9179_ (by decide) (by decide))⟩, trivial⟩ (fun M9181_ e9182_ => ?_)
                            have o9183_ : pvOk M9181_ := pvok_u2 e9182_ oz9173_ rfl b9180_
                            have f9184_ : pvFr fp_eX10_undo_124 M M9181_ := pvfr_u e9182_ fz9173_ rfl
                            have b9185_ : 0 ≤ Int32.toInt (M9181_.1 161 (Int32.toNatClampNeg i1z9173_)) ∧ Int32.toInt (M9181_.1 161 (Int32.toNatClampNeg i1z9173_)) ≤ 9999 := pvok_r o9183_ 161 (Int32.toNatClampNeg i1z9173_) rfl
                            refine pw_blkw hT 8 (pc := 292) (lo := [some (pvR 124), some (pvI i1z9173_)]) (st := []) (M := pvu M9181_ 150 (Int32.toNatClampNeg i1z9173_) (M9181_.1 161 (Int32.toNatClampNeg i1z9173_))) rfl ⟨trivial, rfl, trivial, trivial, rfl, trivial, ⟨rfl, (zr_in (n := 8) b9179_ (by decide) (by decide))⟩, ⟨rfl, (zr_in (n := 8) b9179_ (by decide) (by decide))⟩, trivial⟩ (fun M9186_ e9187_ => ?_)
                            have o9188_ : pvOk M9186_ := pvok_u2 e9187_ o9183_ rfl b9185_
                            have f9189_ : pvFr fp_eX10_undo_124 M M9186_ := pvfr_u e9187_ f9184_ rfl
                            obtain ⟨q9191_, b9190_⟩ : (Int32.toInt (i1z9173_ + 1) = Int32.toInt i1z9173_ + 1) ∧ (1 ≤ Int32.toInt (i1z9173_ + 1) ∧ Int32.toInt (i1z9173_ + 1) ≤ 8) := zadd_k i1z9173_ 1 1 1 8 b9179_ (by decide) (by decide) (by decide) (by decide) (by decide)
                            refine pw_blk hT 2 (S' := (262, [some (pvR 124), some (pvI (i1z9173_ + 1))], [], M9186_)) rfl ⟨trivial, trivial, trivial⟩ ?_
                            have j9192_ : Int32.toInt (M9186_.1 124 15) = Int32.toInt (M.1 124 47) := (by have y01 : Int32.toInt (M9186_.1 124 15) = Int32.toInt (Mz9173_.1 124 15) := congrArg Int32.toInt ((pvu_n e9187_ 124 15 (Or.inl (by decide))).trans (pvu_n e9182_ 124 15 (Or.inl (by decide)))); omega)
                            have j9193_ : Int32.toInt (M9186_.1 124 3) = Int32.toInt (M.1 124 51) := (by have y01 : Int32.toInt (M9186_.1 124 3) = Int32.toInt (Mz9173_.1 124 3) := congrArg Int32.toInt ((pvu_n e9187_ 124 3 (Or.inl (by decide))).trans (pvu_n e9182_ 124 3 (Or.inl (by decide)))); omega)
                            have j9194_ : M9186_.1 124 0 = (M.1 124 48) := (((pvu_n e9187_ 124 0 (Or.inl (by decide))).trans (pvu_n e9182_ 124 0 (Or.inl (by decide)))).trans (j2z9173_))
                            have j9195_ : M9186_.1 124 3 = (M.1 124 51) := (((pvu_n e9187_ 124 3 (Or.inl (by decide))).trans (pvu_n e9182_ 124 3 (Or.inl (by decide)))).trans (j3z9173_))
                            have j9196_ : M9186_.1 124 4 = (M.1 124 52) := (((pvu_n e9187_ 124 4 (Or.inl (by decide))).trans (pvu_n e9182_ 124 4 (Or.inl (by decide)))).trans (j4z9173_))
                            have j9197_ : M9186_.1 124 40 = (M.1 124 56) := (((pvu_n e9187_ 124 40 (Or.inl (by decide))).trans (pvu_n e9182_ 124 40 (Or.inl (by decide)))).trans (j5z9173_))
                            have j9198_ : M9186_.1 124 43 = (M.1 124 57) := (((pvu_n e9187_ 124 43 (Or.inl (by decide))).trans (pvu_n e9182_ 124 43 (Or.inl (by decide)))).trans (j6z9173_))
                            have j9199_ : zC1 125 151 7 M M9186_ := (zC1_u (zC1_u j7z9173_ e9182_ (by decide)) e9187_ (by decide))
                            have j9200_ : zC1 126 152 7 M M9186_ := (zC1_u (zC1_u j8z9173_ e9182_ (by decide)) e9187_ (by decide))
                            have j9201_ : zC1 127 153 7 M M9186_ := (zC1_u (zC1_u j9z9173_ e9182_ (by decide)) e9187_ (by decide))
                            have j9202_ : zC1 128 154 7 M M9186_ := (zC1_u (zC1_u j10z9173_ e9182_ (by decide)) e9187_ (by decide))
                            have j9203_ : zC1 129 155 7 M M9186_ := (zC1_u (zC1_u j11z9173_ e9182_ (by decide)) e9187_ (by decide))
                            have j9204_ : zC1 131 162 7 M M9186_ := (zC1_u (zC1_u j12z9173_ e9182_ (by decide)) e9187_ (by decide))
                            have j9205_ : zC1 145 157 7 M M9186_ := (zC1_u (zC1_u j13z9173_ e9182_ (by decide)) e9187_ (by decide))
                            have j9206_ : zC1 130 156 28 M M9186_ := (zC1_u (zC1_u j14z9173_ e9182_ (by decide)) e9187_ (by decide))
                            have j9207_ : zC1 147 158 6 M M9186_ := (zC1_u (zC1_u j15z9173_ e9182_ (by decide)) e9187_ (by decide))
                            have j9208_ : zC1 148 159 6 M M9186_ := (zC1_u (zC1_u j16z9173_ e9182_ (by decide)) e9187_ (by decide))
                            have j9209_ : zC1 149 160 (Int32.toNatClampNeg (i1z9173_ + 1)) M M9186_ := (zC1_n (znp1 b9179_ (by decide) (by decide)) (zC1_u (zC1_w j17z9173_ e9182_ (fz9173_ 160 (Int32.toNatClampNeg i1z9173_) rfl)) e9187_ (by decide)))
                            have j9210_ : zC1 150 161 (Int32.toNatClampNeg (i1z9173_ + 1)) M M9186_ := (zC1_n (znp1 b9179_ (by decide) (by decide)) (zC1_w (zC1_u j18z9173_ e9182_ (by decide)) e9187_ ((pvu_n e9182_ 161 (Int32.toNatClampNeg i1z9173_) (Or.inl (by decide))).trans (fz9173_ 161 (Int32.toNatClampNeg i1z9173_) rfl))))
                            have j9211_ : M9186_.1 124 37 = (M.1 124 55) := (((pvu_n e9187_ 124 37 (Or.inl (by decide))).trans (pvu_n e9182_ 124 37 (Or.inl (by decide)))).trans (j19z9173_))
                            have j9212_ : M9186_.1 124 1 = (M.1 124 49) := (((pvu_n e9187_ 124 1 (Or.inl (by decide))).trans (pvu_n e9182_ 124 1 (Or.inl (by decide)))).trans (j20z9173_))
                            have j9213_ : M9186_.1 124 5 = (M.1 124 53) := (((pvu_n e9187_ 124 5 (Or.inl (by decide))).trans (pvu_n e9182_ 124 5 (Or.inl (by decide)))).trans (j21z9173_))
                            have j9214_ : M9186_.1 124 6 = (M.1 124 54) := (((pvu_n e9187_ 124 6 (Or.inl (by decide))).trans (pvu_n e9182_ 124 6 (Or.inl (by decide)))).trans (j22z9173_))
                            have j9215_ : M9186_.1 124 15 = (M.1 124 47) := (((pvu_n e9187_ 124 15 (Or.inl (by decide))).trans (pvu_n e9182_ 124 15 (Or.inl (by decide)))).trans (j23z9173_))
                            exact ihz9173_ (i1z9173_ + 1) M9186_ o9188_ f9189_ (((pvu_n e9187_ 124 46 (Or.inl (by decide))).trans (pvu_n e9182_ 124 46 (Or.inl (by decide)))).trans (k124_46z9173_)) (zr_wide b9190_ (by decide) (by decide)) j9192_ j9193_ j9194_ j9195_ j9196_ j9197_ j9198_ j9199_ j9200_ j9201_ j9202_ j9203_ j9204_ j9205_ j9206_ j9207_ j9208_ j9209_ j9210_ j9211_ j9212_ j9213_ j9214_ j9215_ (zhid (by have hm0 := zshow hmz9173_; have y01 : Int32.toInt (M9186_.1 124 15) = Int32.toInt (Mz9173_.1 124 15) := congrArg Int32.toInt ((pvu_n e9187_ 124 15 (Or.inl (by decide))).trans (pvu_n e9182_ 124 15 (Or.inl (by decide)))); have y11 : Int32.toInt (M9186_.1 124 3) = Int32.toInt (Mz9173_.1 124 3) := congrArg Int32.toInt ((pvu_n e9187_ 124 3 (Or.inl (by decide))).trans (pvu_n e9182_ 124 3 (Or.inl (by decide)))); omega))
                      have u9216_ : Int32.toInt 0 = 0 := by decide
                      have j9217_ : Int32.toInt (Mz9101_.1 124 15) = Int32.toInt (M.1 124 47) := (by omega)
                      have j9218_ : Int32.toInt (Mz9101_.1 124 3) = Int32.toInt (M.1 124 51) := (by omega)
                      have j9219_ : Mz9101_.1 124 0 = (M.1 124 48) := j2z9101_
                      have j9220_ : Mz9101_.1 124 3 = (M.1 124 51) := j3z9101_
                      have j9221_ : Mz9101_.1 124 4 = (M.1 124 52) := j4z9101_
                      have j9222_ : Mz9101_.1 124 40 = (M.1 124 56) := j5z9101_
                      have j9223_ : Mz9101_.1 124 43 = (M.1 124 57) := j6z9101_
                      have j9224_ : zC1 125 151 7 M Mz9101_ := j7z9101_
                      have j9225_ : zC1 126 152 7 M Mz9101_ := j8z9101_
                      have j9226_ : zC1 127 153 7 M Mz9101_ := j9z9101_
                      have j9227_ : zC1 128 154 7 M Mz9101_ := j10z9101_
                      have j9228_ : zC1 129 155 7 M Mz9101_ := j11z9101_
                      have j9229_ : zC1 131 162 7 M Mz9101_ := j12z9101_
                      have j9230_ : zC1 145 157 7 M Mz9101_ := j13z9101_
                      have j9231_ : zC1 130 156 28 M Mz9101_ := j14z9101_
                      have j9232_ : zC1 147 158 6 M Mz9101_ := (zC1_n (znp0 b9105_) j15z9101_)
                      have j9233_ : zC1 148 159 6 M Mz9101_ := (zC1_n (znp0 b9105_) j16z9101_)
                      have j9234_ : zC1 149 160 (Int32.toNatClampNeg 0) M Mz9101_ := (zC1_0 149 160 M Mz9101_)
                      have j9235_ : zC1 150 161 (Int32.toNatClampNeg 0) M Mz9101_ := (zC1_0 150 161 M Mz9101_)
                      have j9236_ : Mz9101_.1 124 37 = (M.1 124 55) := j17z9101_
                      have j9237_ : Mz9101_.1 124 1 = (M.1 124 49) := j18z9101_
                      have j9238_ : Mz9101_.1 124 5 = (M.1 124 53) := j19z9101_
                      have j9239_ : Mz9101_.1 124 6 = (M.1 124 54) := j20z9101_
                      have j9240_ : Mz9101_.1 124 15 = (M.1 124 47) := j21z9101_
                      exact hlz9173_ _ 0 Mz9101_ oz9101_ fz9101_ rfl (zr_wide (show 0 ≤ Int32.toInt 0 ∧ Int32.toInt 0 ≤ 0 from (by decide)) (by decide) (by decide)) j9217_ j9218_ j9219_ j9220_ j9221_ j9222_ j9223_ j9224_ j9225_ j9226_ j9227_ j9228_ j9229_ j9230_ j9231_ j9232_ j9233_ j9234_ j9235_ j9236_ j9237_ j9238_ j9239_ j9240_ (zhid (Nat.lt_succ_self _))
                    · have b9241_ : 0 ≤ Int32.toInt i1z9101_ ∧ Int32.toInt i1z9101_ ≤ 5 := zr_nle_r 5 c9104_ h1z9101_ (show 6 ≤ Int32.toInt 6 ∧ Int32.toInt 6 ≤ 6 from (by decide)) (by decide)
                      have b9242_ : 0 ≤ Int32.toInt (Mz9101_.1 158 (Int32.toNatClampNeg i1z9101_)) ∧ Int32.toInt (Mz9101_.1 158 (Int32.toNatClampNeg i1z9101_)) ≤ 6 := pvok_r oz9101_ 158 (Int32.toNatClampNeg i1z9101_) rfl
                      refine pw_blkw hT 8 (pc := 242) (lo := [some (pvR 124), some (pvI i1z9101_)]) (st := []) (M := pvu Mz9101_ 147 (Int32.toNatClampNeg i1z9101_) (Mz9101_.1 158 (Int32.toNatClampNeg i1z9101_))) rfl ⟨trivial, rfl, trivial, trivial, rfl, trivial, ⟨rfl, (zr_in (n := 6) b9241_ (by decide) (by decide))⟩, ⟨rfl, (zr_in (n := 6) b9241_ (by decide) (by decide))⟩, trivial⟩ (fun M9243_ e9244_ => ?_)
                      have o9245_ : pvOk M9243_ := pvok_u2 e9244_ oz9101_ rfl b9242_
                      have f9246_ : pvFr fp_eX10_undo_124 M M9243_ := pvfr_u e9244_ fz9101_ rfl
                      have b9247_ : 0 ≤ Int32.toInt (M9243_.1 159 (Int32.toNatClampNeg i1z9101_)) ∧ Int32.toInt (M9243_.1 159 (Int32.toNatClampNeg i1z9101_)) ≤ 9999 := pvok_r o9245_ 159 (Int32.toNatClampNeg i1z9101_) rfl
                      refine pw_blkw hT 8 (pc := 254) (lo := [some (pvR 124), some (pvI i1z9101_)]) (st := []) (M := pvu M9243_ 148 (Int32.toNatClampNeg i1z9101_) (M9243_.1 159 (Int32.toNatClampNeg i1z9101_))) rfl ⟨trivial, rfl, trivial, trivial, rfl, trivial, ⟨rfl, (zr_in (n := 6) b9241_ (by decide) (by decide))⟩, ⟨rfl, (zr_in (n := 6) b9241_ (by decide) (by decide))⟩, trivial⟩ (fun M9248_ e9249_ => ?_)
                      have o9250_ : pvOk M9248_ := pvok_u2 e9249_ o9245_ rfl b9247_
                      have f9251_ : pvFr fp_eX10_undo_124 M M9248_ := pvfr_u e9249_ f9246_ rfl
                      obtain ⟨q9253_, b9252_⟩ : (Int32.toInt (i1z9101_ + 1) = Int32.toInt i1z9101_ + 1) ∧ (1 ≤ Int32.toInt (i1z9101_ + 1) ∧ Int32.toInt (i1z9101_ + 1) ≤ 6) := zadd_k i1z9101_ 1 1 1 6 b9241_ (by decide) (by decide) (by decide) (by decide) (by decide)
                      refine pw_blk hT 2 (S' := (224, [some (pvR 124), some (pvI (i1z9101_ + 1))], [], M9248_)) rfl ⟨trivial, trivial, trivial⟩ ?_
                      have j9254_ : Int32.toInt (M9248_.1 124 15) = Int32.toInt (M.1 124 47) := (by have y01 : Int32.toInt (M9248_.1 124 15) = Int32.toInt (Mz9101_.1 124 15) := congrArg Int32.toInt ((pvu_n e9249_ 124 15 (Or.inl (by decide))).trans (pvu_n e9244_ 124 15 (Or.inl (by decide)))); omega)
                      have j9255_ : Int32.toInt (M9248_.1 124 3) = Int32.toInt (M.1 124 51) := (by have y01 : Int32.toInt (M9248_.1 124 3) = Int32.toInt (Mz9101_.1 124 3) := congrArg Int32.toInt ((pvu_n e9249_ 124 3 (Or.inl (by decide))).trans (pvu_n e9244_ 124 3 (Or.inl (by decide)))); omega)
                      have j9256_ : M9248_.1 124 0 = (M.1 124 48) := (((pvu_n e9249_ 124 0 (Or.inl (by decide))).trans (pvu_n e9244_ 124 0 (Or.inl (by decide)))).trans (j2z9101_))
                      have j9257_ : M9248_.1 124 3 = (M.1 124 51) := (((pvu_n e9249_ 124 3 (Or.inl (by decide))).trans (pvu_n e9244_ 124 3 (Or.inl (by decide)))).trans (j3z9101_))
                      have j9258_ : M9248_.1 124 4 = (M.1 124 52) := (((pvu_n e9249_ 124 4 (Or.inl (by decide))).trans (pvu_n e9244_ 124 4 (Or.inl (by decide)))).trans (j4z9101_))
                      have j9259_ : M9248_.1 124 40 = (M.1 124 56) := (((pvu_n e9249_ 124 40 (Or.inl (by decide))).trans (pvu_n e9244_ 124 40 (Or.inl (by decide)))).trans (j5z9101_))
                      have j9260_ : M9248_.1 124 43 = (M.1 124 57) := (((pvu_n e9249_ 124 43 (Or.inl (by decide))).trans (pvu_n e9244_ 124 43 (Or.inl (by decide)))).trans (j6z9101_))
                      have j9261_ : zC1 125 151 7 M M9248_ := (zC1_u (zC1_u j7z9101_ e9244_ (by decide)) e9249_ (by decide))
                      have j9262_ : zC1 126 152 7 M M9248_ := (zC1_u (zC1_u j8z9101_ e9244_ (by decide)) e9249_ (by decide))
                      have j9263_ : zC1 127 153 7 M M9248_ := (zC1_u (zC1_u j9z9101_ e9244_ (by decide)) e9249_ (by decide))
                      have j9264_ : zC1 128 154 7 M M9248_ := (zC1_u (zC1_u j10z9101_ e9244_ (by decide)) e9249_ (by decide))
                      have j9265_ : zC1 129 155 7 M M9248_ := (zC1_u (zC1_u j11z9101_ e9244_ (by decide)) e9249_ (by decide))
                      have j9266_ : zC1 131 162 7 M M9248_ := (zC1_u (zC1_u j12z9101_ e9244_ (by decide)) e9249_ (by decide))
                      have j9267_ : zC1 145 157 7 M M9248_ := (zC1_u (zC1_u j13z9101_ e9244_ (by decide)) e9249_ (by decide))
                      have j9268_ : zC1 130 156 28 M M9248_ := (zC1_u (zC1_u j14z9101_ e9244_ (by decide)) e9249_ (by decide))
                      have j9269_ : zC1 147 158 (Int32.toNatClampNeg (i1z9101_ + 1)) M M9248_ := (zC1_n (znp1 b9241_ (by decide) (by decide)) (zC1_u (zC1_w j15z9101_ e9244_ (fz9101_ 158 (Int32.toNatClampNeg i1z9101_) rfl)) e9249_ (by decide)))
                      have j9270_ : zC1 148 159 (Int32.toNatClampNeg (i1z9101_ + 1)) M M9248_ := (zC1_n (znp1 b9241_ (by decide) (by decide)) (zC1_w (zC1_u j16z9101_ e9244_ (by decide)) e9249_ ((pvu_n e9244_ 159 (Int32.toNatClampNeg i1z9101_) (Or.inl (by decide))).trans (fz9101_ 159 (Int32.toNatClampNeg i1z9101_) rfl))))
                      have j9271_ : M9248_.1 124 37 = (M.1 124 55) := (((pvu_n e9249_ 124 37 (Or.inl (by decide))).trans (pvu_n e9244_ 124 37 (Or.inl (by decide)))).trans (j17z9101_))
                      have j9272_ : M9248_.1 124 1 = (M.1 124 49) := (((pvu_n e9249_ 124 1 (Or.inl (by decide))).trans (pvu_n e9244_ 124 1 (Or.inl (by decide)))).trans (j18z9101_))
                      have j9273_ : M9248_.1 124 5 = (M.1 124 53) := (((pvu_n e9249_ 124 5 (Or.inl (by decide))).trans (pvu_n e9244_ 124 5 (Or.inl (by decide)))).trans (j19z9101_))
                      have j9274_ : M9248_.1 124 6 = (M.1 124 54) := (((pvu_n e9249_ 124 6 (Or.inl (by decide))).trans (pvu_n e9244_ 124 6 (Or.inl (by decide)))).trans (j20z9101_))
                      have j9275_ : M9248_.1 124 15 = (M.1 124 47) := (((pvu_n e9249_ 124 15 (Or.inl (by decide))).trans (pvu_n e9244_ 124 15 (Or.inl (by decide)))).trans (j21z9101_))
                      exact ihz9101_ (i1z9101_ + 1) M9248_ o9250_ f9251_ (((pvu_n e9249_ 124 46 (Or.inl (by decide))).trans (pvu_n e9244_ 124 46 (Or.inl (by decide)))).trans (k124_46z9101_)) (zr_wide b9252_ (by decide) (by decide)) j9254_ j9255_ j9256_ j9257_ j9258_ j9259_ j9260_ j9261_ j9262_ j9263_ j9264_ j9265_ j9266_ j9267_ j9268_ j9269_ j9270_ j9271_ j9272_ j9273_ j9274_ j9275_ (zhid (by have hm0 := zshow hmz9101_; have y01 : Int32.toInt (M9248_.1 124 15) = Int32.toInt (Mz9101_.1 124 15) := congrArg Int32.toInt ((pvu_n e9249_ 124 15 (Or.inl (by decide))).trans (pvu_n e9244_ 124 15 (Or.inl (by decide)))); have y11 : Int32.toInt (M9248_.1 124 3) = Int32.toInt (Mz9101_.1 124 3) := congrArg Int32.toInt ((pvu_n e9249_ 124 3 (Or.inl (by decide))).trans (pvu_n e9244_ 124 3 (Or.inl (by decide)))); omega))
                have u9276_ : Int32.toInt 0 = 0 := by decide
                have j9277_ : Int32.toInt (Mz8701_.1 124 15) = Int32.toInt (M.1 124 47) := (by omega)
                have j9278_ : Int32.toInt (Mz8701_.1 124 3) = Int32.toInt (M.1 124 51) := (by omega)
                have j9279_ : Mz8701_.1 124 0 = (M.1 124 48) := j2z8701_
                have j9280_ : Mz8701_.1 124 3 = (M.1 124 51) := j3z8701_
                have j9281_ : Mz8701_.1 124 4 = (M.1 124 52) := j4z8701_
                have j9282_ : Mz8701_.1 124 40 = (M.1 124 56) := j5z8701_
                have j9283_ : Mz8701_.1 124 43 = (M.1 124 57) := j6z8701_
                have j9284_ : zC1 125 151 7 M Mz8701_ := j7z8701_
                have j9285_ : zC1 126 152 7 M Mz8701_ := j8z8701_
                have j9286_ : zC1 127 153 7 M Mz8701_ := j9z8701_
                have j9287_ : zC1 128 154 7 M Mz8701_ := j10z8701_
                have j9288_ : zC1 129 155 7 M Mz8701_ := j11z8701_
                have j9289_ : zC1 131 162 7 M Mz8701_ := j12z8701_
                have j9290_ : zC1 145 157 7 M Mz8701_ := j13z8701_
                have j9291_ : zC1 130 156 28 M Mz8701_ := (zC1_n (znp0 b8705_) j14z8701_)
                have j9292_ : zC1 147 158 (Int32.toNatClampNeg 0) M Mz8701_ := (zC1_0 147 158 M Mz8701_)
                have j9293_ : zC1 148 159 (Int32.toNatClampNeg 0) M Mz8701_ := (zC1_0 148 159 M Mz8701_)
                have j9294_ : Mz8701_.1 124 37 = (M.1 124 55) := j15z8701_
                have j9295_ : Mz8701_.1 124 1 = (M.1 124 49) := j16z8701_
                have j9296_ : Mz8701_.1 124 5 = (M.1 124 53) := j17z8701_
                have j9297_ : Mz8701_.1 124 6 = (M.1 124 54) := j18z8701_
                have j9298_ : Mz8701_.1 124 15 = (M.1 124 47) := j19z8701_
                exact hlz9101_ _ 0 Mz8701_ oz8701_ fz8701_ rfl (zr_wide (show 0 ≤ Int32.toInt 0 ∧ Int32.toInt 0 ≤ 0 from (by decide)) (by decide) (by decide)) j9277_ j9278_ j9279_ j9280_ j9281_ j9282_ j9283_ j9284_ j9285_ j9286_ j9287_ j9288_ j9289_ j9290_ j9291_ j9292_ j9293_ j9294_ j9295_ j9296_ j9297_ j9298_ (zhid (Nat.lt_succ_self _))
              · have b9299_ : 0 ≤ Int32.toInt i1z8701_ ∧ Int32.toInt i1z8701_ ≤ 27 := zr_nle_r 27 c8704_ h1z8701_ (show 28 ≤ Int32.toInt 28 ∧ Int32.toInt 28 ≤ 28 from (by decide)) (by decide)
                have b9300_ : 0 ≤ Int32.toInt (Mz8701_.1 156 (Int32.toNatClampNeg i1z8701_)) ∧ Int32.toInt (Mz8701_.1 156 (Int32.toNatClampNeg i1z8701_)) ≤ 9 := pvok_r oz8701_ 156 (Int32.toNatClampNeg i1z8701_) rfl
                refine pw_blkw hT 8 (pc := 216) (lo := [some (pvR 124), some (pvI i1z8701_)]) (st := []) (M := pvu Mz8701_ 130 (Int32.toNatClampNeg i1z8701_) (Mz8701_.1 156 (Int32.toNatClampNeg i1z8701_))) rfl ⟨trivial, rfl, trivial, trivial, rfl, trivial, ⟨rfl, (zr_in (n := 28) b9299_ (by decide) (by decide))⟩, ⟨rfl, (zr_in (n := 28) b9299_ (by decide) (by decide))⟩, trivial⟩ (fun M9301_ e9302_ => ?_)
                have o9303_ : pvOk M9301_ := pvok_u2 e9302_ oz8701_ rfl b9300_
                have f9304_ : pvFr fp_eX10_undo_124 M M9301_ := pvfr_u e9302_ fz8701_ rfl
                obtain ⟨q9306_, b9305_⟩ : (Int32.toInt (i1z8701_ + 1) = Int32.toInt i1z8701_ + 1) ∧ (1 ≤ Int32.toInt (i1z8701_ + 1) ∧ Int32.toInt (i1z8701_ + 1) ≤ 28) := zadd_k i1z8701_ 1 1 1 28 b9299_ (by decide) (by decide) (by decide) (by decide) (by decide)
                refine pw_blk hT 2 (S' := (198, [some (pvR 124), some (pvI (i1z8701_ + 1))], [], M9301_)) rfl ⟨trivial, trivial, trivial⟩ ?_
                have j9307_ : Int32.toInt (M9301_.1 124 15) = Int32.toInt (M.1 124 47) := (by have y01 : Int32.toInt (M9301_.1 124 15) = Int32.toInt (Mz8701_.1 124 15) := congrArg Int32.toInt (pvu_n e9302_ 124 15 (Or.inl (by decide))); omega)
                have j9308_ : Int32.toInt (M9301_.1 124 3) = Int32.toInt (M.1 124 51) := (by have y01 : Int32.toInt (M9301_.1 124 3) = Int32.toInt (Mz8701_.1 124 3) := congrArg Int32.toInt (pvu_n e9302_ 124 3 (Or.inl (by decide))); omega)
                have j9309_ : M9301_.1 124 0 = (M.1 124 48) := ((pvu_n e9302_ 124 0 (Or.inl (by decide))).trans (j2z8701_))
                have j9310_ : M9301_.1 124 3 = (M.1 124 51) := ((pvu_n e9302_ 124 3 (Or.inl (by decide))).trans (j3z8701_))
                have j9311_ : M9301_.1 124 4 = (M.1 124 52) := ((pvu_n e9302_ 124 4 (Or.inl (by decide))).trans (j4z8701_))
                have j9312_ : M9301_.1 124 40 = (M.1 124 56) := ((pvu_n e9302_ 124 40 (Or.inl (by decide))).trans (j5z8701_))
                have j9313_ : M9301_.1 124 43 = (M.1 124 57) := ((pvu_n e9302_ 124 43 (Or.inl (by decide))).trans (j6z8701_))
                have j9314_ : zC1 125 151 7 M M9301_ := (zC1_u j7z8701_ e9302_ (by decide))
                have j9315_ : zC1 126 152 7 M M9301_ := (zC1_u j8z8701_ e9302_ (by decide))
                have j9316_ : zC1 127 153 7 M M9301_ := (zC1_u j9z8701_ e9302_ (by decide))
                have j9317_ : zC1 128 154 7 M M9301_ := (zC1_u j10z8701_ e9302_ (by decide))
                have j9318_ : zC1 129 155 7 M M9301_ := (zC1_u j11z8701_ e9302_ (by decide))
                have j9319_ : zC1 131 162 7 M M9301_ := (zC1_u j12z8701_ e9302_ (by decide))
                have j9320_ : zC1 145 157 7 M M9301_ := (zC1_u j13z8701_ e9302_ (by decide))
                have j9321_ : zC1 130 156 (Int32.toNatClampNeg (i1z8701_ + 1)) M M9301_ := (zC1_n (znp1 b9299_ (by decide) (by decide)) (zC1_w j14z8701_ e9302_ (fz8701_ 156 (Int32.toNatClampNeg i1z8701_) rfl)))
                have j9322_ : M9301_.1 124 37 = (M.1 124 55) := ((pvu_n e9302_ 124 37 (Or.inl (by decide))).trans (j15z8701_))
                have j9323_ : M9301_.1 124 1 = (M.1 124 49) := ((pvu_n e9302_ 124 1 (Or.inl (by decide))).trans (j16z8701_))
                have j9324_ : M9301_.1 124 5 = (M.1 124 53) := ((pvu_n e9302_ 124 5 (Or.inl (by decide))).trans (j17z8701_))
                have j9325_ : M9301_.1 124 6 = (M.1 124 54) := ((pvu_n e9302_ 124 6 (Or.inl (by decide))).trans (j18z8701_))
                have j9326_ : M9301_.1 124 15 = (M.1 124 47) := ((pvu_n e9302_ 124 15 (Or.inl (by decide))).trans (j19z8701_))
                exact ihz8701_ (i1z8701_ + 1) M9301_ o9303_ f9304_ ((pvu_n e9302_ 124 46 (Or.inl (by decide))).trans (k124_46z8701_)) (zr_wide b9305_ (by decide) (by decide)) j9307_ j9308_ j9309_ j9310_ j9311_ j9312_ j9313_ j9314_ j9315_ j9316_ j9317_ j9318_ j9319_ j9320_ j9321_ j9322_ j9323_ j9324_ j9325_ j9326_ (zhid (by have hm0 := zshow hmz8701_; have y01 : Int32.toInt (M9301_.1 124 15) = Int32.toInt (Mz8701_.1 124 15) := congrArg Int32.toInt (pvu_n e9302_ 124 15 (Or.inl (by decide))); have y11 : Int32.toInt (M9301_.1 124 3) = Int32.toInt (Mz8701_.1 124 3) := congrArg Int32.toInt (pvu_n e9302_ 124 3 (Or.inl (by decide))); omega))
          have u9327_ : Int32.toInt 0 = 0 := by decide
          have j9328_ : Int32.toInt (Mz7013_.1 124 15) = Int32.toInt (M.1 124 47) := (by omega)
          have j9329_ : Int32.toInt (Mz7013_.1 124 3) = Int32.toInt (M.1 124 51) := (by omega)
          have j9330_ : Mz7013_.1 124 0 = (M.1 124 48) := j2z7013_
          have j9331_ : Mz7013_.1 124 3 = (M.1 124 51) := j3z7013_
          have j9332_ : Mz7013_.1 124 4 = (M.1 124 52) := j4z7013_
          have j9333_ : Mz7013_.1 124 40 = (M.1 124 56) := j5z7013_
          have j9334_ : Mz7013_.1 124 43 = (M.1 124 57) := j6z7013_
          have j9335_ : zC1 125 151 7 M Mz7013_ := (zC1_n (znp0 b7017_) j7z7013_)
          have j9336_ : zC1 126 152 7 M Mz7013_ := (zC1_n (znp0 b7017_) j8z7013_)
          have j9337_ : zC1 127 153 7 M Mz7013_ := (zC1_n (znp0 b7017_) j9z7013_)
          have j9338_ : zC1 128 154 7 M Mz7013_ := (zC1_n (znp0 b7017_) j10z7013_)
          have j9339_ : zC1 129 155 7 M Mz7013_ := (zC1_n (znp0 b7017_) j11z7013_)
          have j9340_ : zC1 131 162 7 M Mz7013_ := (zC1_n (znp0 b7017_) j12z7013_)
          have j9341_ : zC1 145 157 7 M Mz7013_ := (zC1_n (znp0 b7017_) j13z7013_)
          have j9342_ : zC1 130 156 (Int32.toNatClampNeg 0) M Mz7013_ := (zC1_0 130 156 M Mz7013_)
          have j9343_ : Mz7013_.1 124 37 = (M.1 124 55) := j14z7013_
          have j9344_ : Mz7013_.1 124 1 = (M.1 124 49) := j15z7013_
          have j9345_ : Mz7013_.1 124 5 = (M.1 124 53) := j16z7013_
          have j9346_ : Mz7013_.1 124 6 = (M.1 124 54) := j17z7013_
          have j9347_ : Mz7013_.1 124 15 = (M.1 124 47) := j18z7013_
          exact hlz8701_ _ 0 Mz7013_ oz7013_ fz7013_ rfl (zr_wide (show 0 ≤ Int32.toInt 0 ∧ Int32.toInt 0 ≤ 0 from (by decide)) (by decide) (by decide)) j9328_ j9329_ j9330_ j9331_ j9332_ j9333_ j9334_ j9335_ j9336_ j9337_ j9338_ j9339_ j9340_ j9341_ j9342_ j9343_ j9344_ j9345_ j9346_ j9347_ (zhid (Nat.lt_succ_self _))
        · have b9348_ : 0 ≤ Int32.toInt i1z7013_ ∧ Int32.toInt i1z7013_ ≤ 6 := zr_nle_r 6 c7016_ h1z7013_ (show 7 ≤ Int32.toInt 7 ∧ Int32.toInt 7 ≤ 7 from (by decide)) (by decide)
          have b9349_ : 0 ≤ Int32.toInt (Mz7013_.1 151 (Int32.toNatClampNeg i1z7013_)) ∧ Int32.toInt (Mz7013_.1 151 (Int32.toNatClampNeg i1z7013_)) ≤ 6 := pvok_r oz7013_ 151 (Int32.toNatClampNeg i1z7013_) rfl
          refine pw_blkw hT 8 (pc := 118) (lo := [some (pvR 124), some (pvI i1z7013_)]) (st := []) (M := pvu Mz7013_ 125 (Int32.toNatClampNeg i1z7013_) (Mz7013_.1 151 (Int32.toNatClampNeg i1z7013_))) rfl ⟨trivial, rfl, trivial, trivial, rfl, trivial, ⟨rfl, (zr_in (n := 7) b9348_ (by decide) (by decide))⟩, ⟨rfl, (zr_in (n := 7) b9348_ (by decide) (by decide))⟩, trivial⟩ (fun M9350_ e9351_ => ?_)
          have o9352_ : pvOk M9350_ := pvok_u2 e9351_ oz7013_ rfl b9349_
          have f9353_ : pvFr fp_eX10_undo_124 M M9350_ := pvfr_u e9351_ fz7013_ rfl
          have b9354_ : 0 ≤ Int32.toInt (M9350_.1 152 (Int32.toNatClampNeg i1z7013_)) ∧ Int32.toInt (M9350_.1 152 (Int32.toNatClampNeg i1z7013_)) ≤ 9 := pvok_r o9352_ 152 (Int32.toNatClampNeg i1z7013_) rfl
          refine pw_blkw hT 8 (pc := 130) (lo := [some (pvR 124), some (pvI i1z7013_)]) (st := []) (M := pvu M9350_ 126 (Int32.toNatClampNeg i1z7013_) (M9350_.1 152 (Int32.toNatClampNeg i1z7013_))) rfl ⟨trivial, rfl, trivial, trivial, rfl, trivial, ⟨rfl, (zr_in (n := 7) b9348_ (by decide) (by decide))⟩, ⟨rfl, (zr_in (n := 7) b9348_ (by decide) (by decide))⟩, trivial⟩ (fun M9355_ e9356_ => ?_)
          have o9357_ : pvOk M9355_ := pvok_u2 e9356_ o9352_ rfl b9354_
          have f9358_ : pvFr fp_eX10_undo_124 M M9355_ := pvfr_u e9356_ f9353_ rfl
          have b9359_ : 0 ≤ Int32.toInt (M9355_.1 153 (Int32.toNatClampNeg i1z7013_)) ∧ Int32.toInt (M9355_.1 153 (Int32.toNatClampNeg i1z7013_)) ≤ 3 := pvok_r o9357_ 153 (Int32.toNatClampNeg i1z7013_) rfl
          refine pw_blkw hT 8 (pc := 142) (lo := [some (pvR 124), some (pvI i1z7013_)]) (st := []) (M := pvu M9355_ 127 (Int32.toNatClampNeg i1z7013_) (M9355_.1 153 (Int32.toNatClampNeg i1z7013_))) rfl ⟨trivial, rfl, trivial, trivial, rfl, trivial, ⟨rfl, (zr_in (n := 7) b9348_ (by decide) (by decide))⟩, ⟨rfl, (zr_in (n := 7) b9348_ (by decide) (by decide))⟩, trivial⟩ (fun M9360_ e9361_ => ?_)
          have o9362_ : pvOk M9360_ := pvok_u2 e9361_ o9357_ rfl b9359_
          have f9363_ : pvFr fp_eX10_undo_124 M M9360_ := pvfr_u e9361_ f9358_ rfl
          have b9364_ : 0 ≤ Int32.toInt (M9360_.1 154 (Int32.toNatClampNeg i1z7013_)) ∧ Int32.toInt (M9360_.1 154 (Int32.toNatClampNeg i1z7013_)) ≤ 4 := pvok_r o9362_ 154 (Int32.toNatClampNeg i1z7013_) rfl
          refine pw_blkw hT 8 (pc := 154) (lo := [some (pvR 124), some (pvI i1z7013_)]) (st := []) (M := pvu M9360_ 128 (Int32.toNatClampNeg i1z7013_) (M9360_.1 154 (Int32.toNatClampNeg i1z7013_))) rfl ⟨trivial, rfl, trivial, trivial, rfl, trivial, ⟨rfl, (zr_in (n := 7) b9348_ (by decide) (by decide))⟩, ⟨rfl, (zr_in (n := 7) b9348_ (by decide) (by decide))⟩, trivial⟩ (fun M9365_ e9366_ => ?_)
          have o9367_ : pvOk M9365_ := pvok_u2 e9366_ o9362_ rfl b9364_
          have f9368_ : pvFr fp_eX10_undo_124 M M9365_ := pvfr_u e9366_ f9363_ rfl
          have b9369_ : 0 ≤ Int32.toInt (M9365_.1 155 (Int32.toNatClampNeg i1z7013_)) ∧ Int32.toInt (M9365_.1 155 (Int32.toNatClampNeg i1z7013_)) ≤ 9 := pvok_r o9367_ 155 (Int32.toNatClampNeg i1z7013_) rfl
          refine pw_blkw hT 8 (pc := 166) (lo := [some (pvR 124), some (pvI i1z7013_)]) (st := []) (M := pvu M9365_ 129 (Int32.toNatClampNeg i1z7013_) (M9365_.1 155 (Int32.toNatClampNeg i1z7013_))) rfl ⟨trivial, rfl, trivial, trivial, rfl, trivial, ⟨rfl, (zr_in (n := 7) b9348_ (by decide) (by decide))⟩, ⟨rfl, (zr_in (n := 7) b9348_ (by decide) (by decide))⟩, trivial⟩ (fun M9370_ e9371_ => ?_)
          have o9372_ : pvOk M9370_ := pvok_u2 e9371_ o9367_ rfl b9369_
          have f9373_ : pvFr fp_eX10_undo_124 M M9370_ := pvfr_u e9371_ f9368_ rfl
          have b9374_ : 0 ≤ Int32.toInt (M9370_.1 162 (Int32.toNatClampNeg i1z7013_)) ∧ Int32.toInt (M9370_.1 162 (Int32.toNatClampNeg i1z7013_)) ≤ 1 := pvok_r o9372_ 162 (Int32.toNatClampNeg i1z7013_) rfl
          refine pw_blkw hT 8 (pc := 178) (lo := [some (pvR 124), some (pvI i1z7013_)]) (st := []) (M := pvu M9370_ 131 (Int32.toNatClampNeg i1z7013_) (vp_nar .boolean (M9370_.1 162 (Int32.toNatClampNeg i1z7013_)))) rfl ⟨trivial, rfl, trivial, trivial, rfl, trivial, ⟨rfl, (zr_in (n := 7) b9348_ (by decide) (by decide))⟩, ⟨rfl, (zr_in (n := 7) b9348_ (by decide) (by decide))⟩, trivial⟩ (fun M9375_ e9376_ => ?_)
          have o9377_ : pvOk M9375_ := pvok_u2 e9376_ o9372_ rfl (zboolr (M9370_.1 162 (Int32.toNatClampNeg i1z7013_)))
          have f9378_ : pvFr fp_eX10_undo_124 M M9375_ := pvfr_u e9376_ f9373_ rfl
          have b9379_ : 0 ≤ Int32.toInt (M9375_.1 157 (Int32.toNatClampNeg i1z7013_)) ∧ Int32.toInt (M9375_.1 157 (Int32.toNatClampNeg i1z7013_)) ≤ 6 := pvok_r o9377_ 157 (Int32.toNatClampNeg i1z7013_) rfl
          refine pw_blkw hT 8 (pc := 190) (lo := [some (pvR 124), some (pvI i1z7013_)]) (st := []) (M := pvu M9375_ 145 (Int32.toNatClampNeg i1z7013_) (M9375_.1 157 (Int32.toNatClampNeg i1z7013_))) rfl ⟨trivial, rfl, trivial, trivial, rfl, trivial, ⟨rfl, (zr_in (n := 7) b9348_ (by decide) (by decide))⟩, ⟨rfl, (zr_in (n := 7) b9348_ (by decide) (by decide))⟩, trivial⟩ (fun M9380_ e9381_ => ?_)
          have o9382_ : pvOk M9380_ := pvok_u2 e9381_ o9377_ rfl b9379_
          have f9383_ : pvFr fp_eX10_undo_124 M M9380_ := pvfr_u e9381_ f9378_ rfl
          obtain ⟨q9385_, b9384_⟩ : (Int32.toInt (i1z7013_ + 1) = Int32.toInt i1z7013_ + 1) ∧ (1 ≤ Int32.toInt (i1z7013_ + 1) ∧ Int32.toInt (i1z7013_ + 1) ≤ 7) := zadd_k i1z7013_ 1 1 1 7 b9348_ (by decide) (by decide) (by decide) (by decide) (by decide)
          refine pw_blk hT 2 (S' := (100, [some (pvR 124), some (pvI (i1z7013_ + 1))], [], M9380_)) rfl ⟨trivial, trivial, trivial⟩ ?_
          have j9386_ : Int32.toInt (M9380_.1 124 15) = Int32.toInt (M.1 124 47) := (by have y01 : Int32.toInt (M9380_.1 124 15) = Int32.toInt (Mz7013_.1 124 15) := congrArg Int32.toInt (((((((pvu_n e9381_ 124 15 (Or.inl (by decide))).trans (pvu_n e9376_ 124 15 (Or.inl (by decide)))).trans (pvu_n e9371_ 124 15 (Or.inl (by decide)))).trans (pvu_n e9366_ 124 15 (Or.inl (by decide)))).trans (pvu_n e9361_ 124 15 (Or.inl (by decide)))).trans (pvu_n e9356_ 124 15 (Or.inl (by decide)))).trans (pvu_n e9351_ 124 15 (Or.inl (by decide)))); omega)
          have j9387_ : Int32.toInt (M9380_.1 124 3) = Int32.toInt (M.1 124 51) := (by have y01 : Int32.toInt (M9380_.1 124 3) = Int32.toInt (Mz7013_.1 124 3) := congrArg Int32.toInt (((((((pvu_n e9381_ 124 3 (Or.inl (by decide))).trans (pvu_n e9376_ 124 3 (Or.inl (by decide)))).trans (pvu_n e9371_ 124 3 (Or.inl (by decide)))).trans (pvu_n e9366_ 124 3 (Or.inl (by decide)))).trans (pvu_n e9361_ 124 3 (Or.inl (by decide)))).trans (pvu_n e9356_ 124 3 (Or.inl (by decide)))).trans (pvu_n e9351_ 124 3 (Or.inl (by decide)))); omega)
          have j9388_ : M9380_.1 124 0 = (M.1 124 48) := ((((((((pvu_n e9381_ 124 0 (Or.inl (by decide))).trans (pvu_n e9376_ 124 0 (Or.inl (by decide)))).trans (pvu_n e9371_ 124 0 (Or.inl (by decide)))).trans (pvu_n e9366_ 124 0 (Or.inl (by decide)))).trans (pvu_n e9361_ 124 0 (Or.inl (by decide)))).trans (pvu_n e9356_ 124 0 (Or.inl (by decide)))).trans (pvu_n e9351_ 124 0 (Or.inl (by decide)))).trans (j2z7013_))
          have j9389_ : M9380_.1 124 3 = (M.1 124 51) := ((((((((pvu_n e9381_ 124 3 (Or.inl (by decide))).trans (pvu_n e9376_ 124 3 (Or.inl (by decide)))).trans (pvu_n e9371_ 124 3 (Or.inl (by decide)))).trans (pvu_n e9366_ 124 3 (Or.inl (by decide)))).trans (pvu_n e9361_ 124 3 (Or.inl (by decide)))).trans (pvu_n e9356_ 124 3 (Or.inl (by decide)))).trans (pvu_n e9351_ 124 3 (Or.inl (by decide)))).trans (j3z7013_))
          have j9390_ : M9380_.1 124 4 = (M.1 124 52) := ((((((((pvu_n e9381_ 124 4 (Or.inl (by decide))).trans (pvu_n e9376_ 124 4 (Or.inl (by decide)))).trans (pvu_n e9371_ 124 4 (Or.inl (by decide)))).trans (pvu_n e9366_ 124 4 (Or.inl (by decide)))).trans (pvu_n e9361_ 124 4 (Or.inl (by decide)))).trans (pvu_n e9356_ 124 4 (Or.inl (by decide)))).trans (pvu_n e9351_ 124 4 (Or.inl (by decide)))).trans (j4z7013_))
          have j9391_ : M9380_.1 124 40 = (M.1 124 56) := ((((((((pvu_n e9381_ 124 40 (Or.inl (by decide))).trans (pvu_n e9376_ 124 40 (Or.inl (by decide)))).trans (pvu_n e9371_ 124 40 (Or.inl (by decide)))).trans (pvu_n e9366_ 124 40 (Or.inl (by decide)))).trans (pvu_n e9361_ 124 40 (Or.inl (by decide)))).trans (pvu_n e9356_ 124 40 (Or.inl (by decide)))).trans (pvu_n e9351_ 124 40 (Or.inl (by decide)))).trans (j5z7013_))
          have j9392_ : M9380_.1 124 43 = (M.1 124 57) := ((((((((pvu_n e9381_ 124 43 (Or.inl (by decide))).trans (pvu_n e9376_ 124 43 (Or.inl (by decide)))).trans (pvu_n e9371_ 124 43 (Or.inl (by decide)))).trans (pvu_n e9366_ 124 43 (Or.inl (by decide)))).trans (pvu_n e9361_ 124 43 (Or.inl (by decide)))).trans (pvu_n e9356_ 124 43 (Or.inl (by decide)))).trans (pvu_n e9351_ 124 43 (Or.inl (by decide)))).trans (j6z7013_))
          have j9393_ : zC1 125 151 (Int32.toNatClampNeg (i1z7013_ + 1)) M M9380_ := (zC1_n (znp1 b9348_ (by decide) (by decide)) (zC1_u (zC1_u (zC1_u (zC1_u (zC1_u (zC1_u (zC1_w j7z7013_ e9351_ (fz7013_ 151 (Int32.toNatClampNeg i1z7013_) rfl)) e9356_ (by decide)) e9361_ (by decide)) e9366_ (by decide)) e9371_ (by decide)) e9376_ (by decide)) e9381_ (by decide)))
          have j9394_ : zC1 126 152 (Int32.toNatClampNeg (i1z7013_ + 1)) M M9380_ := (zC1_n (znp1 b9348_ (by decide) (by decide)) (zC1_u (zC1_u (zC1_u (zC1_u (zC1_u (zC1_w (zC1_u j8z7013_ e9351_ (by decide)) e9356_ ((pvu_n e9351_ 152 (Int32.toNatClampNeg i1z7013_) (Or.inl (by decide))).trans (fz7013_ 152 (Int32.toNatClampNeg i1z7013_) rfl))) e9361_ (by decide)) e9366_ (by decide)) e9371_ (by decide)) e9376_ (by decide)) e9381_ (by decide)))
          have j9395_ : zC1 127 153 (Int32.toNatClampNeg (i1z7013_ + 1)) M M9380_ := (zC1_n (znp1 b9348_ (by decide) (by decide)) (zC1_u (zC1_u (zC1_u (zC1_u (zC1_w (zC1_u (zC1_u j9z7013_ e9351_ (by decide)) e9356_ (by decide)) e9361_ (((pvu_n e9356_ 153 (Int32.toNatClampNeg i1z7013_) (Or.inl (by decide))).trans (pvu_n e9351_ 153 (Int32.toNatClampNeg i1z7013_) (Or.inl (by decide)))).trans (fz7013_ 153 (Int32.toNatClampNeg i1z7013_) rfl))) e9366_ (by decide)) e9371_ (by decide)) e9376_ (by decide)) e9381_ (by decide)))
          have j9396_ : zC1 128 154 (Int32.toNatClampNeg (i1z7013_ + 1)) M M9380_ := (zC1_n (znp1 b9348_ (by decide) (by decide)) (zC1_u (zC1_u (zC1_u (zC1_w (zC1_u (zC1_u (zC1_u j10z7013_ e9351_ (by decide)) e9356_ (by decide)) e9361_ (by decide)) e9366_ ((((pvu_n e9361_ 154 (Int32.toNatClampNeg i1z7013_) (Or.inl (by decide))).trans (pvu_n e9356_ 154 (Int32.toNatClampNeg i1z7013_) (Or.inl (by decide)))).trans (pvu_n e9351_ 154 (Int32.toNatClampNeg i1z7013_) (Or.inl (by decide)))).trans (fz7013_ 154 (Int32.toNatClampNeg i1z7013_) rfl))) e9371_ (by decide)) e9376_ (by decide)) e9381_ (by decide)))
          have j9397_ : zC1 129 155 (Int32.toNatClampNeg (i1z7013_ + 1)) M M9380_ := (zC1_n (znp1 b9348_ (by decide) (by decide)) (zC1_u (zC1_u (zC1_w (zC1_u (zC1_u (zC1_u (zC1_u j11z7013_ e9351_ (by decide)) e9356_ (by decide)) e9361_ (by decide)) e9366_ (by decide)) e9371_ (((((pvu_n e9366_ 155 (Int32.toNatClampNeg i1z7013_) (Or.inl (by decide))).trans (pvu_n e9361_ 155 (Int32.toNatClampNeg i1z7013_) (Or.inl (by decide)))).trans (pvu_n e9356_ 155 (Int32.toNatClampNeg i1z7013_) (Or.inl (by decide)))).trans (pvu_n e9351_ 155 (Int32.toNatClampNeg i1z7013_) (Or.inl (by decide)))).trans (fz7013_ 155 (Int32.toNatClampNeg i1z7013_) rfl))) e9376_ (by decide)) e9381_ (by decide)))
          have j9398_ : zC1 131 162 (Int32.toNatClampNeg (i1z7013_ + 1)) M M9380_ := (zC1_n (znp1 b9348_ (by decide) (by decide)) (zC1_u (zC1_w (zC1_u (zC1_u (zC1_u (zC1_u (zC1_u j12z7013_ e9351_ (by decide)) e9356_ (by decide)) e9361_ (by decide)) e9366_ (by decide)) e9371_ (by decide)) e9376_ ((zvnar b9374_).trans ((((((pvu_n e9371_ 162 (Int32.toNatClampNeg i1z7013_) (Or.inl (by decide))).trans (pvu_n e9366_ 162 (Int32.toNatClampNeg i1z7013_) (Or.inl (by decide)))).trans (pvu_n e9361_ 162 (Int32.toNatClampNeg i1z7013_) (Or.inl (by decide)))).trans (pvu_n e9356_ 162 (Int32.toNatClampNeg i1z7013_) (Or.inl (by decide)))).trans (pvu_n e9351_ 162 (Int32.toNatClampNeg i1z7013_) (Or.inl (by decide)))).trans (fz7013_ 162 (Int32.toNatClampNeg i1z7013_) rfl)))) e9381_ (by decide)))
          have j9399_ : zC1 145 157 (Int32.toNatClampNeg (i1z7013_ + 1)) M M9380_ := (zC1_n (znp1 b9348_ (by decide) (by decide)) (zC1_w (zC1_u (zC1_u (zC1_u (zC1_u (zC1_u (zC1_u j13z7013_ e9351_ (by decide)) e9356_ (by decide)) e9361_ (by decide)) e9366_ (by decide)) e9371_ (by decide)) e9376_ (by decide)) e9381_ (((((((pvu_n e9376_ 157 (Int32.toNatClampNeg i1z7013_) (Or.inl (by decide))).trans (pvu_n e9371_ 157 (Int32.toNatClampNeg i1z7013_) (Or.inl (by decide)))).trans (pvu_n e9366_ 157 (Int32.toNatClampNeg i1z7013_) (Or.inl (by decide)))).trans (pvu_n e9361_ 157 (Int32.toNatClampNeg i1z7013_) (Or.inl (by decide)))).trans (pvu_n e9356_ 157 (Int32.toNatClampNeg i1z7013_) (Or.inl (by decide)))).trans (pvu_n e9351_ 157 (Int32.toNatClampNeg i1z7013_) (Or.inl (by decide)))).trans (fz7013_ 157 (Int32.toNatClampNeg i1z7013_) rfl))))
          have j9400_ : M9380_.1 124 37 = (M.1 124 55) := ((((((((pvu_n e9381_ 124 37 (Or.inl (by decide))).trans (pvu_n e9376_ 124 37 (Or.inl (by decide)))).trans (pvu_n e9371_ 124 37 (Or.inl (by decide)))).trans (pvu_n e9366_ 124 37 (Or.inl (by decide)))).trans (pvu_n e9361_ 124 37 (Or.inl (by decide)))).trans (pvu_n e9356_ 124 37 (Or.inl (by decide)))).trans (pvu_n e9351_ 124 37 (Or.inl (by decide)))).trans (j14z7013_))
          have j9401_ : M9380_.1 124 1 = (M.1 124 49) := ((((((((pvu_n e9381_ 124 1 (Or.inl (by decide))).trans (pvu_n e9376_ 124 1 (Or.inl (by decide)))).trans (pvu_n e9371_ 124 1 (Or.inl (by decide)))).trans (pvu_n e9366_ 124 1 (Or.inl (by decide)))).trans (pvu_n e9361_ 124 1 (Or.inl (by decide)))).trans (pvu_n e9356_ 124 1 (Or.inl (by decide)))).trans (pvu_n e9351_ 124 1 (Or.inl (by decide)))).trans (j15z7013_))
          have j9402_ : M9380_.1 124 5 = (M.1 124 53) := ((((((((pvu_n e9381_ 124 5 (Or.inl (by decide))).trans (pvu_n e9376_ 124 5 (Or.inl (by decide)))).trans (pvu_n e9371_ 124 5 (Or.inl (by decide)))).trans (pvu_n e9366_ 124 5 (Or.inl (by decide)))).trans (pvu_n e9361_ 124 5 (Or.inl (by decide)))).trans (pvu_n e9356_ 124 5 (Or.inl (by decide)))).trans (pvu_n e9351_ 124 5 (Or.inl (by decide)))).trans (j16z7013_))
          have j9403_ : M9380_.1 124 6 = (M.1 124 54) := ((((((((pvu_n e9381_ 124 6 (Or.inl (by decide))).trans (pvu_n e9376_ 124 6 (Or.inl (by decide)))).trans (pvu_n e9371_ 124 6 (Or.inl (by decide)))).trans (pvu_n e9366_ 124 6 (Or.inl (by decide)))).trans (pvu_n e9361_ 124 6 (Or.inl (by decide)))).trans (pvu_n e9356_ 124 6 (Or.inl (by decide)))).trans (pvu_n e9351_ 124 6 (Or.inl (by decide)))).trans (j17z7013_))
          have j9404_ : M9380_.1 124 15 = (M.1 124 47) := ((((((((pvu_n e9381_ 124 15 (Or.inl (by decide))).trans (pvu_n e9376_ 124 15 (Or.inl (by decide)))).trans (pvu_n e9371_ 124 15 (Or.inl (by decide)))).trans (pvu_n e9366_ 124 15 (Or.inl (by decide)))).trans (pvu_n e9361_ 124 15 (Or.inl (by decide)))).trans (pvu_n e9356_ 124 15 (Or.inl (by decide)))).trans (pvu_n e9351_ 124 15 (Or.inl (by decide)))).trans (j18z7013_))
          exact ihz7013_ (i1z7013_ + 1) M9380_ o9382_ f9383_ ((((((((pvu_n e9381_ 124 46 (Or.inl (by decide))).trans (pvu_n e9376_ 124 46 (Or.inl (by decide)))).trans (pvu_n e9371_ 124 46 (Or.inl (by decide)))).trans (pvu_n e9366_ 124 46 (Or.inl (by decide)))).trans (pvu_n e9361_ 124 46 (Or.inl (by decide)))).trans (pvu_n e9356_ 124 46 (Or.inl (by decide)))).trans (pvu_n e9351_ 124 46 (Or.inl (by decide)))).trans (k124_46z7013_)) (zr_wide b9384_ (by decide) (by decide)) j9386_ j9387_ j9388_ j9389_ j9390_ j9391_ j9392_ j9393_ j9394_ j9395_ j9396_ j9397_ j9398_ j9399_ j9400_ j9401_ j9402_ j9403_ j9404_ (zhid (by have hm0 := zshow hmz7013_; have y01 : Int32.toInt (M9380_.1 124 15) = Int32.toInt (Mz7013_.1 124 15) := congrArg Int32.toInt (((((((pvu_n e9381_ 124 15 (Or.inl (by decide))).trans (pvu_n e9376_ 124 15 (Or.inl (by decide)))).trans (pvu_n e9371_ 124 15 (Or.inl (by decide)))).trans (pvu_n e9366_ 124 15 (Or.inl (by decide)))).trans (pvu_n e9361_ 124 15 (Or.inl (by decide)))).trans (pvu_n e9356_ 124 15 (Or.inl (by decide)))).trans (pvu_n e9351_ 124 15 (Or.inl (by decide)))); have y11 : Int32.toInt (M9380_.1 124 3) = Int32.toInt (Mz7013_.1 124 3) := congrArg Int32.toInt (((((((pvu_n e9381_ 124 3 (Or.inl (by decide))).trans (pvu_n e9376_ 124 3 (Or.inl (by decide)))).trans (pvu_n e9371_ 124 3 (Or.inl (by decide)))).trans (pvu_n e9366_ 124 3 (Or.inl (by decide)))).trans (pvu_n e9361_ 124 3 (Or.inl (by decide)))).trans (pvu_n e9356_ 124 3 (Or.inl (by decide)))).trans (pvu_n e9351_ 124 3 (Or.inl (by decide)))); omega))
    have u9405_ : Int32.toInt 0 = 0 := by decide
    have j9406_ : Int32.toInt (M55_.1 124 15) = Int32.toInt (M.1 124 47) := (by have z1 : Int32.toInt (M55_.1 124 15) = Int32.toInt (M.1 124 47) := congrArg Int32.toInt (((((((((((pvu_n e56_ 124 15 (Or.inr (by decide))).trans (pvu_n e51_ 124 15 (Or.inr (by decide)))).trans (pvu_n e46_ 124 15 (Or.inr (by decide)))).trans (pvu_n e41_ 124 15 (Or.inr (by decide)))).trans (pvu_n e36_ 124 15 (Or.inr (by decide)))).trans (pvu_n e31_ 124 15 (Or.inr (by decide)))).trans (pvu_n e26_ 124 15 (Or.inr (by decide)))).trans (pvu_n e21_ 124 15 (Or.inr (by decide)))).trans (pvu_n e16_ 124 15 (Or.inr (by decide)))).trans (pvu_n e11_ 124 15 (Or.inr (by decide)))).trans (pvu_s e6_)); omega)
    have j9407_ : Int32.toInt (M55_.1 124 3) = Int32.toInt (M.1 124 51) := (by have z1 : Int32.toInt (M55_.1 124 3) = Int32.toInt (M20_.1 124 51) := congrArg Int32.toInt (((((((pvu_n e56_ 124 3 (Or.inr (by decide))).trans (pvu_n e51_ 124 3 (Or.inr (by decide)))).trans (pvu_n e46_ 124 3 (Or.inr (by decide)))).trans (pvu_n e41_ 124 3 (Or.inr (by decide)))).trans (pvu_n e36_ 124 3 (Or.inr (by decide)))).trans (pvu_n e31_ 124 3 (Or.inr (by decide)))).trans (pvu_s e26_)); have z2 : Int32.toInt (M20_.1 124 51) = Int32.toInt (M.1 124 51) := congrArg Int32.toInt ((((pvu_n e21_ 124 51 (Or.inr (by decide))).trans (pvu_n e16_ 124 51 (Or.inr (by decide)))).trans (pvu_n e11_ 124 51 (Or.inr (by decide)))).trans (pvu_n e6_ 124 51 (Or.inr (by decide)))); omega)
    have j9408_ : M55_.1 124 0 = (M.1 124 48) := (((((((((((pvu_n e56_ 124 0 (Or.inr (by decide))).trans (pvu_n e51_ 124 0 (Or.inr (by decide)))).trans (pvu_n e46_ 124 0 (Or.inr (by decide)))).trans (pvu_n e41_ 124 0 (Or.inr (by decide)))).trans (pvu_n e36_ 124 0 (Or.inr (by decide)))).trans (pvu_n e31_ 124 0 (Or.inr (by decide)))).trans (pvu_n e26_ 124 0 (Or.inr (by decide)))).trans (pvu_n e21_ 124 0 (Or.inr (by decide)))).trans (pvu_n e16_ 124 0 (Or.inr (by decide)))).trans (pvu_s e11_)).trans (pvu_n e6_ 124 48 (Or.inr (by decide))))
    have j9409_ : M55_.1 124 3 = (M.1 124 51) := ((((((((pvu_n e56_ 124 3 (Or.inr (by decide))).trans (pvu_n e51_ 124 3 (Or.inr (by decide)))).trans (pvu_n e46_ 124 3 (Or.inr (by decide)))).trans (pvu_n e41_ 124 3 (Or.inr (by decide)))).trans (pvu_n e36_ 124 3 (Or.inr (by decide)))).trans (pvu_n e31_ 124 3 (Or.inr (by decide)))).trans (pvu_s e26_)).trans ((((pvu_n e21_ 124 51 (Or.inr (by decide))).trans (pvu_n e16_ 124 51 (Or.inr (by decide)))).trans (pvu_n e11_ 124 51 (Or.inr (by decide)))).trans (pvu_n e6_ 124 51 (Or.inr (by decide)))))
    have j9410_ : M55_.1 124 4 = (M.1 124 52) := (((((((pvu_n e56_ 124 4 (Or.inr (by decide))).trans (pvu_n e51_ 124 4 (Or.inr (by decide)))).trans (pvu_n e46_ 124 4 (Or.inr (by decide)))).trans (pvu_n e41_ 124 4 (Or.inr (by decide)))).trans (pvu_n e36_ 124 4 (Or.inr (by decide)))).trans (pvu_s e31_)).trans (((((pvu_n e26_ 124 52 (Or.inr (by decide))).trans (pvu_n e21_ 124 52 (Or.inr (by decide)))).trans (pvu_n e16_ 124 52 (Or.inr (by decide)))).trans (pvu_n e11_ 124 52 (Or.inr (by decide)))).trans (pvu_n e6_ 124 52 (Or.inr (by decide)))))
    have j9411_ : M55_.1 124 40 = (M.1 124 56) := (((pvu_n e56_ 124 40 (Or.inr (by decide))).trans (pvu_s e51_)).trans (((((((((pvu_n e46_ 124 56 (Or.inr (by decide))).trans (pvu_n e41_ 124 56 (Or.inr (by decide)))).trans (pvu_n e36_ 124 56 (Or.inr (by decide)))).trans (pvu_n e31_ 124 56 (Or.inr (by decide)))).trans (pvu_n e26_ 124 56 (Or.inr (by decide)))).trans (pvu_n e21_ 124 56 (Or.inr (by decide)))).trans (pvu_n e16_ 124 56 (Or.inr (by decide)))).trans (pvu_n e11_ 124 56 (Or.inr (by decide)))).trans (pvu_n e6_ 124 56 (Or.inr (by decide)))))
    have j9412_ : M55_.1 124 43 = (M.1 124 57) := ((pvu_s e56_).trans ((((((((((pvu_n e51_ 124 57 (Or.inr (by decide))).trans (pvu_n e46_ 124 57 (Or.inr (by decide)))).trans (pvu_n e41_ 124 57 (Or.inr (by decide)))).trans (pvu_n e36_ 124 57 (Or.inr (by decide)))).trans (pvu_n e31_ 124 57 (Or.inr (by decide)))).trans (pvu_n e26_ 124 57 (Or.inr (by decide)))).trans (pvu_n e21_ 124 57 (Or.inr (by decide)))).trans (pvu_n e16_ 124 57 (Or.inr (by decide)))).trans (pvu_n e11_ 124 57 (Or.inr (by decide)))).trans (pvu_n e6_ 124 57 (Or.inr (by decide)))))
    have j9413_ : zC1 125 151 (Int32.toNatClampNeg 0) M M55_ := (zC1_0 125 151 M M55_)
    have j9414_ : zC1 126 152 (Int32.toNatClampNeg 0) M M55_ := (zC1_0 126 152 M M55_)
    have j9415_ : zC1 127 153 (Int32.toNatClampNeg 0) M M55_ := (zC1_0 127 153 M M55_)
    have j9416_ : zC1 128 154 (Int32.toNatClampNeg 0) M M55_ := (zC1_0 128 154 M M55_)
    have j9417_ : zC1 129 155 (Int32.toNatClampNeg 0) M M55_ := (zC1_0 129 155 M M55_)
    have j9418_ : zC1 131 162 (Int32.toNatClampNeg 0) M M55_ := (zC1_0 131 162 M M55_)
    have j9419_ : zC1 145 157 (Int32.toNatClampNeg 0) M M55_ := (zC1_0 145 157 M M55_)
    have j9420_ : M55_.1 124 37 = (M.1 124 55) := ((((pvu_n e56_ 124 37 (Or.inr (by decide))).trans (pvu_n e51_ 124 37 (Or.inr (by decide)))).trans (pvu_s e46_)).trans ((((((((pvu_n e41_ 124 55 (Or.inr (by decide))).trans (pvu_n e36_ 124 55 (Or.inr (by decide)))).trans (pvu_n e31_ 124 55 (Or.inr (by decide)))).trans (pvu_n e26_ 124 55 (Or.inr (by decide)))).trans (pvu_n e21_ 124 55 (Or.inr (by decide)))).trans (pvu_n e16_ 124 55 (Or.inr (by decide)))).trans (pvu_n e11_ 124 55 (Or.inr (by decide)))).trans (pvu_n e6_ 124 55 (Or.inr (by decide)))))
    have j9421_ : M55_.1 124 1 = (M.1 124 49) := ((((((((((pvu_n e56_ 124 1 (Or.inr (by decide))).trans (pvu_n e51_ 124 1 (Or.inr (by decide)))).trans (pvu_n e46_ 124 1 (Or.inr (by decide)))).trans (pvu_n e41_ 124 1 (Or.inr (by decide)))).trans (pvu_n e36_ 124 1 (Or.inr (by decide)))).trans (pvu_n e31_ 124 1 (Or.inr (by decide)))).trans (pvu_n e26_ 124 1 (Or.inr (by decide)))).trans (pvu_n e21_ 124 1 (Or.inr (by decide)))).trans (pvu_s e16_)).trans ((pvu_n e11_ 124 49 (Or.inr (by decide))).trans (pvu_n e6_ 124 49 (Or.inr (by decide)))))
    have j9422_ : M55_.1 124 5 = (M.1 124 53) := ((((((pvu_n e56_ 124 5 (Or.inr (by decide))).trans (pvu_n e51_ 124 5 (Or.inr (by decide)))).trans (pvu_n e46_ 124 5 (Or.inr (by decide)))).trans (pvu_n e41_ 124 5 (Or.inr (by decide)))).trans (pvu_s e36_)).trans ((((((pvu_n e31_ 124 53 (Or.inr (by decide))).trans (pvu_n e26_ 124 53 (Or.inr (by decide)))).trans (pvu_n e21_ 124 53 (Or.inr (by decide)))).trans (pvu_n e16_ 124 53 (Or.inr (by decide)))).trans (pvu_n e11_ 124 53 (Or.inr (by decide)))).trans (pvu_n e6_ 124 53 (Or.inr (by decide)))))
    have j9423_ : M55_.1 124 6 = (M.1 124 54) := (((((pvu_n e56_ 124 6 (Or.inr (by decide))).trans (pvu_n e51_ 124 6 (Or.inr (by decide)))).trans (pvu_n e46_ 124 6 (Or.inr (by decide)))).trans (pvu_s e41_)).trans (((((((pvu_n e36_ 124 54 (Or.inr (by decide))).trans (pvu_n e31_ 124 54 (Or.inr (by decide)))).trans (pvu_n e26_ 124 54 (Or.inr (by decide)))).trans (pvu_n e21_ 124 54 (Or.inr (by decide)))).trans (pvu_n e16_ 124 54 (Or.inr (by decide)))).trans (pvu_n e11_ 124 54 (Or.inr (by decide)))).trans (pvu_n e6_ 124 54 (Or.inr (by decide)))))
    have j9424_ : M55_.1 124 15 = (M.1 124 47) := (((((((((((pvu_n e56_ 124 15 (Or.inr (by decide))).trans (pvu_n e51_ 124 15 (Or.inr (by decide)))).trans (pvu_n e46_ 124 15 (Or.inr (by decide)))).trans (pvu_n e41_ 124 15 (Or.inr (by decide)))).trans (pvu_n e36_ 124 15 (Or.inr (by decide)))).trans (pvu_n e31_ 124 15 (Or.inr (by decide)))).trans (pvu_n e26_ 124 15 (Or.inr (by decide)))).trans (pvu_n e21_ 124 15 (Or.inr (by decide)))).trans (pvu_n e16_ 124 15 (Or.inr (by decide)))).trans (pvu_n e11_ 124 15 (Or.inr (by decide)))).trans (pvu_s e6_))
    exact hlz7013_ _ 0 M55_ o57_ f58_ rfl (zr_wide (show 0 ≤ Int32.toInt 0 ∧ Int32.toInt 0 ≤ 0 from (by decide)) (by decide) (by decide)) j9406_ j9407_ j9408_ j9409_ j9410_ j9411_ j9412_ j9413_ j9414_ j9415_ j9416_ j9417_ j9418_ j9419_ j9420_ j9421_ j9422_ j9423_ j9424_ (zhid (Nat.lt_succ_self _))
  · have b9425_ : 0 ≤ Int32.toInt (M.1 124 46) ∧ Int32.toInt (M.1 124 46) ≤ 0 := (by have u0 := b1_; have u1 := (zi_eq _ _).mp c2_; have u2 := (show 0 ≤ Int32.toInt 0 ∧ Int32.toInt 0 ≤ 0 from (by decide)); omega)
    refine pw_blk hT 1 (S' := (9, [some (pvR 124), none], [pvI (-3)], M)) rfl ⟨trivial, trivial⟩ ?_
    exact pw_ret hT rfl (r := some (pvI (-3))) (M' := M) ⟨rfl, rfl⟩ ⟨⟨_, rfl, (zr_wide (show (-3) ≤ Int32.toInt (-3) ∧ Int32.toInt (-3) ≤ (-3) from (by decide)) (by decide) (by decide)), (by rw [if_pos c2_]; first | done | (rw [if_pos c2_]; done))⟩, hok, pvfr_0, ⟨fun hz => ⟨by have z3 := hz.1; have z4 := hz.2.1; omega, by have z3 := hz.1; have z4 := hz.2.1; omega, fun a ha => pvWh_r rfl rfl rfl rfl rfl (hz.2.2 a (by omega))⟩, fun hc hc2 => by omega⟩, (Or.inl ⟨c2_, zKm_r 125 130 M⟩), (Or.inl ⟨c2_, fun _ => rfl⟩), (Or.inl ⟨c2_, fun _ => rfl⟩), (Or.inl ⟨c2_, fun _ => rfl⟩), (Or.inl ⟨c2_, fun _ => rfl⟩), (Or.inl ⟨c2_, fun _ => rfl⟩), (Or.inl ⟨c2_, fun _ _ => rfl⟩), (Or.inl ⟨c2_, zKh0_r M⟩), (by rw [if_pos c2_]; first | done | exact rfl | (rw [if_pos c2_]; done) | (rw [if_pos c2_]; exact rfl)), (by rw [if_pos c2_]; first | done | exact rfl | (rw [if_pos c2_]; done) | (rw [if_pos c2_]; exact rfl)), (by rw [if_pos c2_]; first | done | exact rfl | (rw [if_pos c2_]; done) | (rw [if_pos c2_]; exact rfl)), (by rw [if_pos c2_]; first | done | exact rfl | (rw [if_pos c2_]; done) | (rw [if_pos c2_]; exact rfl)), (by rw [if_pos c2_]; first | done | exact rfl | (rw [if_pos c2_]; done) | (rw [if_pos c2_]; exact rfl)), (by rw [if_pos c2_]; first | done | exact rfl | (rw [if_pos c2_]; done) | (rw [if_pos c2_]; exact rfl))⟩
