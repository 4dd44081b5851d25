def fpL_eX10_sides_124_x : List (Nat × Nat × Nat) := [(0, 124, 33), (0, 124, 5), (0, 141, 0), (0, 142, 0), (0, 143, 0)]
def fp_eX10_sides_124_x (q k : Nat) : Bool := pvfp fpL_eX10_sides_124_x q k
theorem fp_eX10_sides_124_x_fp_eX10_costOfNone_124 (a b : Nat) (h : fp_eX10_costOfNone_124 a b = true) : fp_eX10_sides_124_x a b = true := pvfp_sub (l1 := fpL_eX10_costOfNone_124) (l2 := fpL_eX10_sides_124_x) (by decide) a b h
theorem fp_eX10_sides_124_x_fp_eX10_layRain_124 (a b : Nat) (h : fp_eX10_layRain_124 a b = true) : fp_eX10_sides_124_x a b = true := pvfp_sub (l1 := fpL_eX10_layRain_124) (l2 := fpL_eX10_sides_124_x) (by decide) a b h
set_option maxHeartbeats 4000000 in
set_option maxRecDepth 10000 in
theorem se_X10_sides_124_x (M : pvM) (hok : pvOk M) (n1 : Int32) (hz : pvWF M) (d : Nat) : PW 77 d (0, [some (pvR 124), some (pvI n1), none, none, none, none], [], M) (fun r X => (∃ x : Int32, r = some (pvI x) ∧ (-1) ≤ Int32.toInt x ∧ Int32.toInt x ≤ 2147483647) ∧ pvOk X ∧ pvFr fp_eX10_sides_124_x M X ∧ X.1 124 4 = M.1 124 4 ∧ yA0 (yGsd n1) r M) := by
  have hT : pvdom 77 = pvD_77 := rfl
  refine pw_blk hT 4 (S' := (4, [some (pvR 124), some (pvI n1), none, none, none, none], [pvI 1, pvI 0, pvI n1, pvR 124], M)) rfl ⟨trivial, trivial, trivial, trivial, trivial⟩ ?_
  refine pw_callT hT (as := [pvR 124, pvI n1, pvI 0, pvI 1]) (lo1 := [some (pvR 124), some (pvI n1), some (pvI 0), some (pvI 1)]) (d1 := d) (rest := []) rfl rfl rfl rfl rfl (fun _ => rfl) (Nat.zero_le _) rfl rfl rfl (sf_X10_in_124_x_x_x M hok n1 0 1 d) ?_
  by_cases c6_ : n1 < 0
  · refine pw_eqI (if_pos c6_) ?_
    have b7_ : (-2147483648) ≤ Int32.toInt n1 ∧ Int32.toInt n1 ≤ (-1) := zr_lt_l (-1) c6_ (zbnd n1) (show 0 ≤ Int32.toInt 0 ∧ Int32.toInt 0 ≤ 0 from (by decide)) (by decide)
    show PW 77 d (7, [some (pvR 124), some (pvI n1), none, none, none, none], [pvI 0], M) _
    refine pw_ifn hT (c := 0 = 0) rfl rfl (fun c8_ => absurd (by decide) c8_) (fun c8_ => ?_)
    refine pw_blk hT 1 (S' := (11, [some (pvR 124), some (pvI n1), none, none, none, none], [pvI (-1)], M)) rfl ⟨trivial, trivial⟩ ?_
    exact pw_ret hT rfl (r := some (pvI (-1))) (M' := M) ⟨rfl, rfl⟩ ⟨⟨_, rfl, (zr_wide (show (-1) ≤ Int32.toInt (-1) ∧ Int32.toInt (-1) ≤ (-1) from (by decide)) (by decide) (by decide))⟩, hok, pvfr_0, rfl, (yGsd0_n (by have u := b7_; omega) (by decide))⟩
  · refine pw_eqI (if_neg c6_) ?_
    have b9_ : 0 ≤ Int32.toInt n1 ∧ Int32.toInt n1 ≤ 2147483647 := zr_nlt_l 0 c6_ (zbnd n1) (show 0 ≤ Int32.toInt 0 ∧ Int32.toInt 0 ≤ 0 from (by decide)) (by decide)
    by_cases c10_ : 1 < n1
    · refine pw_eqI (if_pos c10_) ?_
      have b11_ : 2 ≤ Int32.toInt n1 ∧ Int32.toInt n1 ≤ 2147483647 := zr_lt_r 2 c10_ b9_ (show 1 ≤ Int32.toInt 1 ∧ Int32.toInt 1 ≤ 1 from (by decide)) (by decide)
      show PW 77 d (7, [some (pvR 124), some (pvI n1), none, none, none, none], [pvI 0], M) _
      refine pw_ifn hT (c := 0 = 0) rfl rfl (fun c12_ => absurd (by decide) c12_) (fun c12_ => ?_)
      refine pw_blk hT 1 (S' := (11, [some (pvR 124), some (pvI n1), none, none, none, none], [pvI (-1)], M)) rfl ⟨trivial, trivial⟩ ?_
      exact pw_ret hT rfl (r := some (pvI (-1))) (M' := M) ⟨rfl, rfl⟩ ⟨⟨_, rfl, (zr_wide (show (-1) ≤ Int32.toInt (-1) ∧ Int32.toInt (-1) ≤ (-1) from (by decide)) (by decide) (by decide))⟩, hok, pvfr_0, rfl, (yGsd0_n (by have u := b11_; omega) (by decide))⟩
    · refine pw_eqI (if_neg c10_) ?_
      have b13_ : 0 ≤ Int32.toInt n1 ∧ Int32.toInt n1 ≤ 1 := zr_nlt_r 1 c10_ b9_ (show 1 ≤ Int32.toInt 1 ∧ Int32.toInt 1 ≤ 1 from (by decide)) (by decide)
      show PW 77 d (7, [some (pvR 124), some (pvI n1), none, none, none, none], [pvI 1], M) _
      refine pw_ifn hT (c := 1 = 0) rfl rfl (fun c14_ => ?_) (fun c14_ => absurd c14_ (by decide))
      have b15_ : 0 ≤ Int32.toInt (M.1 124 4) ∧ Int32.toInt (M.1 124 4) ≤ 4 := pvok_r hok 124 4 rfl
      refine pw_blkw hT 10 (pc := 27) (lo := [some (pvR 124), some (pvI n1), some (pvI (M.1 124 4)), some (pvI 0), some (pvI (-1)), none]) (st := []) (M := pvu M 124 4 0) rfl ⟨trivial, rfl, trivial, trivial, trivial, trivial, trivial, trivial, trivial, rfl, trivial⟩ (fun M16_ e17_ => ?_)
      have o18_ : pvOk M16_ := pvok_u2 e17_ hok rfl (zr_wide (show 0 ≤ Int32.toInt 0 ∧ Int32.toInt 0 ≤ 0 from (by decide)) (by decide) (by decide))
      have f19_ : pvFr fp_eX10_sides_124_x M M16_ := pvfr_u e17_ pvfr_0 rfl
      have hlz180_ : ∀ (nz180_ : Nat) (i3z180_ : Int32) (i4z180_ : Int32) (v5z180_ : Option pvV) (Mz180_ : pvM), (pvOk Mz180_) → (pvFr fp_eX10_sides_124_x M Mz180_) → (0 ≤ Int32.toInt i3z180_ ∧ Int32.toInt i3z180_ ≤ 2147483647) → ((-1) ≤ Int32.toInt i4z180_ ∧ Int32.toInt i4z180_ ≤ 2147483647) → (ySd0 M Mz180_ i3z180_ i4z180_ (Mz180_.1 124 4)) → (zhide ((5 - Int32.toInt (Mz180_.1 124 4)).toNat < nz180_)) → PW 77 d (27, [some (pvR 124), some (pvI n1), some (pvI (M.1 124 4)), some (pvI i3z180_), some (pvI i4z180_), v5z180_], [], Mz180_) (fun r X => (∃ x : Int32, r = some (pvI x) ∧ (-1) ≤ Int32.toInt x ∧ Int32.toInt x ≤ 2147483647) ∧ pvOk X ∧ pvFr fp_eX10_sides_124_x M X ∧ X.1 124 4 = M.1 124 4 ∧ yA0 (yGsd n1) r M) := by
        intro nz180_
        induction nz180_ with
        | zero => intro i3z180_ i4z180_ v5z180_ Mz180_ oz180_ fz180_ h3z180_ h4z180_ j0z180_ hmz180_; exact absurd (zshow hmz180_) (Nat.not_lt_zero _)
        | succ nz180_ ihz180_ =>
          intro i3z180_ i4z180_ v5z180_ Mz180_ oz180_ fz180_ h3z180_ h4z180_ j0z180_ hmz180_
          have b181_ : 0 ≤ Int32.toInt (Mz180_.1 124 4) ∧ Int32.toInt (Mz180_.1 124 4) ≤ 4 := pvok_r oz180_ 124 4 rfl
          refine pw_blk hT 3 (S' := (32, [some (pvR 124), some (pvI n1), some (pvI (M.1 124 4)), some (pvI i3z180_), some (pvI i4z180_), v5z180_], [pvI 4, pvI (Mz180_.1 124 4)], Mz180_)) rfl ⟨trivial, rfl, trivial, trivial⟩ ?_
          refine pw_ic hT (c := 4 ≤ (Mz180_.1 124 4)) rfl rfl (fun c182_ => ?_) (fun c182_ => ?_)
          · have b183_ : 4 ≤ Int32.toInt (Mz180_.1 124 4) ∧ Int32.toInt (Mz180_.1 124 4) ≤ 4 := zr_le_r 4 c182_ b181_ (show 4 ≤ Int32.toInt 4 ∧ Int32.toInt 4 ≤ 4 from (by decide)) (by decide)
            refine pw_blkw hT 3 (pc := 82) (lo := [some (pvR 124), some (pvI n1), some (pvI (M.1 124 4)), some (pvI i3z180_), some (pvI i4z180_), v5z180_]) (st := []) (M := pvu Mz180_ 124 4 (M.1 124 4)) rfl ⟨trivial, trivial, rfl, trivial⟩ (fun M184_ e185_ => ?_)
            have o186_ : pvOk M184_ := pvok_u2 e185_ oz180_ rfl b15_
            have f187_ : pvFr fp_eX10_sides_124_x M M184_ := pvfr_u e185_ fz180_ rfl
            refine pw_blk hT 1 (S' := (83, [some (pvR 124), some (pvI n1), some (pvI (M.1 124 4)), some (pvI i3z180_), some (pvI i4z180_), v5z180_], [pvI n1], M184_)) rfl ⟨trivial, trivial⟩ ?_
            refine pw_ifn hT (c := n1 = 0) rfl rfl (fun c188_ => ?_) (fun c188_ => ?_)
            · have b189_ : 1 ≤ Int32.toInt n1 ∧ Int32.toInt n1 ≤ 1 := (by have u0 := b13_; have u1 := (not_congr (zi_eq _ _)).mp c188_; have u2 := (show 0 ≤ Int32.toInt 0 ∧ Int32.toInt 0 ≤ 0 from (by decide)); omega)
              refine pw_blk hT 1 (S' := (92, [some (pvR 124), some (pvI n1), some (pvI (M.1 124 4)), some (pvI i3z180_), some (pvI i4z180_), v5z180_], [pvI i4z180_], M184_)) rfl ⟨trivial, trivial⟩ ?_
              exact pw_ret hT rfl (r := some (pvI i4z180_)) (M' := M184_) ⟨rfl, rfl⟩ ⟨⟨_, rfl, h4z180_⟩, o186_, f187_, (pvu_s e185_), ((yGsd0_e j0z180_ (by have u := b183_; omega) (by have u := b189_; omega)).2 (by have u := b189_; omega))⟩
            · have b190_ : 0 ≤ Int32.toInt n1 ∧ Int32.toInt n1 ≤ 0 := (by have u0 := b13_; have u1 := (zi_eq _ _).mp c188_; have u2 := (show 0 ≤ Int32.toInt 0 ∧ Int32.toInt 0 ≤ 0 from (by decide)); omega)
              refine pw_blk hT 2 (S' := (92, [some (pvR 124), some (pvI n1), some (pvI (M.1 124 4)), some (pvI i3z180_), some (pvI i4z180_), v5z180_], [pvI i3z180_], M184_)) rfl ⟨trivial, trivial, trivial⟩ ?_
              exact pw_ret hT rfl (r := some (pvI i3z180_)) (M' := M184_) ⟨rfl, rfl⟩ ⟨⟨_, rfl, (zr_wide h3z180_ (by decide) (by decide))⟩, o186_, f187_, (pvu_s e185_), ((yGsd0_e j0z180_ (by have u := b183_; omega) (by have u := b190_; omega)).1 (by have u := b190_; omega))⟩
          · have b191_ : 0 ≤ Int32.toInt (Mz180_.1 124 4) ∧ Int32.toInt (Mz180_.1 124 4) ≤ 3 := zr_nle_r 3 c182_ b181_ (show 4 ≤ Int32.toInt 4 ∧ Int32.toInt 4 ≤ 4 from (by decide)) (by decide)
            refine pw_blk hT 1 (S' := (36, [some (pvR 124), some (pvI n1), some (pvI (M.1 124 4)), some (pvI i3z180_), some (pvI i4z180_), v5z180_], [pvR 124], Mz180_)) rfl ⟨trivial, trivial⟩ ?_
            refine pw_callVd hT (as := [pvR 124]) (lo1 := [some (pvR 124), none, none]) (d1 := d) (rest := []) rfl rfl rfl rfl rfl (fun _ => rfl) (Nat.zero_le _) rfl rfl rfl (se_X10_layRain_124 Mz180_ oz180_ (pvWF_fr (L := fpL_eX10_sides_124_x) rfl fz180_ hz) d) (fun M194_ o196_ g197_ d192_ => ?_)
            have f198_ : pvFr fp_eX10_sides_124_x M M194_ := pvfr_t g197_ fz180_ fp_eX10_sides_124_x_fp_eX10_layRain_124
            refine pw_blk hT 1 (S' := (40, [some (pvR 124), some (pvI n1), some (pvI (M.1 124 4)), some (pvI i3z180_), some (pvI i4z180_), v5z180_], [pvR 124], M194_)) rfl ⟨trivial, trivial⟩ ?_
            refine pw_callGd hT (as := [pvR 124]) (lo1 := [some (pvR 124)]) (d1 := d) (rest := []) rfl rfl rfl rfl rfl (fun _ => rfl) (Nat.zero_le _) rfl rfl rfl (se_X10_costOfNone_124 M194_ o196_ d) (fun x200_ M201_ b202_ o203_ g204_ d199_ => ?_)
            have f205_ : pvFr fp_eX10_sides_124_x M M201_ := pvfr_t g204_ f198_ fp_eX10_sides_124_x_fp_eX10_costOfNone_124
            refine pw_blk hT 3 (S' := (49, [some (pvR 124), some (pvI n1), some (pvI (M.1 124 4)), some (pvI i3z180_), some (pvI i4z180_), some (pvI x200_)], [pvI i4z180_, pvI x200_], M201_)) rfl ⟨trivial, trivial, trivial, trivial⟩ ?_
            refine pw_ic hT (c := i4z180_ < x200_) rfl rfl (fun c206_ => ?_) (fun c206_ => ?_)
            · have b207_ : (-1) ≤ Int32.toInt i4z180_ ∧ Int32.toInt i4z180_ ≤ 8999999 := zr_lt_l 8999999 c206_ h4z180_ b202_ (by decide)
              have d208_ : Int32.toInt i4z180_ < Int32.toInt x200_ := (zi_lt _ _).mp c206_
              have e209_ : (M201_.1 124 4) = (Mz180_.1 124 4) := ((g204_ 124 4 rfl).trans (g197_ 124 4 rfl))
              have b210_ : 0 ≤ Int32.toInt (M201_.1 124 4) ∧ Int32.toInt (M201_.1 124 4) ≤ 3 := (by rw [e209_]; exact b191_)
              obtain ⟨q212_, b211_⟩ : (Int32.toInt ((M201_.1 124 4) + 1) = Int32.toInt (M201_.1 124 4) + 1) ∧ (1 ≤ Int32.toInt ((M201_.1 124 4) + 1) ∧ Int32.toInt ((M201_.1 124 4) + 1) ≤ 4) := zadd_k (M201_.1 124 4) 1 1 1 4 b210_ (by decide) (by decide) (by decide) (by decide) (by decide)
              refine pw_blkw hT 11 (pc := 74) (lo := [some (pvR 124), some (pvI n1), some (pvI (M.1 124 4)), some (pvI (M201_.1 124 4)), some (pvI x200_), some (pvI x200_)]) (st := []) (M := pvu M201_ 124 4 ((M201_.1 124 4) + 1)) rfl ⟨trivial, rfl, trivial, trivial, trivial, trivial, trivial, rfl, trivial, trivial, rfl, trivial⟩ (fun M213_ e214_ => ?_)
              have o215_ : pvOk M213_ := pvok_u2 e214_ o203_ rfl (zr_wide b211_ (by decide) (by decide))
              have f216_ : pvFr fp_eX10_sides_124_x M M213_ := pvfr_u e214_ f205_ rfl
              refine pw_blk hT 1 (S' := (27, [some (pvR 124), some (pvI n1), some (pvI (M.1 124 4)), some (pvI (M201_.1 124 4)), some (pvI x200_), some (pvI x200_)], [], M213_)) rfl ⟨trivial, trivial⟩ ?_
              have j217_ : ySd0 M M213_ (M201_.1 124 4) x200_ (M213_.1 124 4) := (ySd0_y j0z180_ (by have u := b191_; omega) d192_ d199_ e214_ rfl rfl (Int32.not_le.mpr c206_))
              exact ihz180_ (M201_.1 124 4) x200_ (some (pvI x200_)) M213_ o215_ f216_ (zr_wide b210_ (by decide) (by decide)) (zr_wide b202_ (by decide) (by decide)) j217_ (zhid (by have hm0 := zshow hmz180_; have z1 : Int32.toInt (M213_.1 124 4) = Int32.toInt ((M201_.1 124 4) + 1) := congrArg Int32.toInt (pvu_s e214_); have z2 : Int32.toInt (M201_.1 124 4) = Int32.toInt (Mz180_.1 124 4) := congrArg Int32.toInt ((g204_ 124 4 rfl).trans (g197_ 124 4 rfl)); omega))
            · have b218_ : 0 ≤ Int32.toInt i4z180_ ∧ Int32.toInt i4z180_ ≤ 2147483647 := zr_nlt_l 0 c206_ h4z180_ b202_ (by decide)
              have d219_ : Int32.toInt i4z180_ ≥ Int32.toInt x200_ := Int.not_lt.mp ((not_congr (zi_lt _ _)).mp c206_)
              have e220_ : (M201_.1 124 4) = (Mz180_.1 124 4) := ((g204_ 124 4 rfl).trans (g197_ 124 4 rfl))
              have b221_ : 0 ≤ Int32.toInt (M201_.1 124 4) ∧ Int32.toInt (M201_.1 124 4) ≤ 3 := (by rw [e220_]; exact b191_)
              obtain ⟨q223_, b222_⟩ : (Int32.toInt ((M201_.1 124 4) + 1) = Int32.toInt (M201_.1 124 4) + 1) ∧ (1 ≤ Int32.toInt ((M201_.1 124 4) + 1) ∧ Int32.toInt ((M201_.1 124 4) + 1) ≤ 4) := zadd_k (M201_.1 124 4) 1 1 1 4 b221_ (by decide) (by decide) (by decide) (by decide) (by decide)
              refine pw_blkw hT 7 (pc := 74) (lo := [some (pvR 124), some (pvI n1), some (pvI (M.1 124 4)), some (pvI i3z180_), some (pvI i4z180_), some (pvI x200_)]) (st := []) (M := pvu M201_ 124 4 ((M201_.1 124 4) + 1)) rfl ⟨trivial, trivial, trivial, rfl, trivial, trivial, rfl, trivial⟩ (fun M224_ e225_ => ?_)
              have o226_ : pvOk M224_ := pvok_u2 e225_ o203_ rfl (zr_wide b222_ (by decide) (by decide))
              have f227_ : pvFr fp_eX10_sides_124_x M M224_ := pvfr_u e225_ f205_ rfl
              refine pw_blk hT 1 (S' := (27, [some (pvR 124), some (pvI n1), some (pvI (M.1 124 4)), some (pvI i3z180_), some (pvI i4z180_), some (pvI x200_)], [], M224_)) rfl ⟨trivial, trivial⟩ ?_
              have j228_ : ySd0 M M224_ i3z180_ i4z180_ (M224_.1 124 4) := (ySd0_n j0z180_ (by have u := b191_; omega) d192_ d199_ e225_ rfl (Int32.not_lt.mp c206_))
              exact ihz180_ i3z180_ i4z180_ (some (pvI x200_)) M224_ o226_ f227_ h3z180_ (zr_wide b218_ (by decide) (by decide)) j228_ (zhid (by have hm0 := zshow hmz180_; have z1 : Int32.toInt (M224_.1 124 4) = Int32.toInt ((M201_.1 124 4) + 1) := congrArg Int32.toInt (pvu_s e225_); have z2 : Int32.toInt (M201_.1 124 4) = Int32.toInt (Mz180_.1 124 4) := congrArg Int32.toInt ((g204_ 124 4 rfl).trans (g197_ 124 4 rfl)); omega))
      have u229_ : Int32.toInt 0 = 0 := by decide
      have u230_ : Int32.toInt (-1) = (-1) := by decide
      have j231_ : ySd0 M M16_ 0 (-1) (M16_.1 124 4) := (ySd0_0 e17_ (by decide) (by decide) (by decide))
      exact hlz180_ _ 0 (-1) none M16_ o18_ f19_ (zr_wide (show 0 ≤ Int32.toInt 0 ∧ Int32.toInt 0 ≤ 0 from (by decide)) (by decide) (by decide)) (zr_wide (show (-1) ≤ Int32.toInt (-1) ∧ Int32.toInt (-1) ≤ (-1) from (by decide)) (by decide) (by decide)) j231_ (zhid (Nat.lt_succ_self _))
def fpL_eX10_stand_124_x_x : List (Nat × Nat × Nat) := [(0, 124, 6), (0, 124, 7)]
def fp_eX10_stand_124_x_x (q k : Nat) : Bool := pvfp fpL_eX10_stand_124_x_x q k
set_option maxHeartbeats 4000000 in
set_option maxRecDepth 10000 in
theorem se_X10_stand_124_x_x (M : pvM) (hok : pvOk M) (n1 : Int32) (n2 : Int32) (d : Nat) : PW 78 d (0, [some (pvR 124), some (pvI n1), some (pvI n2)], [], M) (fun r X => (∃ x : Int32, r = some (pvI x) ∧ ((-2) ≤ Int32.toInt x ∧ Int32.toInt x ≤ 1) ∧ x = (if n1 < 0 then (-2) else (if 3 < n1 then (-2) else (if n2 < 0 then (-2) else (if 4 < n2 then (-2) else 1))))) ∧ pvOk X ∧ pvFr fp_eX10_stand_124_x_x M X ∧ zwS n1 n2 (zw0 1 5 6 131 M) (zw0 1 5 6 131 X)) := by
  have hT : pvdom 78 = pvD_78 := rfl
  refine pw_blk hT 3 (S' := (3, [some (pvR 124), some (pvI n1), some (pvI n2)], [pvI n2, pvI n1, pvR 124], M)) rfl ⟨trivial, trivial, trivial, trivial⟩ ?_
  refine pw_callT hT (as := [pvR 124, pvI n1, pvI n2]) (lo1 := [some (pvR 124), some (pvI n1), some (pvI n2)]) (d1 := d) (rest := []) rfl rfl rfl rfl rfl (fun _ => rfl) (Nat.zero_le _) rfl rfl rfl (sf_X10_isPlace_124_x_x M hok n1 n2 d) ?_
  by_cases c6_ : n1 < 0
  · refine pw_eqI (if_pos c6_) ?_
    have b7_ : (-2147483648) ≤ Int32.toInt n1 ∧ Int32.toInt n1 ≤ (-1) := zr_lt_l (-1) c6_ (zbnd n1) (show 0 ≤ Int32.toInt 0 ∧ Int32.toInt 0 ≤ 0 from (by decide)) (by decide)
    show PW 78 d (6, [some (pvR 124), some (pvI n1), some (pvI n2)], [pvI 0], M) _
    refine pw_ifn hT (c := 0 = 0) rfl rfl (fun c8_ => absurd (by decide) c8_) (fun c8_ => ?_)
    refine pw_blk hT 1 (S' := (11, [some (pvR 124), some (pvI n1), some (pvI n2)], [pvI (-2)], M)) rfl ⟨trivial, trivial⟩ ?_
    exact pw_ret hT rfl (r := some (pvI (-2))) (M' := M) ⟨rfl, rfl⟩ ⟨⟨_, rfl, (zr_wide (show (-2) ≤ Int32.toInt (-2) ∧ Int32.toInt (-2) ≤ (-2) from (by decide)) (by decide) (by decide)), (by rw [if_pos c6_]; first | done | (rw [if_pos c6_]; done))⟩, hok, pvfr_0, (zwS_n (fun z => by have v := (zi_lt _ _).mp c6_; have w := z.1.1; have u0 : (0 : Int32).toInt = 0 := (by decide); have u3 : (3 : Int32).toInt = 3 := (by decide); have u4 : (4 : Int32).toInt = 4 := (by decide); omega))⟩
  · refine pw_eqI (if_neg c6_) ?_
    have b9_ : 0 ≤ Int32.toInt n1 ∧ Int32.toInt n1 ≤ 2147483647 := zr_nlt_l 0 c6_ (zbnd n1) (show 0 ≤ Int32.toInt 0 ∧ Int32.toInt 0 ≤ 0 from (by decide)) (by decide)
    by_cases c10_ : 3 < n1
    · refine pw_eqI (if_pos c10_) ?_
      have b11_ : 4 ≤ Int32.toInt n1 ∧ Int32.toInt n1 ≤ 2147483647 := zr_lt_r 4 c10_ b9_ (show 3 ≤ Int32.toInt 3 ∧ Int32.toInt 3 ≤ 3 from (by decide)) (by decide)
      show PW 78 d (6, [some (pvR 124), some (pvI n1), some (pvI n2)], [pvI 0], M) _
      refine pw_ifn hT (c := 0 = 0) rfl rfl (fun c12_ => absurd (by decide) c12_) (fun c12_ => ?_)
      refine pw_blk hT 1 (S' := (11, [some (pvR 124), some (pvI n1), some (pvI n2)], [pvI (-2)], M)) rfl ⟨trivial, trivial⟩ ?_
      exact pw_ret hT rfl (r := some (pvI (-2))) (M' := M) ⟨rfl, rfl⟩ ⟨⟨_, rfl, (zr_wide (show (-2) ≤ Int32.toInt (-2) ∧ Int32.toInt (-2) ≤ (-2) from (by decide)) (by decide) (by decide)), (by rw [if_neg c6_, if_pos c10_]; first | done | (rw [if_pos c10_]; done))⟩, hok, pvfr_0, (zwS_n (fun z => by have v := (zi_lt _ _).mp c10_; have w := z.1.2; have u0 : (0 : Int32).toInt = 0 := (by decide); have u3 : (3 : Int32).toInt = 3 := (by decide); have u4 : (4 : Int32).toInt = 4 := (by decide); omega))⟩
    · refine pw_eqI (if_neg c10_) ?_
      have b13_ : 0 ≤ Int32.toInt n1 ∧ Int32.toInt n1 ≤ 3 := zr_nlt_r 3 c10_ b9_ (show 3 ≤ Int32.toInt 3 ∧ Int32.toInt 3 ≤ 3 from (by decide)) (by decide)
      by_cases c14_ : n2 < 0
      · refine pw_eqI (if_pos c14_) ?_
        have b15_ : (-2147483648) ≤ Int32.toInt n2 ∧ Int32.toInt n2 ≤ (-1) := zr_lt_l (-1) c14_ (zbnd n2) (show 0 ≤ Int32.toInt 0 ∧ Int32.toInt 0 ≤ 0 from (by decide)) (by decide)
        show PW 78 d (6, [some (pvR 124), some (pvI n1), some (pvI n2)], [pvI 0], M) _
        refine pw_ifn hT (c := 0 = 0) rfl rfl (fun c16_ => absurd (by decide) c16_) (fun c16_ => ?_)
        refine pw_blk hT 1 (S' := (11, [some (pvR 124), some (pvI n1), some (pvI n2)], [pvI (-2)], M)) rfl ⟨trivial, trivial⟩ ?_
        exact pw_ret hT rfl (r := some (pvI (-2))) (M' := M) ⟨rfl, rfl⟩ ⟨⟨_, rfl, (zr_wide (show (-2) ≤ Int32.toInt (-2) ∧ Int32.toInt (-2) ≤ (-2) from (by decide)) (by decide) (by decide)), (by rw [if_neg c6_, if_neg c10_, if_pos c14_]; first | done | (rw [if_pos c14_]; done))⟩, hok, pvfr_0, (zwS_n (fun z => by have v := (zi_lt _ _).mp c14_; have w := z.2.1; have u0 : (0 : Int32).toInt = 0 := (by decide); have u3 : (3 : Int32).toInt = 3 := (by decide); have u4 : (4 : Int32).toInt = 4 := (by decide); omega))⟩
      · refine pw_eqI (if_neg c14_) ?_
        have b17_ : 0 ≤ Int32.toInt n2 ∧ Int32.toInt n2 ≤ 2147483647 := zr_nlt_l 0 c14_ (zbnd n2) (show 0 ≤ Int32.toInt 0 ∧ Int32.toInt 0 ≤ 0 from (by decide)) (by decide)
        by_cases c18_ : 4 < n2
        · refine pw_eqI (if_pos c18_) ?_
          have b19_ : 5 ≤ Int32.toInt n2 ∧ Int32.toInt n2 ≤ 2147483647 := zr_lt_r 5 c18_ b17_ (show 4 ≤ Int32.toInt 4 ∧ Int32.toInt 4 ≤ 4 from (by decide)) (by decide)
          show PW 78 d (6, [some (pvR 124), some (pvI n1), some (pvI n2)], [pvI 0], M) _
          refine pw_ifn hT (c := 0 = 0) rfl rfl (fun c20_ => absurd (by decide) c20_) (fun c20_ => ?_)
          refine pw_blk hT 1 (S' := (11, [some (pvR 124), some (pvI n1), some (pvI n2)], [pvI (-2)], M)) rfl ⟨trivial, trivial⟩ ?_
          exact pw_ret hT rfl (r := some (pvI (-2))) (M' := M) ⟨rfl, rfl⟩ ⟨⟨_, rfl, (zr_wide (show (-2) ≤ Int32.toInt (-2) ∧ Int32.toInt (-2) ≤ (-2) from (by decide)) (by decide) (by decide)), (by rw [if_neg c6_, if_neg c10_, if_neg c14_, if_pos c18_]; first | done | (rw [if_pos c18_]; done))⟩, hok, pvfr_0, (zwS_n (fun z => by have v := (zi_lt _ _).mp c18_; have w := z.2.2; have u0 : (0 : Int32).toInt = 0 := (by decide); have u3 : (3 : Int32).toInt = 3 := (by decide); have u4 : (4 : Int32).toInt = 4 := (by decide); omega))⟩
        · refine pw_eqI (if_neg c18_) ?_
          have b21_ : 0 ≤ Int32.toInt n2 ∧ Int32.toInt n2 ≤ 4 := zr_nlt_r 4 c18_ b17_ (show 4 ≤ Int32.toInt 4 ∧ Int32.toInt 4 ≤ 4 from (by decide)) (by decide)
          show PW 78 d (6, [some (pvR 124), some (pvI n1), some (pvI n2)], [pvI 1], M) _
          refine pw_ifn hT (c := 1 = 0) rfl rfl (fun c22_ => ?_) (fun c22_ => absurd c22_ (by decide))
          refine pw_blkw hT 3 (pc := 17) (lo := [some (pvR 124), some (pvI n1), some (pvI n2)]) (st := []) (M := pvu M 124 5 n1) rfl ⟨trivial, trivial, rfl, trivial⟩ (fun M23_ e24_ => ?_)
          have o25_ : pvOk M23_ := pvok_u2 e24_ hok rfl b13_
          have f26_ : pvFr fp_eX10_stand_124_x_x M M23_ := pvfr_u e24_ pvfr_0 rfl
          refine pw_blkw hT 3 (pc := 22) (lo := [some (pvR 124), some (pvI n1), some (pvI n2)]) (st := []) (M := pvu M23_ 124 6 n2) rfl ⟨trivial, trivial, rfl, trivial⟩ (fun M27_ e28_ => ?_)
          have o29_ : pvOk M27_ := pvok_u2 e28_ o25_ rfl b21_
          have f30_ : pvFr fp_eX10_stand_124_x_x M M27_ := pvfr_u e28_ f26_ rfl
          refine pw_blk hT 1 (S' := (23, [some (pvR 124), some (pvI n1), some (pvI n2)], [pvI 1], M27_)) rfl ⟨trivial, trivial⟩ ?_
          exact pw_ret hT rfl (r := some (pvI 1)) (M' := M27_) ⟨rfl, rfl⟩ ⟨⟨_, rfl, (zr_wide (show 1 ≤ Int32.toInt 1 ∧ Int32.toInt 1 ≤ 1 from (by decide)) (by decide) (by decide)), (by rw [if_neg c6_, if_neg c10_, if_neg c14_, if_neg c18_]; first | done | (rw [if_neg c18_]; done))⟩, o29_, f30_, (zwS_i ⟨b13_, b21_⟩ ((pvu_n e28_ 124 1 (Or.inr (by decide))).trans (pvu_n e24_ 124 1 (Or.inr (by decide)))) ((pvu_n e28_ 124 5 (Or.inr (by decide))).trans (pvu_s e24_)) (pvu_s e28_) (fun i _ => (pvu_n e28_ 131 i (Or.inl (by decide))).trans (pvu_n e24_ 131 i (Or.inl (by decide)))))⟩
def fpL_eX10_storm_124_x_x : List (Nat × Nat × Nat) := [(0, 124, 4), (0, 124, 5)]
def fp_eX10_storm_124_x_x (q k : Nat) : Bool := pvfp fpL_eX10_storm_124_x_x q k
set_option maxHeartbeats 4000000 in
set_option maxRecDepth 10000 in
theorem se_X10_storm_124_x_x (M : pvM) (hok : pvOk M) (n1 : Int32) (n2 : Int32) (d : Nat) : PW 80 d (0, [some (pvR 124), some (pvI n1), some (pvI n2), none], [], M) (fun r X => (∃ x : Int32, r = some (pvI x) ∧ ((-2) ≤ Int32.toInt x ∧ Int32.toInt x ≤ 108) ∧ x = (if n2 < 0 then (-1) else (if 3 < n2 then (-1) else (if n1 < 0 then (-2) else (if 99 < n1 then (-2) else (M.1 124 3)))))) ∧ pvOk X ∧ pvFr fp_eX10_storm_124_x_x M X ∧ ((Int32.toInt (X.1 124 3) ≤ 99 ∨ X.1 124 3 = M.1 124 3)) ∧ X.1 124 3 = (if n2 < 0 then (M.1 124 3) else (if 3 < n2 then (M.1 124 3) else (if n1 < 0 then (M.1 124 3) else (if 99 < n1 then (M.1 124 3) else n1)))) ∧ X.1 124 4 = (if n2 < 0 then (M.1 124 4) else (if 3 < n2 then (M.1 124 4) else (if n1 < 0 then (M.1 124 4) else (if 99 < n1 then (M.1 124 4) else n2))))) := by
  have hT : pvdom 80 = pvD_80 := rfl
  refine pw_blk hT 4 (S' := (4, [some (pvR 124), some (pvI n1), some (pvI n2), none], [pvI 3, pvI 0, pvI n2, pvR 124], M)) rfl ⟨trivial, trivial, trivial, trivial, trivial⟩ ?_
  refine pw_callT hT (as := [pvR 124, pvI n2, pvI 0, pvI 3]) (lo1 := [some (pvR 124), some (pvI n2), some (pvI 0), some (pvI 3)]) (d1 := d) (rest := []) rfl rfl rfl rfl rfl (fun _ => rfl) (Nat.zero_le _) rfl rfl rfl (sf_X10_in_124_x_x_x M hok n2 0 3 d) ?_
  by_cases c6_ : n2 < 0
  · refine pw_eqI (if_pos c6_) ?_
    have b7_ : (-2147483648) ≤ Int32.toInt n2 ∧ Int32.toInt n2 ≤ (-1) := zr_lt_l (-1) c6_ (zbnd n2) (show 0 ≤ Int32.toInt 0 ∧ Int32.toInt 0 ≤ 0 from (by decide)) (by decide)
    show PW 80 d (7, [some (pvR 124), some (pvI n1), some (pvI n2), none], [pvI 0], M) _
    refine pw_ifn hT (c := 0 = 0) rfl rfl (fun c8_ => absurd (by decide) c8_) (fun c8_ => ?_)
    refine pw_blk hT 1 (S' := (11, [some (pvR 124), some (pvI n1), some (pvI n2), none], [pvI (-1)], M)) rfl ⟨trivial, trivial⟩ ?_
    exact pw_ret hT rfl (r := some (pvI (-1))) (M' := M) ⟨rfl, rfl⟩ ⟨⟨_, rfl, (zr_wide (show (-1) ≤ Int32.toInt (-1) ∧ Int32.toInt (-1) ≤ (-1) from (by decide)) (by decide) (by decide)), (by rw [if_pos c6_]; first | done | (rw [if_pos c6_]; done))⟩, hok, pvfr_0, (Or.inr rfl), (by rw [if_pos c6_]; first | done | exact rfl | (rw [if_pos c6_]; done) | (rw [if_pos c6_]; exact rfl)), (by rw [if_pos c6_]; first | done | exact rfl | (rw [if_pos c6_]; done) | (rw [if_pos c6_]; exact rfl))⟩
  · refine pw_eqI (if_neg c6_) ?_
    have b9_ : 0 ≤ Int32.toInt n2 ∧ Int32.toInt n2 ≤ 2147483647 := zr_nlt_l 0 c6_ (zbnd n2) (show 0 ≤ Int32.toInt 0 ∧ Int32.toInt 0 ≤ 0 from (by decide)) (by decide)
    by_cases c10_ : 3 < n2
    · refine pw_eqI (if_pos c10_) ?_
      have b11_ : 4 ≤ Int32.toInt n2 ∧ Int32.toInt n2 ≤ 2147483647 := zr_lt_r 4 c10_ b9_ (show 3 ≤ Int32.toInt 3 ∧ Int32.toInt 3 ≤ 3 from (by decide)) (by decide)
      show PW 80 d (7, [some (pvR 124), some (pvI n1), some (pvI n2), none], [pvI 0], M) _
      refine pw_ifn hT (c := 0 = 0) rfl rfl (fun c12_ => absurd (by decide) c12_) (fun c12_ => ?_)
      refine pw_blk hT 1 (S' := (11, [some (pvR 124), some (pvI n1), some (pvI n2), none], [pvI (-1)], M)) rfl ⟨trivial, trivial⟩ ?_
      exact pw_ret hT rfl (r := some (pvI (-1))) (M' := M) ⟨rfl, rfl⟩ ⟨⟨_, rfl, (zr_wide (show (-1) ≤ Int32.toInt (-1) ∧ Int32.toInt (-1) ≤ (-1) from (by decide)) (by decide) (by decide)), (by rw [if_neg c6_, if_pos c10_]; first | done | (rw [if_pos c10_]; done))⟩, hok, pvfr_0, (Or.inr rfl), (by rw [if_neg c6_, if_pos c10_]; first | done | exact rfl | (rw [if_pos c10_]; done) | (rw [if_pos c10_]; exact rfl)), (by rw [if_neg c6_, if_pos c10_]; first | done | exact rfl | (rw [if_pos c10_]; done) | (rw [if_pos c10_]; exact rfl))⟩
    · refine pw_eqI (if_neg c10_) ?_
      have b13_ : 0 ≤ Int32.toInt n2 ∧ Int32.toInt n2 ≤ 3 := zr_nlt_r 3 c10_ b9_ (show 3 ≤ Int32.toInt 3 ∧ Int32.toInt 3 ≤ 3 from (by decide)) (by decide)
      show PW 80 d (7, [some (pvR 124), some (pvI n1), some (pvI n2), none], [pvI 1], M) _
      refine pw_ifn hT (c := 1 = 0) rfl rfl (fun c14_ => ?_) (fun c14_ => absurd c14_ (by decide))
      refine pw_blk hT 4 (S' := (17, [some (pvR 124), some (pvI n1), some (pvI n2), none], [pvI 99, pvI 0, pvI n1, pvR 124], M)) rfl ⟨trivial, trivial, trivial, trivial, trivial⟩ ?_
      refine pw_callT hT (as := [pvR 124, pvI n1, pvI 0, pvI 99]) (lo1 := [some (pvR 124), some (pvI n1), some (pvI 0), some (pvI 99)]) (d1 := d) (rest := []) rfl rfl rfl rfl rfl (fun _ => rfl) (Nat.zero_le _) rfl rfl rfl (sf_X10_in_124_x_x_x M hok n1 0 99 d) ?_
      by_cases c20_ : n1 < 0
      · refine pw_eqI (if_pos c20_) ?_
        have b21_ : (-2147483648) ≤ Int32.toInt n1 ∧ Int32.toInt n1 ≤ (-1) := zr_lt_l (-1) c20_ (zbnd n1) (show 0 ≤ Int32.toInt 0 ∧ Int32.toInt 0 ≤ 0 from (by decide)) (by decide)
        show PW 80 d (20, [some (pvR 124), some (pvI n1), some (pvI n2), none], [pvI 0], M) _
        refine pw_ifn hT (c := 0 = 0) rfl rfl (fun c22_ => absurd (by decide) c22_) (fun c22_ => ?_)
        refine pw_blk hT 1 (S' := (25, [some (pvR 124), some (pvI n1), some (pvI n2), none], [pvI (-2)], M)) rfl ⟨trivial, trivial⟩ ?_
        exact pw_ret hT rfl (r := some (pvI (-2))) (M' := M) ⟨rfl, rfl⟩ ⟨⟨_, rfl, (zr_wide (show (-2) ≤ Int32.toInt (-2) ∧ Int32.toInt (-2) ≤ (-2) from (by decide)) (by decide) (by decide)), (by rw [if_neg c6_, if_neg c10_, if_pos c20_]; first | done | (rw [if_pos c20_]; done))⟩, hok, pvfr_0, (Or.inr rfl), (by rw [if_neg c6_, if_neg c10_, if_pos c20_]; first | done | exact rfl | (rw [if_pos c20_]; done) | (rw [if_pos c20_]; exact rfl)), (by rw [if_neg c6_, if_neg c10_, if_pos c20_]; first | done | exact rfl | (rw [if_pos c20_]; done) | (rw [if_pos c20_]; exact rfl))⟩
      · refine pw_eqI (if_neg c20_) ?_
        have b23_ : 0 ≤ Int32.toInt n1 ∧ Int32.toInt n1 ≤ 2147483647 := zr_nlt_l 0 c20_ (zbnd n1) (show 0 ≤ Int32.toInt 0 ∧ Int32.toInt 0 ≤ 0 from (by decide)) (by decide)
        by_cases c24_ : 99 < n1
        · refine pw_eqI (if_pos c24_) ?_
          have b25_ : 100 ≤ Int32.toInt n1 ∧ Int32.toInt n1 ≤ 2147483647 := zr_lt_r 100 c24_ b23_ (show 99 ≤ Int32.toInt 99 ∧ Int32.toInt 99 ≤ 99 from (by decide)) (by decide)
          show PW 80 d (20, [some (pvR 124), some (pvI n1), some (pvI n2), none], [pvI 0], M) _
          refine pw_ifn hT (c := 0 = 0) rfl rfl (fun c26_ => absurd (by decide) c26_) (fun c26_ => ?_)
          refine pw_blk hT 1 (S' := (25, [some (pvR 124), some (pvI n1), some (pvI n2), none], [pvI (-2)], M)) rfl ⟨trivial, trivial⟩ ?_
          exact pw_ret hT rfl (r := some (pvI (-2))) (M' := M) ⟨rfl, rfl⟩ ⟨⟨_, rfl, (zr_wide (show (-2) ≤ Int32.toInt (-2) ∧ Int32.toInt (-2) ≤ (-2) from (by decide)) (by decide) (by decide)), (by rw [if_neg c6_, if_neg c10_, if_neg c20_, if_pos c24_]; first | done | (rw [if_pos c24_]; done))⟩, hok, pvfr_0, (Or.inr rfl), (by rw [if_neg c6_, if_neg c10_, if_neg c20_, if_pos c24_]; first | done | exact rfl | (rw [if_pos c24_]; done) | (rw [if_pos c24_]; exact rfl)), (by rw [if_neg c6_, if_neg c10_, if_neg c20_, if_pos c24_]; first | done | exact rfl | (rw [if_pos c24_]; done) | (rw [if_pos c24_]; exact rfl))⟩
        · refine pw_eqI (if_neg c24_) ?_
          have b27_ : 0 ≤ Int32.toInt n1 ∧ Int32.toInt n1 ≤ 99 := zr_nlt_r 99 c24_ b23_ (show 99 ≤ Int32.toInt 99 ∧ Int32.toInt 99 ≤ 99 from (by decide)) (by decide)
          show PW 80 d (20, [some (pvR 124), some (pvI n1), some (pvI n2), none], [pvI 1], M) _
          refine pw_ifn hT (c := 1 = 0) rfl rfl (fun c28_ => ?_) (fun c28_ => absurd c28_ (by decide))
          have b29_ : 0 ≤ Int32.toInt (M.1 124 3) ∧ Int32.toInt (M.1 124 3) ≤ 108 := pvok_r hok 124 3 rfl
          refine pw_blkw hT 6 (pc := 36) (lo := [some (pvR 124), some (pvI n1), some (pvI n2), some (pvI (M.1 124 3))]) (st := []) (M := pvu M 124 3 n1) rfl ⟨trivial, rfl, trivial, trivial, trivial, rfl, trivial⟩ (fun M30_ e31_ => ?_)
          have o32_ : pvOk M30_ := pvok_u2 e31_ hok rfl (zr_wide b27_ (by decide) (by decide))
          have f33_ : pvFr fp_eX10_storm_124_x_x M M30_ := pvfr_u e31_ pvfr_0 rfl
          refine pw_blkw hT 3 (pc := 41) (lo := [some (pvR 124), some (pvI n1), some (pvI n2), some (pvI (M.1 124 3))]) (st := []) (M := pvu M30_ 124 4 n2) rfl ⟨trivial, trivial, rfl, trivial⟩ (fun M34_ e35_ => ?_)
          have o36_ : pvOk M34_ := pvok_u2 e35_ o32_ rfl (zr_wide b13_ (by decide) (by decide))
          have f37_ : pvFr fp_eX10_storm_124_x_x M M34_ := pvfr_u e35_ f33_ rfl
          refine pw_blk hT 1 (S' := (42, [some (pvR 124), some (pvI n1), some (pvI n2), some (pvI (M.1 124 3))], [pvI (M.1 124 3)], M34_)) rfl ⟨trivial, trivial⟩ ?_
          exact pw_ret hT rfl (r := some (pvI (M.1 124 3))) (M' := M34_) ⟨rfl, rfl⟩ ⟨⟨_, rfl, (zr_wide b29_ (by decide) (by decide)), (by rw [if_neg c6_, if_neg c10_, if_neg c20_, if_neg c24_]; first | done | (rw [if_neg c24_]; done))⟩, o36_, f37_, (Or.inl (by have w0 : Int32.toInt (M34_.1 124 3) = Int32.toInt (M30_.1 124 3) := congrArg Int32.toInt (pvu_n e35_ 124 3 (Or.inr (by decide))); have w1 : Int32.toInt (M30_.1 124 3) = Int32.toInt n1 := congrArg Int32.toInt (pvu_s e31_); omega)), (by rw [if_neg c6_, if_neg c10_, if_neg c20_, if_neg c24_]; first | done | exact ((pvu_n e35_ 124 3 (Or.inr (by decide))).trans (pvu_s e31_)) | (rw [if_neg c24_]; done) | (rw [if_neg c24_]; exact ((pvu_n e35_ 124 3 (Or.inr (by decide))).trans (pvu_s e31_)))), (by rw [if_neg c6_, if_neg c10_, if_neg c20_, if_neg c24_]; first | done | exact (pvu_s e35_) | (rw [if_neg c24_]; done) | (rw [if_neg c24_]; exact (pvu_s e35_)))⟩
set_option maxHeartbeats 4000000 in
set_option maxRecDepth 10000 in
theorem se_X10_taken_124_x_x (M : pvM) (hok : pvOk M) (n1 : Int32) (n2 : Int32) (d : Nat) : PW 81 d (0, [some (pvR 124), some (pvI n1), some (pvI n2), none], [], M) (fun r X => (∃ x : Int32, r = some (pvI x) ∧ ((-12) ≤ Int32.toInt x ∧ Int32.toInt x ≤ 6) ∧ x = (if n2 < 0 then (-2) else (if 6 < n2 then (-2) else (if n1 < 0 then (-11) else (if ((M.1 124 0) - 1) < n1 then (-11) else (if n2 = 0 then (M.1 125 (Int32.toNatClampNeg n1)) else (if (M.1 125 (Int32.toNatClampNeg n1)) = n2 then (M.1 125 (Int32.toNatClampNeg n1)) else (if n2 = 1 then (if (M.1 125 (Int32.toNatClampNeg n1)) = 4 then (M.1 125 (Int32.toNatClampNeg n1)) else (-12)) else (if n2 = 2 then (if (M.1 125 (Int32.toNatClampNeg n1)) = 5 then (M.1 125 (Int32.toNatClampNeg n1)) else (-12)) else (if n2 = 3 then (if (M.1 125 (Int32.toNatClampNeg n1)) = 6 then (M.1 125 (Int32.toNatClampNeg n1)) else (-12)) else (-12))))))))))) ∧ X = M) := by
  have hT : pvdom 81 = pvD_81 := rfl
  refine pw_blk hT 4 (S' := (5, [some (pvR 124), some (pvI n1), some (pvI n2), none], [pvI 6, pvI 0, pvI n2, pvR 124], M)) rfl ⟨trivial, trivial, trivial, trivial, trivial⟩ ?_
  refine pw_callT hT (as := [pvR 124, pvI n2, pvI 0, pvI 6]) (lo1 := [some (pvR 124), some (pvI n2), some (pvI 0), some (pvI 6)]) (d1 := d) (rest := []) rfl rfl rfl rfl rfl (fun _ => rfl) (Nat.zero_le _) rfl rfl rfl (sf_X10_in_124_x_x_x M hok n2 0 6 d) ?_
  by_cases c6_ : n2 < 0
  · refine pw_eqI (if_pos c6_) ?_
    have b7_ : (-2147483648) ≤ Int32.toInt n2 ∧ Int32.toInt n2 ≤ (-1) := zr_lt_l (-1) c6_ (zbnd n2) (show 0 ≤ Int32.toInt 0 ∧ Int32.toInt 0 ≤ 0 from (by decide)) (by decide)
    show PW 81 d (8, [some (pvR 124), some (pvI n1), some (pvI n2), none], [pvI 0], M) _
    refine pw_ifn hT (c := 0 = 0) rfl rfl (fun c8_ => absurd (by decide) c8_) (fun c8_ => ?_)
    refine pw_blk hT 1 (S' := (13, [some (pvR 124), some (pvI n1), some (pvI n2), none], [pvI (-2)], M)) rfl ⟨trivial, trivial⟩ ?_
    exact pw_ret hT rfl (r := some (pvI (-2))) (M' := M) ⟨rfl, rfl⟩ ⟨⟨_, rfl, (zr_wide (show (-2) ≤ Int32.toInt (-2) ∧ Int32.toInt (-2) ≤ (-2) from (by decide)) (by decide) (by decide)), (by rw [if_pos c6_]; first | done | (rw [if_pos c6_]; done))⟩, rfl⟩
  · refine pw_eqI (if_neg c6_) ?_
    have b9_ : 0 ≤ Int32.toInt n2 ∧ Int32.toInt n2 ≤ 2147483647 := zr_nlt_l 0 c6_ (zbnd n2) (show 0 ≤ Int32.toInt 0 ∧ Int32.toInt 0 ≤ 0 from (by decide)) (by decide)
    by_cases c10_ : 6 < n2
    · refine pw_eqI (if_pos c10_) ?_
      have b11_ : 7 ≤ Int32.toInt n2 ∧ Int32.toInt n2 ≤ 2147483647 := zr_lt_r 7 c10_ b9_ (show 6 ≤ Int32.toInt 6 ∧ Int32.toInt 6 ≤ 6 from (by decide)) (by decide)
      show PW 81 d (8, [some (pvR 124), some (pvI n1), some (pvI n2), none], [pvI 0], M) _
      refine pw_ifn hT (c := 0 = 0) rfl rfl (fun c12_ => absurd (by decide) c12_) (fun c12_ => ?_)
      refine pw_blk hT 1 (S' := (13, [some (pvR 124), some (pvI n1), some (pvI n2), none], [pvI (-2)], M)) rfl ⟨trivial, trivial⟩ ?_
      exact pw_ret hT rfl (r := some (pvI (-2))) (M' := M) ⟨rfl, rfl⟩ ⟨⟨_, rfl, (zr_wide (show (-2) ≤ Int32.toInt (-2) ∧ Int32.toInt (-2) ≤ (-2) from (by decide)) (by decide) (by decide)), (by rw [if_neg c6_, if_pos c10_]; first | done | (rw [if_pos c10_]; done))⟩, rfl⟩
    · refine pw_eqI (if_neg c10_) ?_
      have b13_ : 0 ≤ Int32.toInt n2 ∧ Int32.toInt n2 ≤ 6 := zr_nlt_r 6 c10_ b9_ (show 6 ≤ Int32.toInt 6 ∧ Int32.toInt 6 ≤ 6 from (by decide)) (by decide)
      show PW 81 d (8, [some (pvR 124), some (pvI n1), some (pvI n2), none], [pvI 1], M) _
      refine pw_ifn hT (c := 1 = 0) rfl rfl (fun c14_ => ?_) (fun c14_ => absurd c14_ (by decide))
      refine pw_blk hT 2 (S' := (16, [some (pvR 124), some (pvI n1), some (pvI n2), none], [pvI n1, pvR 124], M)) rfl ⟨trivial, trivial, trivial⟩ ?_
      refine pw_callT hT (as := [pvR 124, pvI n1]) (lo1 := [some (pvR 124), some (pvI n1)]) (d1 := d) (rest := []) rfl rfl rfl rfl rfl (fun _ => rfl) (Nat.zero_le _) rfl rfl rfl (sf_X10_isWindow_124_x M hok n1 d) ?_
      by_cases c20_ : n1 < 0
      · refine pw_eqI (if_pos c20_) ?_
        have b21_ : (-2147483648) ≤ Int32.toInt n1 ∧ Int32.toInt n1 ≤ (-1) := zr_lt_l (-1) c20_ (zbnd n1) (show 0 ≤ Int32.toInt 0 ∧ Int32.toInt 0 ≤ 0 from (by decide)) (by decide)
        show PW 81 d (19, [some (pvR 124), some (pvI n1), some (pvI n2), none], [pvI 0], M) _
        refine pw_ifn hT (c := 0 = 0) rfl rfl (fun c22_ => absurd (by decide) c22_) (fun c22_ => ?_)
        refine pw_blk hT 1 (S' := (24, [some (pvR 124), some (pvI n1), some (pvI n2), none], [pvI (-11)], M)) rfl ⟨trivial, trivial⟩ ?_
        exact pw_ret hT rfl (r := some (pvI (-11))) (M' := M) ⟨rfl, rfl⟩ ⟨⟨_, rfl, (zr_wide (show (-11) ≤ Int32.toInt (-11) ∧ Int32.toInt (-11) ≤ (-11) from (by decide)) (by decide) (by decide)), (by rw [if_neg c6_, if_neg c10_, if_pos c20_]; first | done | (rw [if_pos c20_]; done))⟩, rfl⟩
      · refine pw_eqI (if_neg c20_) ?_
        have b23_ : 0 ≤ Int32.toInt n1 ∧ Int32.toInt n1 ≤ 2147483647 := zr_nlt_l 0 c20_ (zbnd n1) (show 0 ≤ Int32.toInt 0 ∧ Int32.toInt 0 ≤ 0 from (by decide)) (by decide)
        have b24_ : 0 ≤ Int32.toInt (M.1 124 0) ∧ Int32.toInt (M.1 124 0) ≤ 7 := pvok_r hok 124 0 rfl
        obtain ⟨q26_, b25_⟩ : (Int32.toInt ((M.1 124 0) - 1) = Int32.toInt (M.1 124 0) - 1) ∧ ((-1) ≤ Int32.toInt ((M.1 124 0) - 1) ∧ Int32.toInt ((M.1 124 0) - 1) ≤ 6) := zsub_k (M.1 124 0) 1 1 (-1) 6 b24_ (by decide) (by decide) (by decide) (by decide) (by decide)
        by_cases c27_ : ((M.1 124 0) - 1) < n1
        · refine pw_eqI (if_pos c27_) ?_
          have d28_ : Int32.toInt ((M.1 124 0) - 1) < Int32.toInt n1 := (zi_lt _ _).mp c27_
          show PW 81 d (19, [some (pvR 124), some (pvI n1), some (pvI n2), none], [pvI 0], M) _
          refine pw_ifn hT (c := 0 = 0) rfl rfl (fun c29_ => absurd (by decide) c29_) (fun c29_ => ?_)
          refine pw_blk hT 1 (S' := (24, [some (pvR 124), some (pvI n1), some (pvI n2), none], [pvI (-11)], M)) rfl ⟨trivial, trivial⟩ ?_
          exact pw_ret hT rfl (r := some (pvI (-11))) (M' := M) ⟨rfl, rfl⟩ ⟨⟨_, rfl, (zr_wide (show (-11) ≤ Int32.toInt (-11) ∧ Int32.toInt (-11) ≤ (-11) from (by decide)) (by decide) (by decide)), (by rw [if_neg c6_, if_neg c10_, if_neg c20_, if_pos c27_]; first | done | (rw [if_pos c27_]; done))⟩, rfl⟩
        · refine pw_eqI (if_neg c27_) ?_
          have b30_ : 0 ≤ Int32.toInt ((M.1 124 0) - 1) ∧ Int32.toInt ((M.1 124 0) - 1) ≤ 6 := zr_nlt_l 0 c27_ b25_ b23_ (by decide)
          have b31_ : 0 ≤ Int32.toInt n1 ∧ Int32.toInt n1 ≤ 6 := zr_nlt_r 6 c27_ b23_ b30_ (by decide)
          have d32_ : Int32.toInt ((M.1 124 0) - 1) ≥ Int32.toInt n1 := Int.not_lt.mp ((not_congr (zi_lt _ _)).mp c27_)
          show PW 81 d (19, [some (pvR 124), some (pvI n1), some (pvI n2), none], [pvI 1], M) _
          refine pw_ifn hT (c := 1 = 0) rfl rfl (fun c33_ => ?_) (fun c33_ => absurd c33_ (by decide))
          have b34_ : 0 ≤ Int32.toInt (M.1 125 (Int32.toNatClampNeg n1)) ∧ Int32.toInt (M.1 125 (Int32.toNatClampNeg n1)) ≤ 6 := pvok_r hok 125 (Int32.toNatClampNeg n1) rfl
          refine pw_blk hT 6 (S' := (33, [some (pvR 124), some (pvI n1), some (pvI n2), some (pvI (M.1 125 (Int32.toNatClampNeg n1)))], [pvI n2], M)) rfl ⟨trivial, rfl, trivial, ⟨rfl, (zr_in (n := 7) b31_ (by decide) (by decide))⟩, trivial, trivial, trivial⟩ ?_
          refine pw_if hT (c := n2 = 0) rfl rfl (fun c35_ => ?_) (fun c35_ => ?_)
          · have b36_ : 0 ≤ Int32.toInt n2 ∧ Int32.toInt n2 ≤ 0 := (by have u0 := b13_; have u1 := (zi_eq _ _).mp c35_; have u2 := (show 0 ≤ Int32.toInt 0 ∧ Int32.toInt 0 ≤ 0 from (by decide)); omega)
            refine pw_blk hT 2 (S' := (78, [some (pvR 124), some (pvI n1), some (pvI n2), some (pvI (M.1 125 (Int32.toNatClampNeg n1)))], [pvI (M.1 125 (Int32.toNatClampNeg n1))], M)) rfl ⟨trivial, trivial, trivial⟩ ?_
            exact pw_ret hT rfl (r := some (pvI (M.1 125 (Int32.toNatClampNeg n1)))) (M' := M) ⟨rfl, rfl⟩ ⟨⟨_, rfl, (zr_wide b34_ (by decide) (by decide)), (by rw [if_neg c6_, if_neg c10_, if_neg c20_, if_neg c27_, if_pos c35_]; first | done | (rw [if_pos c35_]; done))⟩, rfl⟩
          · have b37_ : 1 ≤ Int32.toInt n2 ∧ Int32.toInt n2 ≤ 6 := (by have u0 := b13_; have u1 := (not_congr (zi_eq _ _)).mp c35_; have u2 := (show 0 ≤ Int32.toInt 0 ∧ Int32.toInt 0 ≤ 0 from (by decide)); omega)
            refine pw_blk hT 2 (S' := (38, [some (pvR 124), some (pvI n1), some (pvI n2), some (pvI (M.1 125 (Int32.toNatClampNeg n1)))], [pvI n2, pvI (M.1 125 (Int32.toNatClampNeg n1))], M)) rfl ⟨trivial, trivial, trivial⟩ ?_
            refine pw_ic hT (c := (M.1 125 (Int32.toNatClampNeg n1)) = n2) rfl rfl (fun c38_ => ?_) (fun c38_ => ?_)
            · have b39_ : 1 ≤ Int32.toInt (M.1 125 (Int32.toNatClampNeg n1)) ∧ Int32.toInt (M.1 125 (Int32.toNatClampNeg n1)) ≤ 6 := (by have u0 := b34_; have u1 := (zi_eq _ _).mp c38_; have u2 := b37_; omega)
              have d40_ : Int32.toInt (M.1 125 (Int32.toNatClampNeg n1)) = Int32.toInt n2 := (zi_eq _ _).mp c38_
              refine pw_blk hT 2 (S' := (78, [some (pvR 124), some (pvI n1), some (pvI n2), some (pvI (M.1 125 (Int32.toNatClampNeg n1)))], [pvI (M.1 125 (Int32.toNatClampNeg n1))], M)) rfl ⟨trivial, trivial, trivial⟩ ?_
              exact pw_ret hT rfl (r := some (pvI (M.1 125 (Int32.toNatClampNeg n1)))) (M' := M) ⟨rfl, rfl⟩ ⟨⟨_, rfl, (zr_wide b39_ (by decide) (by decide)), (by rw [if_neg c6_, if_neg c10_, if_neg c20_, if_neg c27_, if_neg c35_, if_pos c38_]; first | done | (rw [if_pos c38_]; done))⟩, rfl⟩
            · refine pw_blk hT 2 (S' := (43, [some (pvR 124), some (pvI n1), some (pvI n2), some (pvI (M.1 125 (Int32.toNatClampNeg n1)))], [pvI 1, pvI n2], M)) rfl ⟨trivial, trivial, trivial⟩ ?_
              refine pw_icn hT (c := n2 = 1) rfl rfl (fun c41_ => ?_) (fun c41_ => ?_)
              · have b42_ : 2 ≤ Int32.toInt n2 ∧ Int32.toInt n2 ≤ 6 := (by have u0 := b37_; have u1 := (not_congr (zi_eq _ _)).mp c41_; have u2 := (show 1 ≤ Int32.toInt 1 ∧ Int32.toInt 1 ≤ 1 from (by decide)); omega)
                refine pw_blk hT 2 (S' := (53, [some (pvR 124), some (pvI n1), some (pvI n2), some (pvI (M.1 125 (Int32.toNatClampNeg n1)))], [pvI 2, pvI n2], M)) rfl ⟨trivial, trivial, trivial⟩ ?_
                refine pw_icn hT (c := n2 = 2) rfl rfl (fun c43_ => ?_) (fun c43_ => ?_)
                · have b44_ : 3 ≤ Int32.toInt n2 ∧ Int32.toInt n2 ≤ 6 := (by have u0 := b42_; have u1 := (not_congr (zi_eq _ _)).mp c43_; have u2 := (show 2 ≤ Int32.toInt 2 ∧ Int32.toInt 2 ≤ 2 from (by decide)); omega)
                  refine pw_blk hT 2 (S' := (63, [some (pvR 124), some (pvI n1), some (pvI n2), some (pvI (M.1 125 (Int32.toNatClampNeg n1)))], [pvI 3, pvI n2], M)) rfl ⟨trivial, trivial, trivial⟩ ?_
                  refine pw_icn hT (c := n2 = 3) rfl rfl (fun c45_ => ?_) (fun c45_ => ?_)
                  · have b46_ : 4 ≤ Int32.toInt n2 ∧ Int32.toInt n2 ≤ 6 := (by have u0 := b44_; have u1 := (not_congr (zi_eq _ _)).mp c45_; have u2 := (show 3 ≤ Int32.toInt 3 ∧ Int32.toInt 3 ≤ 3 from (by decide)); omega)
                    refine pw_blk hT 1 (S' := (78, [some (pvR 124), some (pvI n1), some (pvI n2), some (pvI (M.1 125 (Int32.toNatClampNeg n1)))], [pvI (-12)], M)) rfl ⟨trivial, trivial⟩ ?_
                    exact pw_ret hT rfl (r := some (pvI (-12))) (M' := M) ⟨rfl, rfl⟩ ⟨⟨_, rfl, (zr_wide (show (-12) ≤ Int32.toInt (-12) ∧ Int32.toInt (-12) ≤ (-12) from (by decide)) (by decide) (by decide)), (by rw [if_neg c6_, if_neg c10_, if_neg c20_, if_neg c27_, if_neg c35_, if_neg c38_, if_neg c41_, if_neg c43_, if_neg c45_]; first | done | (rw [if_neg c45_]; done))⟩, rfl⟩
                  · have b47_ : 3 ≤ Int32.toInt n2 ∧ Int32.toInt n2 ≤ 3 := (by have u0 := b44_; have u1 := (zi_eq _ _).mp c45_; have u2 := (show 3 ≤ Int32.toInt 3 ∧ Int32.toInt 3 ≤ 3 from (by decide)); omega)
                    refine pw_blk hT 2 (S' := (69, [some (pvR 124), some (pvI n1), some (pvI n2), some (pvI (M.1 125 (Int32.toNatClampNeg n1)))], [pvI 6, pvI (M.1 125 (Int32.toNatClampNeg n1))], M)) rfl ⟨trivial, trivial, trivial⟩ ?_
                    refine pw_icn hT (c := (M.1 125 (Int32.toNatClampNeg n1)) = 6) rfl rfl (fun c48_ => ?_) (fun c48_ => ?_)
                    · have b49_ : 0 ≤ Int32.toInt (M.1 125 (Int32.toNatClampNeg n1)) ∧ Int32.toInt (M.1 125 (Int32.toNatClampNeg n1)) ≤ 5 := (by have u0 := b34_; have u1 := (not_congr (zi_eq _ _)).mp c48_; have u2 := (show 6 ≤ Int32.toInt 6 ∧ Int32.toInt 6 ≤ 6 from (by decide)); omega)
                      refine pw_blk hT 1 (S' := (78, [some (pvR 124), some (pvI n1), some (pvI n2), some (pvI (M.1 125 (Int32.toNatClampNeg n1)))], [pvI (-12)], M)) rfl ⟨trivial, trivial⟩ ?_
                      exact pw_ret hT rfl (r := some (pvI (-12))) (M' := M) ⟨rfl, rfl⟩ ⟨⟨_, rfl, (zr_wide (show (-12) ≤ Int32.toInt (-12) ∧ Int32.toInt (-12) ≤ (-12) from (by decide)) (by decide) (by decide)), (by rw [if_neg c6_, if_neg c10_, if_neg c20_, if_neg c27_, if_neg c35_, if_neg c38_, if_neg c41_, if_neg c43_, if_pos c45_, if_neg c48_]; first | done | (rw [if_neg c48_]; done))⟩, rfl⟩
                    · have b50_ : 6 ≤ Int32.toInt (M.1 125 (Int32.toNatClampNeg n1)) ∧ Int32.toInt (M.1 125 (Int32.toNatClampNeg n1)) ≤ 6 := (by have u0 := b34_; have u1 := (zi_eq _ _).mp c48_; have u2 := (show 6 ≤ Int32.toInt 6 ∧ Int32.toInt 6 ≤ 6 from (by decide)); omega)
                      refine pw_blk hT 2 (S' := (78, [some (pvR 124), some (pvI n1), some (pvI n2), some (pvI (M.1 125 (Int32.toNatClampNeg n1)))], [pvI (M.1 125 (Int32.toNatClampNeg n1))], M)) rfl ⟨trivial, trivial, trivial⟩ ?_
                      exact pw_ret hT rfl (r := some (pvI (M.1 125 (Int32.toNatClampNeg n1)))) (M' := M) ⟨rfl, rfl⟩ ⟨⟨_, rfl, (zr_wide b50_ (by decide) (by decide)), (by rw [if_neg c6_, if_neg c10_, if_neg c20_, if_neg c27_, if_neg c35_, if_neg c38_, if_neg c41_, if_neg c43_, if_pos c45_, if_pos c48_]; first | done | (rw [if_pos c48_]; done))⟩, rfl⟩
                · have b51_ : 2 ≤ Int32.toInt n2 ∧ Int32.toInt n2 ≤ 2 := (by have u0 := b42_; have u1 := (zi_eq _ _).mp c43_; have u2 := (show 2 ≤ Int32.toInt 2 ∧ Int32.toInt 2 ≤ 2 from (by decide)); omega)
                  refine pw_blk hT 2 (S' := (58, [some (pvR 124), some (pvI n1), some (pvI n2), some (pvI (M.1 125 (Int32.toNatClampNeg n1)))], [pvI 5, pvI (M.1 125 (Int32.toNatClampNeg n1))], M)) rfl ⟨trivial, trivial, trivial⟩ ?_
                  refine pw_ic hT (c := (M.1 125 (Int32.toNatClampNeg n1)) = 5) rfl rfl (fun c52_ => ?_) (fun c52_ => ?_)
                  · have b53_ : 5 ≤ Int32.toInt (M.1 125 (Int32.toNatClampNeg n1)) ∧ Int32.toInt (M.1 125 (Int32.toNatClampNeg n1)) ≤ 5 := (by have u0 := b34_; have u1 := (zi_eq _ _).mp c52_; have u2 := (show 5 ≤ Int32.toInt 5 ∧ Int32.toInt 5 ≤ 5 from (by decide)); omega)
                    refine pw_blk hT 2 (S' := (78, [some (pvR 124), some (pvI n1), some (pvI n2), some (pvI (M.1 125 (Int32.toNatClampNeg n1)))], [pvI (M.1 125 (Int32.toNatClampNeg n1))], M)) rfl ⟨trivial, trivial, trivial⟩ ?_
                    exact pw_ret hT rfl (r := some (pvI (M.1 125 (Int32.toNatClampNeg n1)))) (M' := M) ⟨rfl, rfl⟩ ⟨⟨_, rfl, (zr_wide b53_ (by decide) (by decide)), (by rw [if_neg c6_, if_neg c10_, if_neg c20_, if_neg c27_, if_neg c35_, if_neg c38_, if_neg c41_, if_pos c43_, if_pos c52_]; first | done | (rw [if_pos c52_]; done))⟩, rfl⟩
                  · refine pw_blk hT 2 (S' := (63, [some (pvR 124), some (pvI n1), some (pvI n2), some (pvI (M.1 125 (Int32.toNatClampNeg n1)))], [pvI 3, pvI n2], M)) rfl ⟨trivial, trivial, trivial⟩ ?_
                    refine pw_icn hT (c := n2 = 3) rfl rfl (fun c54_ => ?_) (fun c54_ => absurd c54_ (by have z0 := b51_; have z1 := (show 3 ≤ Int32.toInt 3 ∧ Int32.toInt 3 ≤ 3 from (by decide)); rw [zi_eq]; omega))
                    refine pw_blk hT 1 (S' := (78, [some (pvR 124), some (pvI n1), some (pvI n2), some (pvI (M.1 125 (Int32.toNatClampNeg n1)))], [pvI (-12)], M)) rfl ⟨trivial, trivial⟩ ?_
                    exact pw_ret hT rfl (r := some (pvI (-12))) (M' := M) ⟨rfl, rfl⟩ ⟨⟨_, rfl, (zr_wide (show (-12) ≤ Int32.toInt (-12) ∧ Int32.toInt (-12) ≤ (-12) from (by decide)) (by decide) (by decide)), (by rw [if_neg c6_, if_neg c10_, if_neg c20_, if_neg c27_, if_neg c35_, if_neg c38_, if_neg c41_, if_pos c43_, if_neg c52_]; first | done | (rw [if_neg c52_]; done))⟩, rfl⟩
              · have b55_ : 1 ≤ Int32.toInt n2 ∧ Int32.toInt n2 ≤ 1 := (by have u0 := b37_; have u1 := (zi_eq _ _).mp c41_; have u2 := (show 1 ≤ Int32.toInt 1 ∧ Int32.toInt 1 ≤ 1 from (by decide)); omega)
                refine pw_blk hT 2 (S' := (48, [some (pvR 124), some (pvI n1), some (pvI n2), some (pvI (M.1 125 (Int32.toNatClampNeg n1)))], [pvI 4, pvI (M.1 125 (Int32.toNatClampNeg n1))], M)) rfl ⟨trivial, trivial, trivial⟩ ?_
                refine pw_ic hT (c := (M.1 125 (Int32.toNatClampNeg n1)) = 4) rfl rfl (fun c56_ => ?_) (fun c56_ => ?_)
                · have b57_ : 4 ≤ Int32.toInt (M.1 125 (Int32.toNatClampNeg n1)) ∧ Int32.toInt (M.1 125 (Int32.toNatClampNeg n1)) ≤ 4 := (by have u0 := b34_; have u1 := (zi_eq _ _).mp c56_; have u2 := (show 4 ≤ Int32.toInt 4 ∧ Int32.toInt 4 ≤ 4 from (by decide)); omega)
                  refine pw_blk hT 2 (S' := (78, [some (pvR 124), some (pvI n1), some (pvI n2), some (pvI (M.1 125 (Int32.toNatClampNeg n1)))], [pvI (M.1 125 (Int32.toNatClampNeg n1))], M)) rfl ⟨trivial, trivial, trivial⟩ ?_
                  exact pw_ret hT rfl (r := some (pvI (M.1 125 (Int32.toNatClampNeg n1)))) (M' := M) ⟨rfl, rfl⟩ ⟨⟨_, rfl, (zr_wide b57_ (by decide) (by decide)), (by rw [if_neg c6_, if_neg c10_, if_neg c20_, if_neg c27_, if_neg c35_, if_neg c38_, if_pos c41_, if_pos c56_]; first | done | (rw [if_pos c56_]; done))⟩, rfl⟩
                · refine pw_blk hT 2 (S' := (53, [some (pvR 124), some (pvI n1), some (pvI n2), some (pvI (M.1 125 (Int32.toNatClampNeg n1)))], [pvI 2, pvI n2], M)) rfl ⟨trivial, trivial, trivial⟩ ?_
                  refine pw_icn hT (c := n2 = 2) rfl rfl (fun c58_ => ?_) (fun c58_ => absurd c58_ (by have z0 := b55_; have z1 := (show 2 ≤ Int32.toInt 2 ∧ Int32.toInt 2 ≤ 2 from (by decide)); rw [zi_eq]; omega))
                  refine pw_blk hT 2 (S' := (63, [some (pvR 124), some (pvI n1), some (pvI n2), some (pvI (M.1 125 (Int32.toNatClampNeg n1)))], [pvI 3, pvI n2], M)) rfl ⟨trivial, trivial, trivial⟩ ?_
                  refine pw_icn hT (c := n2 = 3) rfl rfl (fun c59_ => ?_) (fun c59_ => absurd c59_ (by have z0 := b55_; have z1 := (show 3 ≤ Int32.toInt 3 ∧ Int32.toInt 3 ≤ 3 from (by decide)); rw [zi_eq]; omega))
                  refine pw_blk hT 1 (S' := (78, [some (pvR 124), some (pvI n1), some (pvI n2), some (pvI (M.1 125 (Int32.toNatClampNeg n1)))], [pvI (-12)], M)) rfl ⟨trivial, trivial⟩ ?_
                  exact pw_ret hT rfl (r := some (pvI (-12))) (M' := M) ⟨rfl, rfl⟩ ⟨⟨_, rfl, (zr_wide (show (-12) ≤ Int32.toInt (-12) ∧ Int32.toInt (-12) ≤ (-12) from (by decide)) (by decide) (by decide)), (by rw [if_neg c6_, if_neg c10_, if_neg c20_, if_neg c27_, if_neg c35_, if_neg c38_, if_pos c41_, if_neg c56_]; first | done | (rw [if_neg c56_]; done))⟩, rfl⟩
def fpL_eX10_tape_124_x_x_x : List (Nat × Nat × Nat) := [(0, 164, 0), (0, 165, 0)]
def fp_eX10_tape_124_x_x_x (q k : Nat) : Bool := pvfp fpL_eX10_tape_124_x_x_x q k
set_option maxHeartbeats 4000000 in
set_option maxRecDepth 10000 in
theorem se_X10_tape_124_x_x_x (M : pvM) (hok : pvOk M) (n1 : Int32) (n2 : Int32) (n3 : Int32) (d : Nat) : PW 89 d (0, [some (pvR 124), some (pvI n1), some (pvI n2), some (pvI n3), none], [], M) (fun r X => (∃ x : Int32, r = some (pvI x) ∧ ((-14) ≤ Int32.toInt x ∧ Int32.toInt x ≤ 1) ∧ x = (if n1 < 0 then (-1) else (if 5 < n1 then (-1) else (if n2 < (-1) then (-2) else (if 4 < n2 then (-2) else (if n2 < 0 then 1 else (if n3 ≤ 60 then (if 0 ≤ n3 then 1 else (-14)) else (-2)))))))) ∧ pvOk X ∧ pvFr fp_eX10_tape_124_x_x_x M X) := by
  have hT : pvdom 89 = pvD_89 := rfl
  refine pw_blk hT 2 (S' := (2, [some (pvR 124), some (pvI n1), some (pvI n2), some (pvI n3), none], [pvI n1, pvR 124], M)) rfl ⟨trivial, trivial, trivial⟩ ?_
  refine pw_callT hT (as := [pvR 124, pvI n1]) (lo1 := [some (pvR 124), some (pvI n1)]) (d1 := d) (rest := []) rfl rfl rfl rfl rfl (fun _ => rfl) (Nat.zero_le _) rfl rfl rfl (sf_X10_isTape_124_x M hok n1 d) ?_
  by_cases c6_ : n1 < 0
  · refine pw_eqI (if_pos c6_) ?_
    have b7_ : (-2147483648) ≤ Int32.toInt n1 ∧ Int32.toInt n1 ≤ (-1) := zr_lt_l (-1) c6_ (zbnd n1) (show 0 ≤ Int32.toInt 0 ∧ Int32.toInt 0 ≤ 0 from (by decide)) (by decide)
    show PW 89 d (5, [some (pvR 124), some (pvI n1), some (pvI n2), some (pvI n3), none], [pvI 0], M) _
    refine pw_ifn hT (c := 0 = 0) rfl rfl (fun c8_ => absurd (by decide) c8_) (fun c8_ => ?_)
    refine pw_blk hT 1 (S' := (9, [some (pvR 124), some (pvI n1), some (pvI n2), some (pvI n3), none], [pvI (-1)], M)) rfl ⟨trivial, trivial⟩ ?_
    exact pw_ret hT rfl (r := some (pvI (-1))) (M' := M) ⟨rfl, rfl⟩ ⟨⟨_, rfl, (zr_wide (show (-1) ≤ Int32.toInt (-1) ∧ Int32.toInt (-1) ≤ (-1) from (by decide)) (by decide) (by decide)), (by rw [if_pos c6_]; first | done | (rw [if_pos c6_]; done))⟩, hok, pvfr_0⟩
  · refine pw_eqI (if_neg c6_) ?_
    have b9_ : 0 ≤ Int32.toInt n1 ∧ Int32.toInt n1 ≤ 2147483647 := zr_nlt_l 0 c6_ (zbnd n1) (show 0 ≤ Int32.toInt 0 ∧ Int32.toInt 0 ≤ 0 from (by decide)) (by decide)
    by_cases c10_ : 5 < n1
    · refine pw_eqI (if_pos c10_) ?_
      have b11_ : 6 ≤ Int32.toInt n1 ∧ Int32.toInt n1 ≤ 2147483647 := zr_lt_r 6 c10_ b9_ (show 5 ≤ Int32.toInt 5 ∧ Int32.toInt 5 ≤ 5 from (by decide)) (by decide)
      show PW 89 d (5, [some (pvR 124), some (pvI n1), some (pvI n2), some (pvI n3), none], [pvI 0], M) _
      refine pw_ifn hT (c := 0 = 0) rfl rfl (fun c12_ => absurd (by decide) c12_) (fun c12_ => ?_)
      refine pw_blk hT 1 (S' := (9, [some (pvR 124), some (pvI n1), some (pvI n2), some (pvI n3), none], [pvI (-1)], M)) rfl ⟨trivial, trivial⟩ ?_
      exact pw_ret hT rfl (r := some (pvI (-1))) (M' := M) ⟨rfl, rfl⟩ ⟨⟨_, rfl, (zr_wide (show (-1) ≤ Int32.toInt (-1) ∧ Int32.toInt (-1) ≤ (-1) from (by decide)) (by decide) (by decide)), (by rw [if_neg c6_, if_pos c10_]; first | done | (rw [if_pos c10_]; done))⟩, hok, pvfr_0⟩
    · refine pw_eqI (if_neg c10_) ?_
      have b13_ : 0 ≤ Int32.toInt n1 ∧ Int32.toInt n1 ≤ 5 := zr_nlt_r 5 c10_ b9_ (show 5 ≤ Int32.toInt 5 ∧ Int32.toInt 5 ≤ 5 from (by decide)) (by decide)
      show PW 89 d (5, [some (pvR 124), some (pvI n1), some (pvI n2), some (pvI n3), none], [pvI 1], M) _
      refine pw_ifn hT (c := 1 = 0) rfl rfl (fun c14_ => ?_) (fun c14_ => absurd c14_ (by decide))
      refine pw_blk hT 4 (S' := (14, [some (pvR 124), some (pvI n1), some (pvI n2), some (pvI n3), none], [pvI 4, pvI (-1), pvI n2, pvR 124], M)) rfl ⟨trivial, trivial, trivial, trivial, trivial⟩ ?_
      refine pw_callT hT (as := [pvR 124, pvI n2, pvI (-1), pvI 4]) (lo1 := [some (pvR 124), some (pvI n2), some (pvI (-1)), some (pvI 4)]) (d1 := d) (rest := []) rfl rfl rfl rfl rfl (fun _ => rfl) (Nat.zero_le _) rfl rfl rfl (sf_X10_in_124_x_x_x M hok n2 (-1) 4 d) ?_
      by_cases c20_ : n2 < (-1)
      · refine pw_eqI (if_pos c20_) ?_
        have b21_ : (-2147483648) ≤ Int32.toInt n2 ∧ Int32.toInt n2 ≤ (-2) := zr_lt_l (-2) c20_ (zbnd n2) (show (-1) ≤ Int32.toInt (-1) ∧ Int32.toInt (-1) ≤ (-1) from (by decide)) (by decide)
        show PW 89 d (17, [some (pvR 124), some (pvI n1), some (pvI n2), some (pvI n3), none], [pvI 0], M) _
        refine pw_if hT (c := 0 = 0) rfl rfl (fun c22_ => ?_) (fun c22_ => absurd (by decide) c22_)
        refine pw_blk hT 1 (S' := (32, [some (pvR 124), some (pvI n1), some (pvI n2), some (pvI n3), none], [pvI (-2)], M)) rfl ⟨trivial, trivial⟩ ?_
        exact pw_ret hT rfl (r := some (pvI (-2))) (M' := M) ⟨rfl, rfl⟩ ⟨⟨_, rfl, (zr_wide (show (-2) ≤ Int32.toInt (-2) ∧ Int32.toInt (-2) ≤ (-2) from (by decide)) (by decide) (by decide)), (by rw [if_neg c6_, if_neg c10_, if_pos c20_]; first | done | (rw [if_pos c20_]; done))⟩, hok, pvfr_0⟩
      · refine pw_eqI (if_neg c20_) ?_
        have b23_ : (-1) ≤ Int32.toInt n2 ∧ Int32.toInt n2 ≤ 2147483647 := zr_nlt_l (-1) c20_ (zbnd n2) (show (-1) ≤ Int32.toInt (-1) ∧ Int32.toInt (-1) ≤ (-1) from (by decide)) (by decide)
        by_cases c24_ : 4 < n2
        · refine pw_eqI (if_pos c24_) ?_
          have b25_ : 5 ≤ Int32.toInt n2 ∧ Int32.toInt n2 ≤ 2147483647 := zr_lt_r 5 c24_ b23_ (show 4 ≤ Int32.toInt 4 ∧ Int32.toInt 4 ≤ 4 from (by decide)) (by decide)
          show PW 89 d (17, [some (pvR 124), some (pvI n1), some (pvI n2), some (pvI n3), none], [pvI 0], M) _
          refine pw_if hT (c := 0 = 0) rfl rfl (fun c26_ => ?_) (fun c26_ => absurd (by decide) c26_)
          refine pw_blk hT 1 (S' := (32, [some (pvR 124), some (pvI n1), some (pvI n2), some (pvI n3), none], [pvI (-2)], M)) rfl ⟨trivial, trivial⟩ ?_
          exact pw_ret hT rfl (r := some (pvI (-2))) (M' := M) ⟨rfl, rfl⟩ ⟨⟨_, rfl, (zr_wide (show (-2) ≤ Int32.toInt (-2) ∧ Int32.toInt (-2) ≤ (-2) from (by decide)) (by decide) (by decide)), (by rw [if_neg c6_, if_neg c10_, if_neg c20_, if_pos c24_]; first | done | (rw [if_pos c24_]; done))⟩, hok, pvfr_0⟩
        · refine pw_eqI (if_neg c24_) ?_
          have b27_ : (-1) ≤ Int32.toInt n2 ∧ Int32.toInt n2 ≤ 4 := zr_nlt_r 4 c24_ b23_ (show 4 ≤ Int32.toInt 4 ∧ Int32.toInt 4 ≤ 4 from (by decide)) (by decide)
          show PW 89 d (17, [some (pvR 124), some (pvI n1), some (pvI n2), some (pvI n3), none], [pvI 1], M) _
          refine pw_if hT (c := 1 = 0) rfl rfl (fun c28_ => absurd c28_ (by decide)) (fun c28_ => ?_)
          refine pw_blk hT 1 (S' := (21, [some (pvR 124), some (pvI n1), some (pvI n2), some (pvI n3), none], [pvI n2], M)) rfl ⟨trivial, trivial⟩ ?_
          refine pw_if hT (c := n2 < 0) rfl rfl (fun c29_ => ?_) (fun c29_ => ?_)
          · have b30_ : (-1) ≤ Int32.toInt n2 ∧ Int32.toInt n2 ≤ (-1) := zr_lt_l (-1) c29_ b27_ (show 0 ≤ Int32.toInt 0 ∧ Int32.toInt 0 ≤ 0 from (by decide)) (by decide)
            refine pw_blk hT 1 (S' := (34, [some (pvR 124), some (pvI n1), some (pvI n2), some (pvI n3), none], [pvI n2], M)) rfl ⟨trivial, trivial⟩ ?_
            refine pw_if hT (c := n2 < 0) rfl rfl (fun c31_ => ?_) (fun c31_ => absurd c29_ c31_)
            refine pw_blkw hT 5 (pc := 51) (lo := [some (pvR 124), some (pvI n1), some (pvI n2), some (pvI n3), none]) (st := []) (M := pvu M 164 (Int32.toNatClampNeg n1) n2) rfl ⟨trivial, rfl, trivial, trivial, ⟨rfl, (zr_in (n := 6) b13_ (by decide) (by decide))⟩, trivial⟩ (fun M32_ e33_ => ?_)
            have o34_ : pvOk M32_ := pvok_u2 e33_ hok rfl (zr_wide b30_ (by decide) (by decide))
            have f35_ : pvFr fp_eX10_tape_124_x_x_x M M32_ := pvfr_u e33_ pvfr_0 rfl
            refine pw_blk hT 4 (S' := (57, [some (pvR 124), some (pvI n1), some (pvI n2), some (pvI n3), none], [pvI n2, pvI n1, pvR 165], M32_)) rfl ⟨trivial, rfl, trivial, trivial, trivial⟩ ?_
            refine pw_if hT (c := 0 ≤ n2) rfl rfl (fun c36_ => absurd c36_ (by have z0 := (show 0 ≤ Int32.toInt 0 ∧ Int32.toInt 0 ≤ 0 from (by decide)); have z1 := b30_; rw [zi_le]; omega)) (fun c36_ => ?_)
            refine pw_blkw hT 3 (pc := 66) (lo := [some (pvR 124), some (pvI n1), some (pvI n2), some (pvI n3), none]) (st := []) (M := pvu M32_ 165 (Int32.toNatClampNeg n1) 0) rfl ⟨trivial, trivial, ⟨rfl, (zr_in (n := 6) b13_ (by decide) (by decide))⟩, trivial⟩ (fun M37_ e38_ => ?_)
            have o39_ : pvOk M37_ := pvok_u2 e38_ o34_ rfl (zr_wide (show 0 ≤ Int32.toInt 0 ∧ Int32.toInt 0 ≤ 0 from (by decide)) (by decide) (by decide))
            have f40_ : pvFr fp_eX10_tape_124_x_x_x M M37_ := pvfr_u e38_ f35_ rfl
            refine pw_blk hT 2 (S' := (69, [some (pvR 124), some (pvI n1), some (pvI n2), some (pvI n3), some (pvI 0)], [], M37_)) rfl ⟨trivial, trivial, trivial⟩ ?_
            have hlz95_ : ∀ (nz95_ : Nat) (i4z95_ : Int32) (Mz95_ : pvM), (pvOk Mz95_) → (pvFr fp_eX10_tape_124_x_x_x M Mz95_) → (0 ≤ Int32.toInt i4z95_ ∧ Int32.toInt i4z95_ ≤ 60) → (zhide ((61 - Int32.toInt i4z95_).toNat < nz95_)) → PW 89 d (69, [some (pvR 124), some (pvI n1), some (pvI n2), some (pvI n3), some (pvI i4z95_)], [], Mz95_) (fun r X => (∃ x : Int32, r = some (pvI x) ∧ ((-14) ≤ Int32.toInt x ∧ Int32.toInt x ≤ 1) ∧ x = (if n1 < 0 then (-1) else (if 5 < n1 then (-1) else (if n2 < (-1) then (-2) else (if 4 < n2 then (-2) else (if n2 < 0 then 1 else (if n3 ≤ 60 then (if 0 ≤ n3 then 1 else (-14)) else (-2)))))))) ∧ pvOk X ∧ pvFr fp_eX10_tape_124_x_x_x M X) := by
              intro nz95_
              induction nz95_ with
              | zero => intro i4z95_ Mz95_ oz95_ fz95_ h4z95_ hmz95_; exact absurd (zshow hmz95_) (Nat.not_lt_zero _)
              | succ nz95_ ihz95_ =>
                intro i4z95_ Mz95_ oz95_ fz95_ h4z95_ hmz95_
                refine pw_blk hT 2 (S' := (73, [some (pvR 124), some (pvI n1), some (pvI n2), some (pvI n3), some (pvI i4z95_)], [pvI 60, pvI i4z95_], Mz95_)) rfl ⟨trivial, trivial, trivial⟩ ?_
                refine pw_ic hT (c := 60 ≤ i4z95_) rfl rfl (fun c96_ => ?_) (fun c96_ => ?_)
                · have b97_ : 60 ≤ Int32.toInt i4z95_ ∧ Int32.toInt i4z95_ ≤ 60 := zr_le_r 60 c96_ h4z95_ (show 60 ≤ Int32.toInt 60 ∧ Int32.toInt 60 ≤ 60 from (by decide)) (by decide)
                  refine pw_blk hT 1 (S' := (96, [some (pvR 124), some (pvI n1), some (pvI n2), some (pvI n3), some (pvI i4z95_)], [pvI 1], Mz95_)) rfl ⟨trivial, trivial⟩ ?_
                  exact pw_ret hT rfl (r := some (pvI 1)) (M' := Mz95_) ⟨rfl, rfl⟩ ⟨⟨_, rfl, (zr_wide (show 1 ≤ Int32.toInt 1 ∧ Int32.toInt 1 ≤ 1 from (by decide)) (by decide) (by decide)), (by rw [if_neg c6_, if_neg c10_, if_neg c20_, if_neg c24_, if_pos c29_]; first | done | (rw [if_pos c29_]; done))⟩, oz95_, fz95_⟩
                · have b98_ : 0 ≤ Int32.toInt i4z95_ ∧ Int32.toInt i4z95_ ≤ 59 := zr_nle_r 59 c96_ h4z95_ (show 60 ≤ Int32.toInt 60 ∧ Int32.toInt 60 ≤ 60 from (by decide)) (by decide)
                  have q99_ : Int32.toInt (60 * n1) = 60 * Int32.toInt n1 := by have u0 : Int32.toInt 60 = 60 := (by decide); have u1 := b13_; have u2 := zmul 60 n1 (by rw [u0]; omega) (by rw [u0]; omega); rw [u0] at u2; omega
                  have b100_ : 0 ≤ Int32.toInt (60 * n1) ∧ Int32.toInt (60 * n1) ≤ 300 := (by have u1 := b13_; omega)
                  obtain ⟨q102_, b101_⟩ : (Int32.toInt ((60 * n1) + i4z95_) = Int32.toInt (60 * n1) + Int32.toInt i4z95_) ∧ (0 ≤ Int32.toInt ((60 * n1) + i4z95_) ∧ Int32.toInt ((60 * n1) + i4z95_) ≤ 359) := zadd_r (60 * n1) i4z95_ 0 359 b100_ b98_ (by decide) (by decide) (by decide) (by decide)
                  refine pw_blkw hT 9 (pc := 89) (lo := [some (pvR 124), some (pvI n1), some (pvI n2), some (pvI n3), some (pvI i4z95_)]) (st := []) (M := pvw Mz95_ 166 (Int32.toNatClampNeg ((60 * n1) + i4z95_)) 0) rfl ⟨trivial, rfl, trivial, trivial, trivial, trivial, trivial, trivial, ⟨rfl, (zr_in (n := 360) b101_ (by decide) (by decide))⟩, trivial⟩ (fun M103_ e104_ => ?_)
                  have o105_ : pvOk M103_ := pvok_w e104_ oz95_
                  have f106_ : pvFr fp_eX10_tape_124_x_x_x M M103_ := pvfr_w e104_ fz95_
                  obtain ⟨q108_, b107_⟩ : (Int32.toInt (i4z95_ + 1) = Int32.toInt i4z95_ + 1) ∧ (1 ≤ Int32.toInt (i4z95_ + 1) ∧ Int32.toInt (i4z95_ + 1) ≤ 60) := zadd_k i4z95_ 1 1 1 60 b98_ (by decide) (by decide) (by decide) (by decide) (by decide)
                  refine pw_blk hT 2 (S' := (69, [some (pvR 124), some (pvI n1), some (pvI n2), some (pvI n3), some (pvI (i4z95_ + 1))], [], M103_)) rfl ⟨trivial, trivial, trivial⟩ ?_
                  exact ihz95_ (i4z95_ + 1) M103_ o105_ f106_ (zr_wide b107_ (by decide) (by decide)) (zhid (pvms_up (zshow hmz95_) h4z95_ q108_ (by decide) (by decide)))
            exact hlz95_ _ 0 M37_ o39_ f40_ (zr_wide (show 0 ≤ Int32.toInt 0 ∧ Int32.toInt 0 ≤ 0 from (by decide)) (by decide) (by decide)) (zhid (Nat.lt_succ_self _))
          · have b109_ : 0 ≤ Int32.toInt n2 ∧ Int32.toInt n2 ≤ 4 := zr_nlt_l 0 c29_ b27_ (show 0 ≤ Int32.toInt 0 ∧ Int32.toInt 0 ≤ 0 from (by decide)) (by decide)
            refine pw_blk hT 2 (S' := (27, [some (pvR 124), some (pvI n1), some (pvI n2), some (pvI n3), none], [pvI 60, pvI n3], M)) rfl ⟨trivial, trivial, trivial⟩ ?_
            refine pw_ic hT (c := n3 ≤ 60) rfl rfl (fun c110_ => ?_) (fun c110_ => ?_)
            · have b111_ : (-2147483648) ≤ Int32.toInt n3 ∧ Int32.toInt n3 ≤ 60 := zr_le_l 60 c110_ (zbnd n3) (show 60 ≤ Int32.toInt 60 ∧ Int32.toInt 60 ≤ 60 from (by decide)) (by decide)
              refine pw_blk hT 1 (S' := (34, [some (pvR 124), some (pvI n1), some (pvI n2), some (pvI n3), none], [pvI n2], M)) rfl ⟨trivial, trivial⟩ ?_
              refine pw_if hT (c := n2 < 0) rfl rfl (fun c112_ => absurd c112_ c29_) (fun c112_ => ?_)
              refine pw_blk hT 1 (S' := (38, [some (pvR 124), some (pvI n1), some (pvI n2), some (pvI n3), none], [pvI n3], M)) rfl ⟨trivial, trivial⟩ ?_
              refine pw_if hT (c := 0 ≤ n3) rfl rfl (fun c113_ => ?_) (fun c113_ => ?_)
              · have b114_ : 0 ≤ Int32.toInt n3 ∧ Int32.toInt n3 ≤ 60 := zr_le_r 0 c113_ b111_ (show 0 ≤ Int32.toInt 0 ∧ Int32.toInt 0 ≤ 0 from (by decide)) (by decide)
                refine pw_blkw hT 5 (pc := 51) (lo := [some (pvR 124), some (pvI n1), some (pvI n2), some (pvI n3), none]) (st := []) (M := pvu M 164 (Int32.toNatClampNeg n1) n2) rfl ⟨trivial, rfl, trivial, trivial, ⟨rfl, (zr_in (n := 6) b13_ (by decide) (by decide))⟩, trivial⟩ (fun M115_ e116_ => ?_)
                have o117_ : pvOk M115_ := pvok_u2 e116_ hok rfl (zr_wide b109_ (by decide) (by decide))
                have f118_ : pvFr fp_eX10_tape_124_x_x_x M M115_ := pvfr_u e116_ pvfr_0 rfl
                refine pw_blk hT 4 (S' := (57, [some (pvR 124), some (pvI n1), some (pvI n2), some (pvI n3), none], [pvI n2, pvI n1, pvR 165], M115_)) rfl ⟨trivial, rfl, trivial, trivial, trivial⟩ ?_
                refine pw_if hT (c := 0 ≤ n2) rfl rfl (fun c119_ => ?_) (fun c119_ => absurd (by have z0 := (show 0 ≤ Int32.toInt 0 ∧ Int32.toInt 0 ≤ 0 from (by decide)); have z1 := b109_; rw [zi_le]; omega) c119_)
                refine pw_blkw hT 2 (pc := 66) (lo := [some (pvR 124), some (pvI n1), some (pvI n2), some (pvI n3), none]) (st := []) (M := pvu M115_ 165 (Int32.toNatClampNeg n1) n3) rfl ⟨trivial, ⟨rfl, (zr_in (n := 6) b13_ (by decide) (by decide))⟩, trivial⟩ (fun M120_ e121_ => ?_)
                have o122_ : pvOk M120_ := pvok_u2 e121_ o117_ rfl b114_
                have f123_ : pvFr fp_eX10_tape_124_x_x_x M M120_ := pvfr_u e121_ f118_ rfl
                refine pw_blk hT 2 (S' := (69, [some (pvR 124), some (pvI n1), some (pvI n2), some (pvI n3), some (pvI 0)], [], M120_)) rfl ⟨trivial, trivial, trivial⟩ ?_
                have hlz178_ : ∀ (nz178_ : Nat) (i4z178_ : Int32) (Mz178_ : pvM), (pvOk Mz178_) → (pvFr fp_eX10_tape_124_x_x_x M Mz178_) → (0 ≤ Int32.toInt i4z178_ ∧ Int32.toInt i4z178_ ≤ 60) → (zhide ((61 - Int32.toInt i4z178_).toNat < nz178_)) → PW 89 d (69, [some (pvR 124), some (pvI n1), some (pvI n2), some (pvI n3), some (pvI i4z178_)], [], Mz178_) (fun r X => (∃ x : Int32, r = some (pvI x) ∧ ((-14) ≤ Int32.toInt x ∧ Int32.toInt x ≤ 1) ∧ x = (if n1 < 0 then (-1) else (if 5 < n1 then (-1) else (if n2 < (-1) then (-2) else (if 4 < n2 then (-2) else (if n2 < 0 then 1 else (if n3 ≤ 60 then (if 0 ≤ n3 then 1 else (-14)) else (-2)))))))) ∧ pvOk X ∧ pvFr fp_eX10_tape_124_x_x_x M X) := by
                  intro nz178_
                  induction nz178_ with
                  | zero => intro i4z178_ Mz178_ oz178_ fz178_ h4z178_ hmz178_; exact absurd (zshow hmz178_) (Nat.not_lt_zero _)
                  | succ nz178_ ihz178_ =>
                    intro i4z178_ Mz178_ oz178_ fz178_ h4z178_ hmz178_
                    refine pw_blk hT 2 (S' := (73, [some (pvR 124), some (pvI n1), some (pvI n2), some (pvI n3), some (pvI i4z178_)], [pvI 60, pvI i4z178_], Mz178_)) rfl ⟨trivial, trivial, trivial⟩ ?_
                    refine pw_ic hT (c := 60 ≤ i4z178_) rfl rfl (fun c179_ => ?_) (fun c179_ => ?_)
                    · have b180_ : 60 ≤ Int32.toInt i4z178_ ∧ Int32.toInt i4z178_ ≤ 60 := zr_le_r 60 c179_ h4z178_ (show 60 ≤ Int32.toInt 60 ∧ Int32.toInt 60 ≤ 60 from (by decide)) (by decide)
                      refine pw_blk hT 1 (S' := (96, [some (pvR 124), some (pvI n1), some (pvI n2), some (pvI n3), some (pvI i4z178_)], [pvI 1], Mz178_)) rfl ⟨trivial, trivial⟩ ?_
                      exact pw_ret hT rfl (r := some (pvI 1)) (M' := Mz178_) ⟨rfl, rfl⟩ ⟨⟨_, rfl, (zr_wide (show 1 ≤ Int32.toInt 1 ∧ Int32.toInt 1 ≤ 1 from (by decide)) (by decide) (by decide)), (by rw [if_neg c6_, if_neg c10_, if_neg c20_, if_neg c24_, if_neg c29_, if_pos c110_, if_pos c113_]; first | done | (rw [if_pos c113_]; done))⟩, oz178_, fz178_⟩
                    · have b181_ : 0 ≤ Int32.toInt i4z178_ ∧ Int32.toInt i4z178_ ≤ 59 := zr_nle_r 59 c179_ h4z178_ (show 60 ≤ Int32.toInt 60 ∧ Int32.toInt 60 ≤ 60 from (by decide)) (by decide)
                      have q182_ : Int32.toInt (60 * n1) = 60 * Int32.toInt n1 := by have u0 : Int32.toInt 60 = 60 := (by decide); have u1 := b13_; have u2 := zmul 60 n1 (by rw [u0]; omega) (by rw [u0]; omega); rw [u0] at u2; omega
                      have b183_ : 0 ≤ Int32.toInt (60 * n1) ∧ Int32.toInt (60 * n1) ≤ 300 := (by have u1 := b13_; omega)
                      obtain ⟨q185_, b184_⟩ : (Int32.toInt ((60 * n1) + i4z178_) = Int32.toInt (60 * n1) + Int32.toInt i4z178_) ∧ (0 ≤ Int32.toInt ((60 * n1) + i4z178_) ∧ Int32.toInt ((60 * n1) + i4z178_) ≤ 359) := zadd_r (60 * n1) i4z178_ 0 359 b183_ b181_ (by decide) (by decide) (by decide) (by decide)
                      refine pw_blkw hT 9 (pc := 89) (lo := [some (pvR 124), some (pvI n1), some (pvI n2), some (pvI n3), some (pvI i4z178_)]) (st := []) (M := pvw Mz178_ 166 (Int32.toNatClampNeg ((60 * n1) + i4z178_)) 0) rfl ⟨trivial, rfl, trivial, trivial, trivial, trivial, trivial, trivial, ⟨rfl, (zr_in (n := 360) b184_ (by decide) (by decide))⟩, trivial⟩ (fun M186_ e187_ => ?_)
                      have o188_ : pvOk M186_ := pvok_w e187_ oz178_
                      have f189_ : pvFr fp_eX10_tape_124_x_x_x M M186_ := pvfr_w e187_ fz178_
                      obtain ⟨q191_, b190_⟩ : (Int32.toInt (i4z178_ + 1) = Int32.toInt i4z178_ + 1) ∧ (1 ≤ Int32.toInt (i4z178_ + 1) ∧ Int32.toInt (i4z178_ + 1) ≤ 60) := zadd_k i4z178_ 1 1 1 60 b181_ (by decide) (by decide) (by decide) (by decide) (by decide)
                      refine pw_blk hT 2 (S' := (69, [some (pvR 124), some (pvI n1), some (pvI n2), some (pvI n3), some (pvI (i4z178_ + 1))], [], M186_)) rfl ⟨trivial, trivial, trivial⟩ ?_
                      exact ihz178_ (i4z178_ + 1) M186_ o188_ f189_ (zr_wide b190_ (by decide) (by decide)) (zhid (pvms_up (zshow hmz178_) h4z178_ q191_ (by decide) (by decide)))
                exact hlz178_ _ 0 M120_ o122_ f123_ (zr_wide (show 0 ≤ Int32.toInt 0 ∧ Int32.toInt 0 ≤ 0 from (by decide)) (by decide) (by decide)) (zhid (Nat.lt_succ_self _))
              · have b192_ : (-2147483648) ≤ Int32.toInt n3 ∧ Int32.toInt n3 ≤ (-1) := zr_nle_r (-1) c113_ b111_ (show 0 ≤ Int32.toInt 0 ∧ Int32.toInt 0 ≤ 0 from (by decide)) (by decide)
                refine pw_blk hT 1 (S' := (43, [some (pvR 124), some (pvI n1), some (pvI n2), some (pvI n3), none], [pvI (-14)], M)) rfl ⟨trivial, trivial⟩ ?_
                exact pw_ret hT rfl (r := some (pvI (-14))) (M' := M) ⟨rfl, rfl⟩ ⟨⟨_, rfl, (zr_wide (show (-14) ≤ Int32.toInt (-14) ∧ Int32.toInt (-14) ≤ (-14) from (by decide)) (by decide) (by decide)), (by rw [if_neg c6_, if_neg c10_, if_neg c20_, if_neg c24_, if_neg c29_, if_pos c110_, if_neg c113_]; first | done | (rw [if_neg c113_]; done))⟩, hok, pvfr_0⟩
            · have b193_ : 61 ≤ Int32.toInt n3 ∧ Int32.toInt n3 ≤ 2147483647 := zr_nle_l 61 c110_ (zbnd n3) (show 60 ≤ Int32.toInt 60 ∧ Int32.toInt 60 ≤ 60 from (by decide)) (by decide)
              refine pw_blk hT 1 (S' := (32, [some (pvR 124), some (pvI n1), some (pvI n2), some (pvI n3), none], [pvI (-2)], M)) rfl ⟨trivial, trivial⟩ ?_
              exact pw_ret hT rfl (r := some (pvI (-2))) (M' := M) ⟨rfl, rfl⟩ ⟨⟨_, rfl, (zr_wide (show (-2) ≤ Int32.toInt (-2) ∧ Int32.toInt (-2) ≤ (-2) from (by decide)) (by decide) (by decide)), (by rw [if_neg c6_, if_neg c10_, if_neg c20_, if_neg c24_, if_neg c29_, if_neg c110_]; first | done | (rw [if_neg c110_]; done))⟩, hok, pvfr_0⟩
set_option maxHeartbeats 4000000 in
set_option maxRecDepth 10000 in
theorem se_X10_told_124_x (M : pvM) (hok : pvOk M) (n1 : Int32) (d : Nat) : PW 91 d (0, [some (pvR 124), some (pvI n1)], [], M) (fun r X => (∃ x : Int32, r = some (pvI x) ∧ (-1) ≤ Int32.toInt x ∧ Int32.toInt x ≤ 999999) ∧ X = M ∧ yTo0 n1 r M) := by
  have hT : pvdom 91 = pvD_91 := rfl
  refine pw_blk hT 1 (S' := (1, [some (pvR 124), some (pvI n1)], [pvI n1], M)) rfl ⟨trivial, trivial⟩ ?_
  refine pw_sw hT rfl rfl ?_
  refine And.intro (fun c1_ => ?_) (fun c1_ => ?_)
  · show PW 91 d (52, [some (pvR 124), some (pvI n1)], [], M) _
    have b2_ : 0 ≤ Int32.toInt n1 ∧ Int32.toInt n1 ≤ 0 := (by have u0 := (zbnd n1); have u1 := (zi_eq _ _).mp c1_; have u2 := (show 0 ≤ Int32.toInt 0 ∧ Int32.toInt 0 ≤ 0 from (by decide)); omega)
    have b3_ : 0 ≤ Int32.toInt (M.1 124 1) ∧ Int32.toInt (M.1 124 1) ≤ 9999 := pvok_r hok 124 1 rfl
    refine pw_blk hT 2 (S' := (56, [some (pvR 124), some (pvI n1)], [pvI (M.1 124 1)], M)) rfl ⟨trivial, rfl, trivial⟩ ?_
    exact pw_ret hT rfl (r := some (pvI (M.1 124 1))) (M' := M) ⟨rfl, rfl⟩ ⟨⟨_, rfl, (zr_wide b3_ (by decide) (by decide))⟩, rfl, (yTo0_i (by unfold yHt0; rw [if_pos c1_]))⟩
  · refine And.intro (fun c4_ => ?_) (fun c4_ => ?_)
    · show PW 91 d (57, [some (pvR 124), some (pvI n1)], [], M) _
      have b5_ : 1 ≤ Int32.toInt n1 ∧ Int32.toInt n1 ≤ 1 := (by have u0 := (zbnd n1); have u1 := (zi_eq _ _).mp c4_; have u2 := (show 1 ≤ Int32.toInt 1 ∧ Int32.toInt 1 ≤ 1 from (by decide)); omega)
      have b6_ : 0 ≤ Int32.toInt (M.1 124 2) ∧ Int32.toInt (M.1 124 2) ≤ 999999 := pvok_r hok 124 2 rfl
      refine pw_blk hT 2 (S' := (61, [some (pvR 124), some (pvI n1)], [pvI (M.1 124 2)], M)) rfl ⟨trivial, rfl, trivial⟩ ?_
      exact pw_ret hT rfl (r := some (pvI (M.1 124 2))) (M' := M) ⟨rfl, rfl⟩ ⟨⟨_, rfl, (zr_wide b6_ (by decide) (by decide))⟩, rfl, (yTo0_i (by unfold yHt0; rw [if_neg c1_, if_pos c4_]))⟩
    · refine And.intro (fun c7_ => ?_) (fun c7_ => ?_)
      · show PW 91 d (62, [some (pvR 124), some (pvI n1)], [], M) _
        have b8_ : 2 ≤ Int32.toInt n1 ∧ Int32.toInt n1 ≤ 2 := (by have u0 := (zbnd n1); have u1 := (zi_eq _ _).mp c7_; have u2 := (show 2 ≤ Int32.toInt 2 ∧ Int32.toInt 2 ≤ 2 from (by decide)); omega)
        have b9_ : 0 ≤ Int32.toInt (M.1 124 3) ∧ Int32.toInt (M.1 124 3) ≤ 108 := pvok_r hok 124 3 rfl
        refine pw_blk hT 2 (S' := (66, [some (pvR 124), some (pvI n1)], [pvI (M.1 124 3)], M)) rfl ⟨trivial, rfl, trivial⟩ ?_
        exact pw_ret hT rfl (r := some (pvI (M.1 124 3))) (M' := M) ⟨rfl, rfl⟩ ⟨⟨_, rfl, (zr_wide b9_ (by decide) (by decide))⟩, rfl, (yTo0_i (by unfold yHt0; rw [if_neg c1_, if_neg c4_, if_pos c7_]))⟩
      · refine And.intro (fun c10_ => ?_) (fun c10_ => ?_)
        · show PW 91 d (67, [some (pvR 124), some (pvI n1)], [], M) _
          have b11_ : 3 ≤ Int32.toInt n1 ∧ Int32.toInt n1 ≤ 3 := (by have u0 := (zbnd n1); have u1 := (zi_eq _ _).mp c10_; have u2 := (show 3 ≤ Int32.toInt 3 ∧ Int32.toInt 3 ≤ 3 from (by decide)); omega)
          have b12_ : 0 ≤ Int32.toInt (M.1 124 4) ∧ Int32.toInt (M.1 124 4) ≤ 4 := pvok_r hok 124 4 rfl
          refine pw_blk hT 2 (S' := (71, [some (pvR 124), some (pvI n1)], [pvI (M.1 124 4)], M)) rfl ⟨trivial, rfl, trivial⟩ ?_
          exact pw_ret hT rfl (r := some (pvI (M.1 124 4))) (M' := M) ⟨rfl, rfl⟩ ⟨⟨_, rfl, (zr_wide b12_ (by decide) (by decide))⟩, rfl, (yTo0_i (by unfold yHt0; rw [if_neg c1_, if_neg c4_, if_neg c7_, if_pos c10_]))⟩
        · refine And.intro (fun c13_ => ?_) (fun c13_ => ?_)
          · show PW 91 d (72, [some (pvR 124), some (pvI n1)], [], M) _
            have b14_ : 4 ≤ Int32.toInt n1 ∧ Int32.toInt n1 ≤ 4 := (by have u0 := (zbnd n1); have u1 := (zi_eq _ _).mp c13_; have u2 := (show 4 ≤ Int32.toInt 4 ∧ Int32.toInt 4 ≤ 4 from (by decide)); omega)
            refine pw_blk hT 3 (S' := (75, [some (pvR 124), some (pvI n1)], [pvI 2, pvI 2, pvR 124], M)) rfl ⟨trivial, trivial, trivial, trivial⟩ ?_
            refine pw_callGp hT (as := [pvR 124, pvI 2, pvI 2]) (lo1 := [some (pvR 124), some (pvI 2), some (pvI 2), none, none]) (d1 := d) (rest := []) rfl rfl rfl rfl rfl (fun _ => rfl) (Nat.zero_le _) rfl rfl rfl (se_X10_lastOf_124_x_x M hok 2 2 (zr_wide (show 2 ≤ Int32.toInt 2 ∧ Int32.toInt 2 ≤ 2 from (by decide)) (by decide) (by decide)) (zr_wide (show 2 ≤ Int32.toInt 2 ∧ Int32.toInt 2 ≤ 2 from (by decide)) (by decide) (by decide)) d) (fun x15_ b17_ => ?_)
            have u20_ : Int32.toInt 2 = 2 := by decide
            obtain ⟨b21_, d22_⟩ := b17_
            exact pw_ret hT rfl (r := some (pvI x15_)) (M' := M) ⟨rfl, rfl⟩ ⟨⟨_, rfl, (zr_wide b21_ (by decide) (by decide))⟩, rfl, (yTo0_i (by unfold yHt0; rw [if_neg c1_, if_neg c4_, if_neg c7_, if_neg c10_, if_pos c13_, d22_]))⟩
          · refine And.intro (fun c23_ => ?_) (fun c23_ => ?_)
            · show PW 91 d (79, [some (pvR 124), some (pvI n1)], [], M) _
              have b24_ : 5 ≤ Int32.toInt n1 ∧ Int32.toInt n1 ≤ 5 := (by have u0 := (zbnd n1); have u1 := (zi_eq _ _).mp c23_; have u2 := (show 5 ≤ Int32.toInt 5 ∧ Int32.toInt 5 ≤ 5 from (by decide)); omega)
              refine pw_blk hT 1 (S' := (80, [some (pvR 124), some (pvI n1)], [pvR 124], M)) rfl ⟨trivial, trivial⟩ ?_
              refine pw_callGp hT (as := [pvR 124]) (lo1 := [some (pvR 124)]) (d1 := d) (rest := []) rfl rfl rfl rfl rfl (fun _ => rfl) (Nat.zero_le _) rfl rfl rfl (se_X10_lastNow_124 M hok d) (fun x25_ b27_ => ?_)
              obtain ⟨b30_, d31_⟩ := b27_
              exact pw_ret hT rfl (r := some (pvI x25_)) (M' := M) ⟨rfl, rfl⟩ ⟨⟨_, rfl, (zr_wide b30_ (by decide) (by decide))⟩, rfl, (yTo0_i (by unfold yHt0; rw [if_neg c1_, if_neg c4_, if_neg c7_, if_neg c10_, if_neg c13_, if_pos c23_, d31_]))⟩
            · refine And.intro (fun c32_ => ?_) (fun c32_ => ?_)
              · show PW 91 d (84, [some (pvR 124), some (pvI n1)], [], M) _
                have b33_ : 6 ≤ Int32.toInt n1 ∧ Int32.toInt n1 ≤ 6 := (by have u0 := (zbnd n1); have u1 := (zi_eq _ _).mp c32_; have u2 := (show 6 ≤ Int32.toInt 6 ∧ Int32.toInt 6 ≤ 6 from (by decide)); omega)
                have b34_ : 0 ≤ Int32.toInt (M.1 124 5) ∧ Int32.toInt (M.1 124 5) ≤ 3 := pvok_r hok 124 5 rfl
                refine pw_blk hT 2 (S' := (88, [some (pvR 124), some (pvI n1)], [pvI (M.1 124 5)], M)) rfl ⟨trivial, rfl, trivial⟩ ?_
                exact pw_ret hT rfl (r := some (pvI (M.1 124 5))) (M' := M) ⟨rfl, rfl⟩ ⟨⟨_, rfl, (zr_wide b34_ (by decide) (by decide))⟩, rfl, (yTo0_i (by unfold yHt0; rw [if_neg c1_, if_neg c4_, if_neg c7_, if_neg c10_, if_neg c13_, if_neg c23_, if_pos c32_]))⟩
              · refine And.intro (fun c35_ => ?_) (fun c35_ => ?_)
                · show PW 91 d (89, [some (pvR 124), some (pvI n1)], [], M) _
                  have b36_ : 7 ≤ Int32.toInt n1 ∧ Int32.toInt n1 ≤ 7 := (by have u0 := (zbnd n1); have u1 := (zi_eq _ _).mp c35_; have u2 := (show 7 ≤ Int32.toInt 7 ∧ Int32.toInt 7 ≤ 7 from (by decide)); omega)
                  have b37_ : 0 ≤ Int32.toInt (M.1 124 6) ∧ Int32.toInt (M.1 124 6) ≤ 4 := pvok_r hok 124 6 rfl
                  refine pw_blk hT 2 (S' := (93, [some (pvR 124), some (pvI n1)], [pvI (M.1 124 6)], M)) rfl ⟨trivial, rfl, trivial⟩ ?_
                  exact pw_ret hT rfl (r := some (pvI (M.1 124 6))) (M' := M) ⟨rfl, rfl⟩ ⟨⟨_, rfl, (zr_wide b37_ (by decide) (by decide))⟩, rfl, (yTo0_i (by unfold yHt0; rw [if_neg c1_, if_neg c4_, if_neg c7_, if_neg c10_, if_neg c13_, if_neg c23_, if_neg c32_, if_pos c35_]))⟩
                · refine And.intro (fun c38_ => ?_) (fun c38_ => ?_)
                  · show PW 91 d (94, [some (pvR 124), some (pvI n1)], [], M) _
                    have b39_ : 8 ≤ Int32.toInt n1 ∧ Int32.toInt n1 ≤ 8 := (by have u0 := (zbnd n1); have u1 := (zi_eq _ _).mp c38_; have u2 := (show 8 ≤ Int32.toInt 8 ∧ Int32.toInt 8 ≤ 8 from (by decide)); omega)
                    refine pw_blk hT 1 (S' := (95, [some (pvR 124), some (pvI n1)], [pvR 124], M)) rfl ⟨trivial, trivial⟩ ?_
                    refine pw_callGp hT (as := [pvR 124]) (lo1 := [some (pvR 124), none, none]) (d1 := d) (rest := []) rfl rfl rfl rfl rfl (fun _ => rfl) (Nat.zero_le _) rfl rfl rfl (se_X10_openSet_124 M hok d) (fun x40_ b42_ => ?_)
                    obtain ⟨b45_, d46_⟩ := b42_
                    exact pw_ret hT rfl (r := some (pvI x40_)) (M' := M) ⟨rfl, rfl⟩ ⟨⟨_, rfl, (zr_wide b45_ (by decide) (by decide))⟩, rfl, (yTo0_i (by unfold yHt0; rw [if_neg c1_, if_neg c4_, if_neg c7_, if_neg c10_, if_neg c13_, if_neg c23_, if_neg c32_, if_neg c35_, if_pos c38_, d46_]))⟩
                  · show PW 91 d (99, [some (pvR 124), some (pvI n1)], [], M) _
                    refine pw_blk hT 1 (S' := (100, [some (pvR 124), some (pvI n1)], [pvI (-1)], M)) rfl ⟨trivial, trivial⟩ ?_
                    exact pw_ret hT rfl (r := some (pvI (-1))) (M' := M) ⟨rfl, rfl⟩ ⟨⟨_, rfl, (zr_wide (show (-1) ≤ Int32.toInt (-1) ∧ Int32.toInt (-1) ≤ (-1) from (by decide)) (by decide) (by decide))⟩, rfl, (yTo0_i (by unfold yHt0; rw [if_neg c1_, if_neg c4_, if_neg c7_, if_neg c10_, if_neg c13_, if_neg c23_, if_neg c32_, if_neg c35_, if_neg c38_]))⟩
set_option maxHeartbeats 4000000 in
set_option maxRecDepth 10000 in
theorem se_X10_trace_124_x (M : pvM) (hok : pvOk M) (n1 : Int32) (d : Nat) : PW 92 d (0, [some (pvR 124), some (pvI n1)], [], M) (fun r X => r = some (pvI ((if n1 < 0 then (-1) else (if 19 < n1 then (-1) else (if (M.1 124 70) ≤ n1 then (-1) else (M.1 163 (Int32.toNatClampNeg n1))))))) ∧ X = M) := by
  have hT : pvdom 92 = pvD_92 := rfl
  refine pw_blk hT 4 (S' := (5, [some (pvR 124), some (pvI n1)], [pvI 19, pvI 0, pvI n1, pvR 124], M)) rfl ⟨trivial, trivial, trivial, trivial, trivial⟩ ?_
  refine pw_callT hT (as := [pvR 124, pvI n1, pvI 0, pvI 19]) (lo1 := [some (pvR 124), some (pvI n1), some (pvI 0), some (pvI 19)]) (d1 := d) (rest := []) rfl rfl rfl rfl rfl (fun _ => rfl) (Nat.zero_le _) rfl rfl rfl (sf_X10_in_124_x_x_x M hok n1 0 19 d) ?_
  by_cases c6_ : n1 < 0
  · refine pw_eqI (if_pos c6_) ?_
    have b7_ : (-2147483648) ≤ Int32.toInt n1 ∧ Int32.toInt n1 ≤ (-1) := zr_lt_l (-1) c6_ (zbnd n1) (show 0 ≤ Int32.toInt 0 ∧ Int32.toInt 0 ≤ 0 from (by decide)) (by decide)
    show PW 92 d (8, [some (pvR 124), some (pvI n1)], [pvI 0], M) _
    refine pw_if hT (c := 0 = 0) rfl rfl (fun c8_ => ?_) (fun c8_ => absurd (by decide) c8_)
    refine pw_blk hT 1 (S' := (29, [some (pvR 124), some (pvI n1)], [pvI (-1)], M)) rfl ⟨trivial, trivial⟩ ?_
    exact pw_ret hT rfl (r := some (pvI (-1))) (M' := M) ⟨rfl, rfl⟩ ⟨(by rw [if_pos c6_]; first | done | (rw [if_pos c6_]; done)), rfl⟩
  · refine pw_eqI (if_neg c6_) ?_
    have b9_ : 0 ≤ Int32.toInt n1 ∧ Int32.toInt n1 ≤ 2147483647 := zr_nlt_l 0 c6_ (zbnd n1) (show 0 ≤ Int32.toInt 0 ∧ Int32.toInt 0 ≤ 0 from (by decide)) (by decide)
    by_cases c10_ : 19 < n1
    · refine pw_eqI (if_pos c10_) ?_
      have b11_ : 20 ≤ Int32.toInt n1 ∧ Int32.toInt n1 ≤ 2147483647 := zr_lt_r 20 c10_ b9_ (show 19 ≤ Int32.toInt 19 ∧ Int32.toInt 19 ≤ 19 from (by decide)) (by decide)
      show PW 92 d (8, [some (pvR 124), some (pvI n1)], [pvI 0], M) _
      refine pw_if hT (c := 0 = 0) rfl rfl (fun c12_ => ?_) (fun c12_ => absurd (by decide) c12_)
      refine pw_blk hT 1 (S' := (29, [some (pvR 124), some (pvI n1)], [pvI (-1)], M)) rfl ⟨trivial, trivial⟩ ?_
      exact pw_ret hT rfl (r := some (pvI (-1))) (M' := M) ⟨rfl, rfl⟩ ⟨(by rw [if_neg c6_, if_pos c10_]; first | done | (rw [if_pos c10_]; done)), rfl⟩
    · refine pw_eqI (if_neg c10_) ?_
      have b13_ : 0 ≤ Int32.toInt n1 ∧ Int32.toInt n1 ≤ 19 := zr_nlt_r 19 c10_ b9_ (show 19 ≤ Int32.toInt 19 ∧ Int32.toInt 19 ≤ 19 from (by decide)) (by decide)
      show PW 92 d (8, [some (pvR 124), some (pvI n1)], [pvI 1], M) _
      refine pw_if hT (c := 1 = 0) rfl rfl (fun c14_ => absurd c14_ (by decide)) (fun c14_ => ?_)
      have b15_ : 0 ≤ Int32.toInt (M.1 124 70) ∧ Int32.toInt (M.1 124 70) ≤ 1000000 := pvok_r hok 124 70 rfl
      refine pw_blk hT 3 (S' := (16, [some (pvR 124), some (pvI n1)], [pvI (M.1 124 70), pvI n1], M)) rfl ⟨trivial, trivial, rfl, trivial⟩ ?_
      refine pw_ic hT (c := (M.1 124 70) ≤ n1) rfl rfl (fun c16_ => ?_) (fun c16_ => ?_)
      · have b17_ : 0 ≤ Int32.toInt (M.1 124 70) ∧ Int32.toInt (M.1 124 70) ≤ 19 := zr_le_l 19 c16_ b15_ b13_ (by decide)
        have d18_ : Int32.toInt (M.1 124 70) ≤ Int32.toInt n1 := (zi_le _ _).mp c16_
        refine pw_blk hT 1 (S' := (29, [some (pvR 124), some (pvI n1)], [pvI (-1)], M)) rfl ⟨trivial, trivial⟩ ?_
        exact pw_ret hT rfl (r := some (pvI (-1))) (M' := M) ⟨rfl, rfl⟩ ⟨(by rw [if_neg c6_, if_neg c10_, if_pos c16_]; first | done | (rw [if_pos c16_]; done)), rfl⟩
      · have b19_ : 1 ≤ Int32.toInt (M.1 124 70) ∧ Int32.toInt (M.1 124 70) ≤ 1000000 := zr_nle_l 1 c16_ b15_ b13_ (by decide)
        have d20_ : Int32.toInt (M.1 124 70) > Int32.toInt n1 := Int.not_le.mp ((not_congr (zi_le _ _)).mp c16_)
        refine pw_blk hT 5 (S' := (29, [some (pvR 124), some (pvI n1)], [pvI (M.1 163 (Int32.toNatClampNeg n1))], M)) rfl ⟨trivial, rfl, trivial, ⟨rfl, (zr_in (n := 20) b13_ (by decide) (by decide))⟩, trivial, trivial⟩ ?_
        exact pw_ret hT rfl (r := some (pvI (M.1 163 (Int32.toNatClampNeg n1)))) (M' := M) ⟨rfl, rfl⟩ ⟨(by rw [if_neg c6_, if_neg c10_, if_neg c16_]; first | done | (rw [if_neg c16_]; done)), rfl⟩
def fpL_eX10_two_124_x : List (Nat × Nat × Nat) := [(0, 124, 33), (0, 124, 36), (0, 141, 0), (0, 142, 0), (0, 143, 0), (0, 144, 0)]
def fp_eX10_two_124_x (q k : Nat) : Bool := pvfp fpL_eX10_two_124_x q k
theorem fp_eX10_two_124_x_fp_eX10_goes_124_x_x_x (a b : Nat) (h : fp_eX10_goes_124_x_x_x a b = true) : fp_eX10_two_124_x a b = true := pvfp_sub (l1 := fpL_eX10_goes_124_x_x_x) (l2 := fpL_eX10_two_124_x) (by decide) a b h
theorem fp_eX10_two_124_x_fp_eX10_layOpen_124 (a b : Nat) (h : fp_eX10_layOpen_124 a b = true) : fp_eX10_two_124_x a b = true := pvfp_sub (l1 := fpL_eX10_layOpen_124) (l2 := fpL_eX10_two_124_x) (by decide) a b h
theorem fp_eX10_two_124_x_fp_eX10_layRain_124 (a b : Nat) (h : fp_eX10_layRain_124 a b = true) : fp_eX10_two_124_x a b = true := pvfp_sub (l1 := fpL_eX10_layRain_124) (l2 := fpL_eX10_two_124_x) (by decide) a b h
theorem fp_eX10_two_124_x_fp_eX10_layRound_124 (a b : Nat) (h : fp_eX10_layRound_124 a b = true) : fp_eX10_two_124_x a b = true := pvfp_sub (l1 := fpL_eX10_layRound_124) (l2 := fpL_eX10_two_124_x) (by decide) a b h
set_option maxHeartbeats 4000000 in
set_option maxRecDepth 10000 in
theorem se_X10_two_124_x (M : pvM) (hok : pvOk M) (n1 : Int32) (hz : pvWF M) (d : Nat) : PW 93 d (0, [some (pvR 124), some (pvI n1), none, none, none], [], M) (fun r X => (∃ x : Int32, r = some (pvI x) ∧ (-1) ≤ Int32.toInt x ∧ Int32.toInt x ≤ 9000000) ∧ pvOk X ∧ pvFr fp_eX10_two_124_x M X ∧ yA0 (yGtw n1) r M) := by
  have hT : pvdom 93 = pvD_93 := rfl
  refine pw_blk hT 4 (S' := (4, [some (pvR 124), some (pvI n1), none, none, none], [pvI 1, pvI 0, pvI n1, pvR 124], M)) rfl ⟨trivial, trivial, trivial, trivial, trivial⟩ ?_
  refine pw_callT hT (as := [pvR 124, pvI n1, pvI 0, pvI 1]) (lo1 := [some (pvR 124), some (pvI n1), some (pvI 0), some (pvI 1)]) (d1 := d) (rest := []) rfl rfl rfl rfl rfl (fun _ => rfl) (Nat.zero_le _) rfl rfl rfl (sf_X10_in_124_x_x_x M hok n1 0 1 d) ?_
  by_cases c6_ : n1 < 0
  · refine pw_eqI (if_pos c6_) ?_
    have b7_ : (-2147483648) ≤ Int32.toInt n1 ∧ Int32.toInt n1 ≤ (-1) := zr_lt_l (-1) c6_ (zbnd n1) (show 0 ≤ Int32.toInt 0 ∧ Int32.toInt 0 ≤ 0 from (by decide)) (by decide)
    show PW 93 d (7, [some (pvR 124), some (pvI n1), none, none, none], [pvI 0], M) _
    refine pw_ifn hT (c := 0 = 0) rfl rfl (fun c8_ => absurd (by decide) c8_) (fun c8_ => ?_)
    refine pw_blk hT 1 (S' := (11, [some (pvR 124), some (pvI n1), none, none, none], [pvI (-1)], M)) rfl ⟨trivial, trivial⟩ ?_
    exact pw_ret hT rfl (r := some (pvI (-1))) (M' := M) ⟨rfl, rfl⟩ ⟨⟨_, rfl, (zr_wide (show (-1) ≤ Int32.toInt (-1) ∧ Int32.toInt (-1) ≤ (-1) from (by decide)) (by decide) (by decide))⟩, hok, pvfr_0, (yGtw0_n (by have u := b7_; omega) (by decide))⟩
  · refine pw_eqI (if_neg c6_) ?_
    have b9_ : 0 ≤ Int32.toInt n1 ∧ Int32.toInt n1 ≤ 2147483647 := zr_nlt_l 0 c6_ (zbnd n1) (show 0 ≤ Int32.toInt 0 ∧ Int32.toInt 0 ≤ 0 from (by decide)) (by decide)
    by_cases c10_ : 1 < n1
    · refine pw_eqI (if_pos c10_) ?_
      have b11_ : 2 ≤ Int32.toInt n1 ∧ Int32.toInt n1 ≤ 2147483647 := zr_lt_r 2 c10_ b9_ (show 1 ≤ Int32.toInt 1 ∧ Int32.toInt 1 ≤ 1 from (by decide)) (by decide)
      show PW 93 d (7, [some (pvR 124), some (pvI n1), none, none, none], [pvI 0], M) _
      refine pw_ifn hT (c := 0 = 0) rfl rfl (fun c12_ => absurd (by decide) c12_) (fun c12_ => ?_)
      refine pw_blk hT 1 (S' := (11, [some (pvR 124), some (pvI n1), none, none, none], [pvI (-1)], M)) rfl ⟨trivial, trivial⟩ ?_
      exact pw_ret hT rfl (r := some (pvI (-1))) (M' := M) ⟨rfl, rfl⟩ ⟨⟨_, rfl, (zr_wide (show (-1) ≤ Int32.toInt (-1) ∧ Int32.toInt (-1) ≤ (-1) from (by decide)) (by decide) (by decide))⟩, hok, pvfr_0, (yGtw0_n (by have u := b11_; omega) (by decide))⟩
    · refine pw_eqI (if_neg c10_) ?_
      have b13_ : 0 ≤ Int32.toInt n1 ∧ Int32.toInt n1 ≤ 1 := zr_nlt_r 1 c10_ b9_ (show 1 ≤ Int32.toInt 1 ∧ Int32.toInt 1 ≤ 1 from (by decide)) (by decide)
      show PW 93 d (7, [some (pvR 124), some (pvI n1), none, none, none], [pvI 1], M) _
      refine pw_ifn hT (c := 1 = 0) rfl rfl (fun c14_ => ?_) (fun c14_ => absurd c14_ (by decide))
      refine pw_blk hT 1 (S' := (13, [some (pvR 124), some (pvI n1), none, none, none], [pvR 124], M)) rfl ⟨trivial, trivial⟩ ?_
      refine pw_callVd hT (as := [pvR 124]) (lo1 := [some (pvR 124), none, none]) (d1 := d) (rest := []) rfl rfl rfl rfl rfl (fun _ => rfl) (Nat.zero_le _) rfl rfl rfl (se_X10_layRain_124 M hok hz d) (fun M17_ o19_ g20_ d15_ => ?_)
      have f21_ : pvFr fp_eX10_two_124_x M M17_ := pvfr_t g20_ pvfr_0 fp_eX10_two_124_x_fp_eX10_layRain_124
      refine pw_blk hT 1 (S' := (17, [some (pvR 124), some (pvI n1), none, none, none], [pvR 124], M17_)) rfl ⟨trivial, trivial⟩ ?_
      refine pw_callVd hT (as := [pvR 124]) (lo1 := [some (pvR 124), none]) (d1 := d) (rest := []) rfl rfl rfl rfl rfl (fun _ => rfl) (Nat.zero_le _) rfl rfl rfl (se_X10_layRound_124 M17_ o19_ d) (fun M24_ o26_ g27_ d22_ => ?_)
      have f28_ : pvFr fp_eX10_two_124_x M M24_ := pvfr_t g27_ f21_ fp_eX10_two_124_x_fp_eX10_layRound_124
      refine pw_blk hT 1 (S' := (21, [some (pvR 124), some (pvI n1), none, none, none], [pvR 124], M24_)) rfl ⟨trivial, trivial⟩ ?_
      refine pw_callVd hT (as := [pvR 124]) (lo1 := [some (pvR 124), none]) (d1 := d) (rest := []) rfl rfl rfl rfl rfl (fun _ => rfl) (Nat.zero_le _) rfl rfl rfl (se_X10_layOpen_124 M24_ o26_ d) (fun M31_ o33_ g34_ d29_ => ?_)
      have f35_ : pvFr fp_eX10_two_124_x M M31_ := pvfr_t g34_ f28_ fp_eX10_two_124_x_fp_eX10_layOpen_124
      have b36_ : 0 ≤ Int32.toInt (M31_.1 124 37) ∧ Int32.toInt (M31_.1 124 37) ≤ 7 := pvok_r o33_ 124 37 rfl
      have q37_ : Int32.toInt ((M31_.1 124 37) / 2) = Int32.toInt (M31_.1 124 37) / 2 := by have u0 := b36_; have u := zdiv_p (M31_.1 124 37) 2 (by omega) (by decide) (by decide); have e0 : nI 2 = (2 : Int32) := rfl; rw [e0] at u; omega
      have b38_ : 0 ≤ Int32.toInt ((M31_.1 124 37) / 2) ∧ Int32.toInt ((M31_.1 124 37) / 2) ≤ 3 := (by have u0 := b36_; omega)
      obtain ⟨q40_, b39_⟩ : (Int32.toInt ((M31_.1 124 37) - ((M31_.1 124 37) / 2)) = Int32.toInt (M31_.1 124 37) - Int32.toInt ((M31_.1 124 37) / 2)) ∧ ((-3) ≤ Int32.toInt ((M31_.1 124 37) - ((M31_.1 124 37) / 2)) ∧ Int32.toInt ((M31_.1 124 37) - ((M31_.1 124 37) / 2)) ≤ 7) := zsub_r (M31_.1 124 37) ((M31_.1 124 37) / 2) (-3) 7 b36_ b38_ (by decide) (by decide) (by decide) (by decide)
      have b41_ : 0 ≤ Int32.toInt (M31_.1 124 1) ∧ Int32.toInt (M31_.1 124 1) ≤ 9999 := pvok_r o33_ 124 1 rfl
      refine pw_blk hT 13 (S' := (43, [some (pvR 124), some (pvI n1), some (pvI ((M31_.1 124 37) - ((M31_.1 124 37) / 2))), none, none], [pvI (M31_.1 124 1), pvI ((M31_.1 124 37) - ((M31_.1 124 37) / 2)), pvI 0, pvR 124], M31_)) rfl ⟨trivial, rfl, trivial, rfl, trivial, (by decide), trivial, trivial, trivial, trivial, trivial, trivial, rfl, trivial⟩ ?_
      refine pw_callGd hT (as := [pvR 124, pvI 0, pvI ((M31_.1 124 37) - ((M31_.1 124 37) / 2)), pvI (M31_.1 124 1)]) (lo1 := [some (pvR 124), some (pvI 0), some (pvI ((M31_.1 124 37) - ((M31_.1 124 37) / 2))), some (pvI (M31_.1 124 1)), none, none, none, none, none]) (d1 := d) (rest := []) rfl rfl rfl rfl rfl (fun _ => rfl) (Nat.zero_le _) rfl rfl rfl (se_X10_goes_124_x_x_x M31_ o33_ 0 ((M31_.1 124 37) - ((M31_.1 124 37) / 2)) (M31_.1 124 1) (zr_wide (show 0 ≤ Int32.toInt 0 ∧ Int32.toInt 0 ≤ 0 from (by decide)) (by decide) (by decide)) (by have u0 := b39_; omega) (zr_wide b41_ (by decide) (by decide)) d) (fun x43_ M44_ b45_ o46_ g47_ d42_ => ?_)
      have f48_ : pvFr fp_eX10_two_124_x M M44_ := pvfr_t g47_ f35_ fp_eX10_two_124_x_fp_eX10_goes_124_x_x_x
      have b49_ : 0 ≤ Int32.toInt (M44_.1 124 37) ∧ Int32.toInt (M44_.1 124 37) ≤ 7 := pvok_r o46_ 124 37 rfl
      have b50_ : 0 ≤ Int32.toInt (M44_.1 124 1) ∧ Int32.toInt (M44_.1 124 1) ≤ 9999 := pvok_r o46_ 124 1 rfl
      refine pw_blk hT 7 (S' := (57, [some (pvR 124), some (pvI n1), some (pvI ((M31_.1 124 37) - ((M31_.1 124 37) / 2))), some (pvI x43_), none], [pvI (M44_.1 124 1), pvI (M44_.1 124 37), pvI ((M31_.1 124 37) - ((M31_.1 124 37) / 2)), pvR 124], M44_)) rfl ⟨trivial, trivial, trivial, trivial, rfl, trivial, rfl, trivial⟩ ?_
      refine pw_callGd hT (as := [pvR 124, pvI ((M31_.1 124 37) - ((M31_.1 124 37) / 2)), pvI (M44_.1 124 37), pvI (M44_.1 124 1)]) (lo1 := [some (pvR 124), some (pvI ((M31_.1 124 37) - ((M31_.1 124 37) / 2))), some (pvI (M44_.1 124 37)), some (pvI (M44_.1 124 1)), none, none, none, none, none]) (d1 := d) (rest := []) rfl rfl rfl rfl rfl (fun _ => rfl) (Nat.zero_le _) rfl rfl rfl (se_X10_goes_124_x_x_x M44_ o46_ ((M31_.1 124 37) - ((M31_.1 124 37) / 2)) (M44_.1 124 37) (M44_.1 124 1) (by have u0 := b39_; omega) b49_ (zr_wide b50_ (by decide) (by decide)) d) (fun x52_ M53_ b54_ o55_ g56_ d51_ => ?_)
      have f57_ : pvFr fp_eX10_two_124_x M M53_ := pvfr_t g56_ f48_ fp_eX10_two_124_x_fp_eX10_goes_124_x_x_x
      refine pw_blk hT 2 (S' := (63, [some (pvR 124), some (pvI n1), some (pvI ((M31_.1 124 37) - ((M31_.1 124 37) / 2))), some (pvI x43_), some (pvI x52_)], [pvI n1], M53_)) rfl ⟨trivial, trivial, trivial⟩ ?_
      refine pw_ifn hT (c := n1 = 0) rfl rfl (fun c58_ => ?_) (fun c58_ => ?_)
      · have b59_ : 1 ≤ Int32.toInt n1 ∧ Int32.toInt n1 ≤ 1 := (by have u0 := b13_; have u1 := (not_congr (zi_eq _ _)).mp c58_; have u2 := (show 0 ≤ Int32.toInt 0 ∧ Int32.toInt 0 ≤ 0 from (by decide)); omega)
        refine pw_blk hT 2 (S' := (76, [some (pvR 124), some (pvI n1), some (pvI ((M31_.1 124 37) - ((M31_.1 124 37) / 2))), some (pvI x43_), some (pvI x52_)], [pvI x52_, pvI x43_], M53_)) rfl ⟨trivial, trivial, trivial⟩ ?_
        refine pw_ic hT (c := x43_ ≤ x52_) rfl rfl (fun c60_ => ?_) (fun c60_ => ?_)
        · have d61_ : Int32.toInt x43_ ≤ Int32.toInt x52_ := (zi_le _ _).mp c60_
          refine pw_blk hT 1 (S' := (85, [some (pvR 124), some (pvI n1), some (pvI ((M31_.1 124 37) - ((M31_.1 124 37) / 2))), some (pvI x43_), some (pvI x52_)], [pvI x52_], M53_)) rfl ⟨trivial, trivial⟩ ?_
          exact pw_ret hT rfl (r := some (pvI x52_)) (M' := M53_) ⟨rfl, rfl⟩ ⟨⟨_, rfl, (zr_wide b54_ (by decide) (by decide))⟩, o55_, f57_, (yGtw0_1 (yTw0 d15_ d22_ d29_ d42_ d51_ rfl rfl (by omega) rfl) (by have u := b59_; omega) (by have u := b59_; omega) (by omega))⟩
        · have b62_ : 1 ≤ Int32.toInt x43_ ∧ Int32.toInt x43_ ≤ 64000 := zr_nle_l 1 c60_ b45_ b54_ (by decide)
          have b63_ : 0 ≤ Int32.toInt x52_ ∧ Int32.toInt x52_ ≤ 63999 := zr_nle_r 63999 c60_ b54_ b62_ (by decide)
          have d64_ : Int32.toInt x43_ > Int32.toInt x52_ := Int.not_le.mp ((not_congr (zi_le _ _)).mp c60_)
          refine pw_blk hT 2 (S' := (85, [some (pvR 124), some (pvI n1), some (pvI ((M31_.1 124 37) - ((M31_.1 124 37) / 2))), some (pvI x43_), some (pvI x52_)], [pvI x43_], M53_)) rfl ⟨trivial, trivial, trivial⟩ ?_
          exact pw_ret hT rfl (r := some (pvI x43_)) (M' := M53_) ⟨rfl, rfl⟩ ⟨⟨_, rfl, (zr_wide b62_ (by decide) (by decide))⟩, o55_, f57_, (yGtw0_1 (yTw0 d15_ d22_ d29_ d42_ d51_ rfl rfl (by omega) rfl) (by have u := b59_; omega) (by have u := b59_; omega) (by omega))⟩
      · have b65_ : 0 ≤ Int32.toInt n1 ∧ Int32.toInt n1 ≤ 0 := (by have u0 := b13_; have u1 := (zi_eq _ _).mp c58_; have u2 := (show 0 ≤ Int32.toInt 0 ∧ Int32.toInt 0 ≤ 0 from (by decide)); omega)
        refine pw_blk hT 1 (S' := (67, [some (pvR 124), some (pvI n1), some (pvI ((M31_.1 124 37) - ((M31_.1 124 37) / 2))), some (pvI x43_), some (pvI x52_)], [pvR 124], M53_)) rfl ⟨trivial, trivial⟩ ?_
        refine pw_callGp hT (as := [pvR 124]) (lo1 := [some (pvR 124)]) (d1 := d) (rest := []) rfl rfl rfl rfl rfl (fun _ => rfl) (Nat.zero_le _) rfl rfl rfl (se_X10_harmTillEnd_124 M53_ o55_ d) (fun x66_ b68_ => ?_)
        obtain ⟨b71_, d72_⟩ := b68_
        refine pw_blk hT 1 (S' := (85, [some (pvR 124), some (pvI n1), some (pvI ((M31_.1 124 37) - ((M31_.1 124 37) / 2))), some (pvI x43_), some (pvI x52_)], [pvI x66_], M53_)) rfl ⟨trivial, trivial⟩ ?_
        exact pw_ret hT rfl (r := some (pvI x66_)) (M' := M53_) ⟨rfl, rfl⟩ ⟨⟨_, rfl, (zr_wide b71_ (by decide) (by decide))⟩, o55_, f57_, (yGtw0_0 o55_ (yTw0 d15_ d22_ d29_ d42_ d51_ rfl rfl (by omega) rfl) (by have u := b65_; omega) (by have u := b65_; omega) d72_)⟩
