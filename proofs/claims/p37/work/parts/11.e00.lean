def fpL_eX10_begin_124_x : List (Nat × Nat × Nat) := [(0, 124, 4), (0, 124, 33), (0, 124, 36), (0, 141, 0), (0, 142, 0), (0, 143, 0), (0, 144, 0)]
def fp_eX10_begin_124_x (q k : Nat) : Bool := pvfp fpL_eX10_begin_124_x q k
theorem fp_eX10_begin_124_x_fp_X10_costOfPath_124_x (a b : Nat) (h : fp_X10_costOfPath_124_x a b = true) : fp_eX10_begin_124_x a b = true := pvfp_sub (l1 := fpL_X10_costOfPath_124_x) (l2 := fpL_eX10_begin_124_x) (by decide) a b h
theorem fp_eX10_begin_124_x_fp_X10_layRain_124 (a b : Nat) (h : fp_X10_layRain_124 a b = true) : fp_eX10_begin_124_x a b = true := pvfp_sub (l1 := fpL_X10_layRain_124) (l2 := fpL_eX10_begin_124_x) (by decide) a b h
theorem fp_eX10_begin_124_x_fp_X10_layRound_124 (a b : Nat) (h : fp_X10_layRound_124 a b = true) : fp_eX10_begin_124_x a b = true := pvfp_sub (l1 := fpL_X10_layRound_124) (l2 := fpL_eX10_begin_124_x) (by decide) a b h
set_option maxHeartbeats 4000000 in
set_option maxRecDepth 10000 in
theorem se_X10_begin_124_x (M : pvM) (hok : pvOk M) (n1 : Int32) (hz : pvWF M) (d : Nat) : PW 8 d (0, [some (pvR 124), some (pvI n1), none, none, none, none], [], M) (fun r X => (∃ x : Int32, r = some (pvI x) ∧ (-1) ≤ Int32.toInt x ∧ Int32.toInt x ≤ 2147483647) ∧ pvOk X ∧ pvFr fp_eX10_begin_124_x M X ∧ X.1 124 3 = M.1 124 3) := by
  have hT : pvdom 8 = pvD_8 := rfl
  refine pw_blk hT 4 (S' := (4, [some (pvR 124), some (pvI n1), none, none, none, none], [pvI 1, pvI 0, pvI n1, pvR 124], M)) rfl ⟨trivial, trivial, trivial, trivial, trivial⟩ ?_
  refine pw_callT hT (as := [pvR 124, pvI n1, pvI 0, pvI 1]) (lo1 := [some (pvR 124), some (pvI n1), some (pvI 0), some (pvI 1)]) (d1 := d) (rest := []) rfl rfl rfl rfl rfl (fun _ => rfl) (Nat.zero_le _) rfl rfl rfl (sf_X10_in_124_x_x_x M hok n1 0 1 d) ?_
  by_cases c6_ : n1 < 0
  · refine pw_eqI (if_pos c6_) ?_
    have b7_ : (-2147483648) ≤ Int32.toInt n1 ∧ Int32.toInt n1 ≤ (-1) := zr_lt_l (-1) c6_ (zbnd n1) (show 0 ≤ Int32.toInt 0 ∧ Int32.toInt 0 ≤ 0 from (by decide)) (by decide)
    show PW 8 d (7, [some (pvR 124), some (pvI n1), none, none, none, none], [pvI 0], M) _
    refine pw_ifn hT (c := 0 = 0) rfl rfl (fun c8_ => absurd (by decide) c8_) (fun c8_ => ?_)
    refine pw_blk hT 1 (S' := (11, [some (pvR 124), some (pvI n1), none, none, none, none], [pvI (-1)], M)) rfl ⟨trivial, trivial⟩ ?_
    exact pw_ret hT rfl (r := some (pvI (-1))) (M' := M) ⟨rfl, rfl⟩ ⟨⟨_, rfl, (zr_wide (show (-1) ≤ Int32.toInt (-1) ∧ Int32.toInt (-1) ≤ (-1) from (by decide)) (by decide) (by decide))⟩, hok, pvfr_0, rfl⟩
  · refine pw_eqI (if_neg c6_) ?_
    have b9_ : 0 ≤ Int32.toInt n1 ∧ Int32.toInt n1 ≤ 2147483647 := zr_nlt_l 0 c6_ (zbnd n1) (show 0 ≤ Int32.toInt 0 ∧ Int32.toInt 0 ≤ 0 from (by decide)) (by decide)
    by_cases c10_ : 1 < n1
    · refine pw_eqI (if_pos c10_) ?_
      have b11_ : 2 ≤ Int32.toInt n1 ∧ Int32.toInt n1 ≤ 2147483647 := zr_lt_r 2 c10_ b9_ (show 1 ≤ Int32.toInt 1 ∧ Int32.toInt 1 ≤ 1 from (by decide)) (by decide)
      show PW 8 d (7, [some (pvR 124), some (pvI n1), none, none, none, none], [pvI 0], M) _
      refine pw_ifn hT (c := 0 = 0) rfl rfl (fun c12_ => absurd (by decide) c12_) (fun c12_ => ?_)
      refine pw_blk hT 1 (S' := (11, [some (pvR 124), some (pvI n1), none, none, none, none], [pvI (-1)], M)) rfl ⟨trivial, trivial⟩ ?_
      exact pw_ret hT rfl (r := some (pvI (-1))) (M' := M) ⟨rfl, rfl⟩ ⟨⟨_, rfl, (zr_wide (show (-1) ≤ Int32.toInt (-1) ∧ Int32.toInt (-1) ≤ (-1) from (by decide)) (by decide) (by decide))⟩, hok, pvfr_0, rfl⟩
    · refine pw_eqI (if_neg c10_) ?_
      have b13_ : 0 ≤ Int32.toInt n1 ∧ Int32.toInt n1 ≤ 1 := zr_nlt_r 1 c10_ b9_ (show 1 ≤ Int32.toInt 1 ∧ Int32.toInt 1 ≤ 1 from (by decide)) (by decide)
      show PW 8 d (7, [some (pvR 124), some (pvI n1), none, none, none, none], [pvI 1], M) _
      refine pw_ifn hT (c := 1 = 0) rfl rfl (fun c14_ => ?_) (fun c14_ => absurd c14_ (by decide))
      have b15_ : 0 ≤ Int32.toInt (M.1 124 3) ∧ Int32.toInt (M.1 124 3) ≤ 108 := pvok_r hok 124 3 rfl
      refine pw_blk hT 8 (S' := (23, [some (pvR 124), some (pvI n1), some (pvI (M.1 124 3)), some (pvI 0), some (pvI (-1)), none], [pvR 124], M)) rfl ⟨trivial, rfl, trivial, trivial, trivial, trivial, trivial, trivial, trivial⟩ ?_
      refine pw_callV hT (as := [pvR 124]) (lo1 := [some (pvR 124), none, none]) (d1 := d) (rest := []) rfl rfl rfl rfl rfl (fun _ => rfl) (Nat.zero_le _) rfl rfl rfl (sf_X10_layRain_124 M hok hz d) (fun M17_ o19_ g20_ => ?_)
      have f21_ : pvFr fp_eX10_begin_124_x M M17_ := pvfr_t g20_ pvfr_0 fp_eX10_begin_124_x_fp_X10_layRain_124
      refine pw_blk hT 1 (S' := (27, [some (pvR 124), some (pvI n1), some (pvI (M.1 124 3)), some (pvI 0), some (pvI (-1)), none], [pvR 124], M17_)) rfl ⟨trivial, trivial⟩ ?_
      refine pw_callV hT (as := [pvR 124]) (lo1 := [some (pvR 124), none]) (d1 := d) (rest := []) rfl rfl rfl rfl rfl (fun _ => rfl) (Nat.zero_le _) rfl rfl rfl (sf_X10_layRound_124 M17_ o19_ d) (fun M23_ o25_ g26_ => ?_)
      have f27_ : pvFr fp_eX10_begin_124_x M M23_ := pvfr_t g26_ f21_ fp_eX10_begin_124_x_fp_X10_layRound_124
      refine pw_blkw hT 3 (pc := 35) (lo := [some (pvR 124), some (pvI n1), some (pvI (M.1 124 3)), some (pvI 0), some (pvI (-1)), none]) (st := []) (M := pvu M23_ 124 3 0) rfl ⟨trivial, trivial, rfl, trivial⟩ (fun M28_ e29_ => ?_)
      have o30_ : pvOk M28_ := pvok_u2 e29_ o25_ rfl (zr_wide (show 0 ≤ Int32.toInt 0 ∧ Int32.toInt 0 ≤ 0 from (by decide)) (by decide) (by decide))
      have f31_ : pvFr fp_eX10_begin_124_x M M28_ := pvfr_u e29_ f27_ rfl
      have hlz160_ : ∀ (nz160_ : Nat) (i3z160_ : Int32) (i4z160_ : Int32) (v5z160_ : Option pvV) (Mz160_ : pvM), (pvOk Mz160_) → (pvFr fp_eX10_begin_124_x M Mz160_) → (0 ≤ Int32.toInt i3z160_ ∧ Int32.toInt i3z160_ ≤ 2147483647) → ((-1) ≤ Int32.toInt i4z160_ ∧ Int32.toInt i4z160_ ≤ 2147483647) → (zhide ((101 - Int32.toInt (Mz160_.1 124 3)).toNat < nz160_)) → PW 8 d (35, [some (pvR 124), some (pvI n1), some (pvI (M.1 124 3)), some (pvI i3z160_), some (pvI i4z160_), v5z160_], [], Mz160_) (fun r X => (∃ x : Int32, r = some (pvI x) ∧ (-1) ≤ Int32.toInt x ∧ Int32.toInt x ≤ 2147483647) ∧ pvOk X ∧ pvFr fp_eX10_begin_124_x M X ∧ X.1 124 3 = M.1 124 3) := by
        intro nz160_
        induction nz160_ with
        | zero => intro i3z160_ i4z160_ v5z160_ Mz160_ oz160_ fz160_ h3z160_ h4z160_ hmz160_; exact absurd (zshow hmz160_) (Nat.not_lt_zero _)
        | succ nz160_ ihz160_ =>
          intro i3z160_ i4z160_ v5z160_ Mz160_ oz160_ fz160_ h3z160_ h4z160_ hmz160_
          have b161_ : 0 ≤ Int32.toInt (Mz160_.1 124 3) ∧ Int32.toInt (Mz160_.1 124 3) ≤ 108 := pvok_r oz160_ 124 3 rfl
          refine pw_blk hT 3 (S' := (41, [some (pvR 124), some (pvI n1), some (pvI (M.1 124 3)), some (pvI i3z160_), some (pvI i4z160_), v5z160_], [pvI 100, pvI (Mz160_.1 124 3)], Mz160_)) rfl ⟨trivial, rfl, trivial, trivial⟩ ?_
          refine pw_ic hT (c := 100 ≤ (Mz160_.1 124 3)) rfl rfl (fun c162_ => ?_) (fun c162_ => ?_)
          · have b163_ : 100 ≤ Int32.toInt (Mz160_.1 124 3) ∧ Int32.toInt (Mz160_.1 124 3) ≤ 108 := zr_le_r 100 c162_ b161_ (show 100 ≤ Int32.toInt 100 ∧ Int32.toInt 100 ≤ 100 from (by decide)) (by decide)
            refine pw_blkw hT 3 (pc := 88) (lo := [some (pvR 124), some (pvI n1), some (pvI (M.1 124 3)), some (pvI i3z160_), some (pvI i4z160_), v5z160_]) (st := []) (M := pvu Mz160_ 124 3 (M.1 124 3)) rfl ⟨trivial, trivial, rfl, trivial⟩ (fun M164_ e165_ => ?_)
            have o166_ : pvOk M164_ := pvok_u2 e165_ oz160_ rfl b15_
            have f167_ : pvFr fp_eX10_begin_124_x M M164_ := pvfr_u e165_ fz160_ rfl
            refine pw_blk hT 1 (S' := (89, [some (pvR 124), some (pvI n1), some (pvI (M.1 124 3)), some (pvI i3z160_), some (pvI i4z160_), v5z160_], [pvI n1], M164_)) rfl ⟨trivial, trivial⟩ ?_
            refine pw_ifn hT (c := n1 = 0) rfl rfl (fun c168_ => ?_) (fun c168_ => ?_)
            · have b169_ : 1 ≤ Int32.toInt n1 ∧ Int32.toInt n1 ≤ 1 := (by have u0 := b13_; have u1 := (not_congr (zi_eq _ _)).mp c168_; have u2 := (show 0 ≤ Int32.toInt 0 ∧ Int32.toInt 0 ≤ 0 from (by decide)); omega)
              refine pw_blk hT 1 (S' := (98, [some (pvR 124), some (pvI n1), some (pvI (M.1 124 3)), some (pvI i3z160_), some (pvI i4z160_), v5z160_], [pvI i4z160_], M164_)) rfl ⟨trivial, trivial⟩ ?_
              exact pw_ret hT rfl (r := some (pvI i4z160_)) (M' := M164_) ⟨rfl, rfl⟩ ⟨⟨_, rfl, h4z160_⟩, o166_, f167_, (pvu_s e165_)⟩
            · have b170_ : 0 ≤ Int32.toInt n1 ∧ Int32.toInt n1 ≤ 0 := (by have u0 := b13_; have u1 := (zi_eq _ _).mp c168_; have u2 := (show 0 ≤ Int32.toInt 0 ∧ Int32.toInt 0 ≤ 0 from (by decide)); omega)
              refine pw_blk hT 2 (S' := (98, [some (pvR 124), some (pvI n1), some (pvI (M.1 124 3)), some (pvI i3z160_), some (pvI i4z160_), v5z160_], [pvI i3z160_], M164_)) rfl ⟨trivial, trivial, trivial⟩ ?_
              exact pw_ret hT rfl (r := some (pvI i3z160_)) (M' := M164_) ⟨rfl, rfl⟩ ⟨⟨_, rfl, (zr_wide h3z160_ (by decide) (by decide))⟩, o166_, f167_, (pvu_s e165_)⟩
          · have b171_ : 0 ≤ Int32.toInt (Mz160_.1 124 3) ∧ Int32.toInt (Mz160_.1 124 3) ≤ 99 := zr_nle_r 99 c162_ b161_ (show 100 ≤ Int32.toInt 100 ∧ Int32.toInt 100 ≤ 100 from (by decide)) (by decide)
            refine pw_blk hT 2 (S' := (46, [some (pvR 124), some (pvI n1), some (pvI (M.1 124 3)), some (pvI i3z160_), some (pvI i4z160_), v5z160_], [pvI 0, pvR 124], Mz160_)) rfl ⟨trivial, trivial, trivial⟩ ?_
            refine pw_callG hT (as := [pvR 124, pvI 0]) (lo1 := [some (pvR 124), some (pvI 0), none]) (d1 := d) (rest := []) rfl rfl rfl rfl rfl (fun _ => rfl) (Nat.zero_le _) rfl rfl rfl (sf_X10_costOfPath_124_x Mz160_ oz160_ 0 (zr_wide (show 0 ≤ Int32.toInt 0 ∧ Int32.toInt 0 ≤ 0 from (by decide)) (by decide) (by decide)) d) (fun x172_ M173_ b174_ o175_ g176_ => ?_)
            have f177_ : pvFr fp_eX10_begin_124_x M M173_ := pvfr_t g176_ fz160_ fp_eX10_begin_124_x_fp_X10_costOfPath_124_x
            refine pw_blk hT 3 (S' := (55, [some (pvR 124), some (pvI n1), some (pvI (M.1 124 3)), some (pvI i3z160_), some (pvI i4z160_), some (pvI x172_)], [pvI i4z160_, pvI x172_], M173_)) rfl ⟨trivial, trivial, trivial, trivial⟩ ?_
            refine pw_ic hT (c := i4z160_ < x172_) rfl rfl (fun c178_ => ?_) (fun c178_ => ?_)
            · have b179_ : (-1) ≤ Int32.toInt i4z160_ ∧ Int32.toInt i4z160_ ≤ 8999999 := zr_lt_l 8999999 c178_ h4z160_ b174_ (by decide)
              have d180_ : Int32.toInt i4z160_ < Int32.toInt x172_ := (zi_lt _ _).mp c178_
              have e181_ : (M173_.1 124 3) = (Mz160_.1 124 3) := (g176_ 124 3 rfl)
              have b182_ : 0 ≤ Int32.toInt (M173_.1 124 3) ∧ Int32.toInt (M173_.1 124 3) ≤ 99 := (by rw [e181_]; exact b171_)
              obtain ⟨q184_, b183_⟩ : (Int32.toInt ((M173_.1 124 3) + 1) = Int32.toInt (M173_.1 124 3) + 1) ∧ (1 ≤ Int32.toInt ((M173_.1 124 3) + 1) ∧ Int32.toInt ((M173_.1 124 3) + 1) ≤ 100) := zadd_k (M173_.1 124 3) 1 1 1 100 b182_ (by decide) (by decide) (by decide) (by decide) (by decide)
              refine pw_blkw hT 11 (pc := 80) (lo := [some (pvR 124), some (pvI n1), some (pvI (M.1 124 3)), some (pvI (M173_.1 124 3)), some (pvI x172_), some (pvI x172_)]) (st := []) (M := pvu M173_ 124 3 ((M173_.1 124 3) + 1)) rfl ⟨trivial, rfl, trivial, trivial, trivial, trivial, trivial, rfl, trivial, trivial, rfl, trivial⟩ (fun M185_ e186_ => ?_)
              have o187_ : pvOk M185_ := pvok_u2 e186_ o175_ rfl (zr_wide b183_ (by decide) (by decide))
              have f188_ : pvFr fp_eX10_begin_124_x M M185_ := pvfr_u e186_ f177_ rfl
              refine pw_blk hT 1 (S' := (35, [some (pvR 124), some (pvI n1), some (pvI (M.1 124 3)), some (pvI (M173_.1 124 3)), some (pvI x172_), some (pvI x172_)], [], M185_)) rfl ⟨trivial, trivial⟩ ?_
              exact ihz160_ (M173_.1 124 3) x172_ (some (pvI x172_)) M185_ o187_ f188_ (zr_wide b182_ (by decide) (by decide)) (zr_wide b174_ (by decide) (by decide)) (zhid (by have hm0 := zshow hmz160_; have z1 : Int32.toInt (M185_.1 124 3) = Int32.toInt ((M173_.1 124 3) + 1) := congrArg Int32.toInt (pvu_s e186_); have z2 : Int32.toInt (M173_.1 124 3) = Int32.toInt (Mz160_.1 124 3) := congrArg Int32.toInt (g176_ 124 3 rfl); omega))
            · have b189_ : 0 ≤ Int32.toInt i4z160_ ∧ Int32.toInt i4z160_ ≤ 2147483647 := zr_nlt_l 0 c178_ h4z160_ b174_ (by decide)
              have d190_ : Int32.toInt i4z160_ ≥ Int32.toInt x172_ := Int.not_lt.mp ((not_congr (zi_lt _ _)).mp c178_)
              have e191_ : (M173_.1 124 3) = (Mz160_.1 124 3) := (g176_ 124 3 rfl)
              have b192_ : 0 ≤ Int32.toInt (M173_.1 124 3) ∧ Int32.toInt (M173_.1 124 3) ≤ 99 := (by rw [e191_]; exact b171_)
              obtain ⟨q194_, b193_⟩ : (Int32.toInt ((M173_.1 124 3) + 1) = Int32.toInt (M173_.1 124 3) + 1) ∧ (1 ≤ Int32.toInt ((M173_.1 124 3) + 1) ∧ Int32.toInt ((M173_.1 124 3) + 1) ≤ 100) := zadd_k (M173_.1 124 3) 1 1 1 100 b192_ (by decide) (by decide) (by decide) (by decide) (by decide)
              refine pw_blkw hT 7 (pc := 80) (lo := [some (pvR 124), some (pvI n1), some (pvI (M.1 124 3)), some (pvI i3z160_), some (pvI i4z160_), some (pvI x172_)]) (st := []) (M := pvu M173_ 124 3 ((M173_.1 124 3) + 1)) rfl ⟨trivial, trivial, trivial, rfl, trivial, trivial, rfl, trivial⟩ (fun M195_ e196_ => ?_)
              have o197_ : pvOk M195_ := pvok_u2 e196_ o175_ rfl (zr_wide b193_ (by decide) (by decide))
              have f198_ : pvFr fp_eX10_begin_124_x M M195_ := pvfr_u e196_ f177_ rfl
              refine pw_blk hT 1 (S' := (35, [some (pvR 124), some (pvI n1), some (pvI (M.1 124 3)), some (pvI i3z160_), some (pvI i4z160_), some (pvI x172_)], [], M195_)) rfl ⟨trivial, trivial⟩ ?_
              exact ihz160_ i3z160_ i4z160_ (some (pvI x172_)) M195_ o197_ f198_ h3z160_ (zr_wide b189_ (by decide) (by decide)) (zhid (by have hm0 := zshow hmz160_; have z1 : Int32.toInt (M195_.1 124 3) = Int32.toInt ((M173_.1 124 3) + 1) := congrArg Int32.toInt (pvu_s e196_); have z2 : Int32.toInt (M173_.1 124 3) = Int32.toInt (Mz160_.1 124 3) := congrArg Int32.toInt (g176_ 124 3 rfl); omega))
      exact hlz160_ _ 0 (-1) none M28_ o30_ f31_ (zr_wide (show 0 ≤ Int32.toInt 0 ∧ Int32.toInt 0 ≤ 0 from (by decide)) (by decide) (by decide)) (zr_wide (show (-1) ≤ Int32.toInt (-1) ∧ Int32.toInt (-1) ≤ (-1) from (by decide)) (by decide) (by decide)) (zhid (Nat.lt_succ_self _))
def fpL_eX10_book_124_x_x : List (Nat × Nat × Nat) := [(0, 124, 44), (0, 149, 0), (0, 150, 0)]
def fp_eX10_book_124_x_x (q k : Nat) : Bool := pvfp fpL_eX10_book_124_x_x q k
set_option maxHeartbeats 4000000 in
set_option maxRecDepth 10000 in
theorem se_X10_book_124_x_x (M : pvM) (hok : pvOk M) (n1 : Int32) (n2 : Int32) (d : Nat) : PW 12 d (0, [some (pvR 124), some (pvI n1), some (pvI n2)], [], M) (fun r X => (∃ x : Int32, r = some (pvI x) ∧ ((-4) ≤ Int32.toInt x ∧ Int32.toInt x ≤ 8) ∧ x = (if n1 = (-1) then 0 else (if n1 < 0 then (-1) else (if ((M.1 124 0) - 1) < n1 then (-1) else (if n2 < 0 then (-2) else (if 9999 < n2 then (-2) else (if (M.1 124 43) = 8 then (-4) else ((M.1 124 43) + 1)))))))) ∧ pvOk X ∧ pvFr fp_eX10_book_124_x_x M X ∧ X.1 124 43 = (if n1 = (-1) then 0 else (if n1 < 0 then (M.1 124 43) else (if ((M.1 124 0) - 1) < n1 then (M.1 124 43) else (if n2 < 0 then (M.1 124 43) else (if 9999 < n2 then (M.1 124 43) else (if (M.1 124 43) = 8 then (M.1 124 43) else ((M.1 124 43) + 1)))))))) := by
  have hT : pvdom 12 = pvD_12 := rfl
  refine pw_blk hT 2 (S' := (2, [some (pvR 124), some (pvI n1), some (pvI n2)], [pvI (-1), pvI n1], M)) rfl ⟨trivial, trivial, trivial⟩ ?_
  refine pw_icn hT (c := n1 = (-1)) rfl rfl (fun c1_ => ?_) (fun c1_ => ?_)
  · refine pw_blk hT 2 (S' := (14, [some (pvR 124), some (pvI n1), some (pvI n2)], [pvI n1, pvR 124], M)) rfl ⟨trivial, trivial, trivial⟩ ?_
    refine pw_callT hT (as := [pvR 124, pvI n1]) (lo1 := [some (pvR 124), some (pvI n1)]) (d1 := d) (rest := []) rfl rfl rfl rfl rfl (fun _ => rfl) (Nat.zero_le _) rfl rfl rfl (sf_X10_isWindow_124_x M hok n1 d) ?_
    by_cases c7_ : n1 < 0
    · refine pw_eqI (if_pos c7_) ?_
      have b8_ : (-2147483648) ≤ Int32.toInt n1 ∧ Int32.toInt n1 ≤ (-2) := (by have u0 := (zbnd n1); have u9 := (show _ ∧ _ from ⟨(zi_lt _ _).mp c7_, (show 0 ≤ Int32.toInt 0 ∧ Int32.toInt 0 ≤ 0 from (by decide))⟩); have v1 := (not_congr (zi_eq _ _)).mp c1_; have w1 : ((-1) : Int32).toInt = -1 := (by decide); omega)
      show PW 12 d (17, [some (pvR 124), some (pvI n1), some (pvI n2)], [pvI 0], M) _
      refine pw_ifn hT (c := 0 = 0) rfl rfl (fun c9_ => absurd (by decide) c9_) (fun c9_ => ?_)
      refine pw_blk hT 1 (S' := (21, [some (pvR 124), some (pvI n1), some (pvI n2)], [pvI (-1)], M)) rfl ⟨trivial, trivial⟩ ?_
      exact pw_ret hT rfl (r := some (pvI (-1))) (M' := M) ⟨rfl, rfl⟩ ⟨⟨_, rfl, (zr_wide (show (-1) ≤ Int32.toInt (-1) ∧ Int32.toInt (-1) ≤ (-1) from (by decide)) (by decide) (by decide)), (by rw [if_neg c1_, if_pos c7_])⟩, hok, pvfr_0, (by rw [if_neg c1_, if_pos c7_]; exact rfl)⟩
    · refine pw_eqI (if_neg c7_) ?_
      have b10_ : 0 ≤ Int32.toInt n1 ∧ Int32.toInt n1 ≤ 2147483647 := zr_nlt_l 0 c7_ (zbnd n1) (show 0 ≤ Int32.toInt 0 ∧ Int32.toInt 0 ≤ 0 from (by decide)) (by decide)
      have b11_ : 0 ≤ Int32.toInt (M.1 124 0) ∧ Int32.toInt (M.1 124 0) ≤ 7 := pvok_r hok 124 0 rfl
      obtain ⟨q13_, b12_⟩ : (Int32.toInt ((M.1 124 0) - 1) = Int32.toInt (M.1 124 0) - 1) ∧ ((-1) ≤ Int32.toInt ((M.1 124 0) - 1) ∧ Int32.toInt ((M.1 124 0) - 1) ≤ 6) := zsub_k (M.1 124 0) 1 1 (-1) 6 b11_ (by decide) (by decide) (by decide) (by decide) (by decide)
      by_cases c14_ : ((M.1 124 0) - 1) < n1
      · refine pw_eqI (if_pos c14_) ?_
        have d15_ : Int32.toInt ((M.1 124 0) - 1) < Int32.toInt n1 := (zi_lt _ _).mp c14_
        show PW 12 d (17, [some (pvR 124), some (pvI n1), some (pvI n2)], [pvI 0], M) _
        refine pw_ifn hT (c := 0 = 0) rfl rfl (fun c16_ => absurd (by decide) c16_) (fun c16_ => ?_)
        refine pw_blk hT 1 (S' := (21, [some (pvR 124), some (pvI n1), some (pvI n2)], [pvI (-1)], M)) rfl ⟨trivial, trivial⟩ ?_
        exact pw_ret hT rfl (r := some (pvI (-1))) (M' := M) ⟨rfl, rfl⟩ ⟨⟨_, rfl, (zr_wide (show (-1) ≤ Int32.toInt (-1) ∧ Int32.toInt (-1) ≤ (-1) from (by decide)) (by decide) (by decide)), (by rw [if_neg c1_, if_neg c7_, if_pos c14_])⟩, hok, pvfr_0, (by rw [if_neg c1_, if_neg c7_, if_pos c14_]; exact rfl)⟩
      · refine pw_eqI (if_neg c14_) ?_
        have b17_ : 0 ≤ Int32.toInt ((M.1 124 0) - 1) ∧ Int32.toInt ((M.1 124 0) - 1) ≤ 6 := zr_nlt_l 0 c14_ b12_ b10_ (by decide)
        have b18_ : 0 ≤ Int32.toInt n1 ∧ Int32.toInt n1 ≤ 6 := zr_nlt_r 6 c14_ b10_ b17_ (by decide)
        have d19_ : Int32.toInt ((M.1 124 0) - 1) ≥ Int32.toInt n1 := Int.not_lt.mp ((not_congr (zi_lt _ _)).mp c14_)
        show PW 12 d (17, [some (pvR 124), some (pvI n1), some (pvI n2)], [pvI 1], M) _
        refine pw_ifn hT (c := 1 = 0) rfl rfl (fun c20_ => ?_) (fun c20_ => absurd c20_ (by decide))
        refine pw_blk hT 4 (S' := (28, [some (pvR 124), some (pvI n1), some (pvI n2)], [pvI 9999, pvI 0, pvI n2, pvR 124], M)) rfl ⟨trivial, trivial, trivial, trivial, trivial⟩ ?_
        refine pw_callT hT (as := [pvR 124, pvI n2, pvI 0, pvI 9999]) (lo1 := [some (pvR 124), some (pvI n2), some (pvI 0), some (pvI 9999)]) (d1 := d) (rest := []) rfl rfl rfl rfl rfl (fun _ => rfl) (Nat.zero_le _) rfl rfl rfl (sf_X10_in_124_x_x_x M hok n2 0 9999 d) ?_
        by_cases c26_ : n2 < 0
        · refine pw_eqI (if_pos c26_) ?_
          have b27_ : (-2147483648) ≤ Int32.toInt n2 ∧ Int32.toInt n2 ≤ (-1) := zr_lt_l (-1) c26_ (zbnd n2) (show 0 ≤ Int32.toInt 0 ∧ Int32.toInt 0 ≤ 0 from (by decide)) (by decide)
          show PW 12 d (31, [some (pvR 124), some (pvI n1), some (pvI n2)], [pvI 0], M) _
          refine pw_ifn hT (c := 0 = 0) rfl rfl (fun c28_ => absurd (by decide) c28_) (fun c28_ => ?_)
          refine pw_blk hT 1 (S' := (36, [some (pvR 124), some (pvI n1), some (pvI n2)], [pvI (-2)], M)) rfl ⟨trivial, trivial⟩ ?_
          exact pw_ret hT rfl (r := some (pvI (-2))) (M' := M) ⟨rfl, rfl⟩ ⟨⟨_, rfl, (zr_wide (show (-2) ≤ Int32.toInt (-2) ∧ Int32.toInt (-2) ≤ (-2) from (by decide)) (by decide) (by decide)), (by rw [if_neg c1_, if_neg c7_, if_neg c14_, if_pos c26_])⟩, hok, pvfr_0, (by rw [if_neg c1_, if_neg c7_, if_neg c14_, if_pos c26_]; exact rfl)⟩
        · refine pw_eqI (if_neg c26_) ?_
          have b29_ : 0 ≤ Int32.toInt n2 ∧ Int32.toInt n2 ≤ 2147483647 := zr_nlt_l 0 c26_ (zbnd n2) (show 0 ≤ Int32.toInt 0 ∧ Int32.toInt 0 ≤ 0 from (by decide)) (by decide)
          by_cases c30_ : 9999 < n2
          · refine pw_eqI (if_pos c30_) ?_
            have b31_ : 10000 ≤ Int32.toInt n2 ∧ Int32.toInt n2 ≤ 2147483647 := zr_lt_r 10000 c30_ b29_ (show 9999 ≤ Int32.toInt 9999 ∧ Int32.toInt 9999 ≤ 9999 from (by decide)) (by decide)
            show PW 12 d (31, [some (pvR 124), some (pvI n1), some (pvI n2)], [pvI 0], M) _
            refine pw_ifn hT (c := 0 = 0) rfl rfl (fun c32_ => absurd (by decide) c32_) (fun c32_ => ?_)
            refine pw_blk hT 1 (S' := (36, [some (pvR 124), some (pvI n1), some (pvI n2)], [pvI (-2)], M)) rfl ⟨trivial, trivial⟩ ?_
            exact pw_ret hT rfl (r := some (pvI (-2))) (M' := M) ⟨rfl, rfl⟩ ⟨⟨_, rfl, (zr_wide (show (-2) ≤ Int32.toInt (-2) ∧ Int32.toInt (-2) ≤ (-2) from (by decide)) (by decide) (by decide)), (by rw [if_neg c1_, if_neg c7_, if_neg c14_, if_neg c26_, if_pos c30_])⟩, hok, pvfr_0, (by rw [if_neg c1_, if_neg c7_, if_neg c14_, if_neg c26_, if_pos c30_]; exact rfl)⟩
          · refine pw_eqI (if_neg c30_) ?_
            have b33_ : 0 ≤ Int32.toInt n2 ∧ Int32.toInt n2 ≤ 9999 := zr_nlt_r 9999 c30_ b29_ (show 9999 ≤ Int32.toInt 9999 ∧ Int32.toInt 9999 ≤ 9999 from (by decide)) (by decide)
            show PW 12 d (31, [some (pvR 124), some (pvI n1), some (pvI n2)], [pvI 1], M) _
            refine pw_ifn hT (c := 1 = 0) rfl rfl (fun c34_ => ?_) (fun c34_ => absurd c34_ (by decide))
            have b35_ : 0 ≤ Int32.toInt (M.1 124 43) ∧ Int32.toInt (M.1 124 43) ≤ 8 := pvok_r hok 124 43 rfl
            refine pw_blk hT 3 (S' := (43, [some (pvR 124), some (pvI n1), some (pvI n2)], [pvI 8, pvI (M.1 124 43)], M)) rfl ⟨trivial, rfl, trivial, trivial⟩ ?_
            refine pw_icn hT (c := (M.1 124 43) = 8) rfl rfl (fun c36_ => ?_) (fun c36_ => ?_)
            · have b37_ : 0 ≤ Int32.toInt (M.1 124 43) ∧ Int32.toInt (M.1 124 43) ≤ 7 := (by have u0 := b35_; have u1 := (not_congr (zi_eq _ _)).mp c36_; have u2 := (show 8 ≤ Int32.toInt 8 ∧ Int32.toInt 8 ≤ 8 from (by decide)); omega)
              refine pw_blkw hT 6 (pc := 59) (lo := [some (pvR 124), some (pvI n1), some (pvI n2)]) (st := []) (M := pvu M 149 (Int32.toNatClampNeg (M.1 124 43)) n1) rfl ⟨trivial, rfl, trivial, rfl, trivial, ⟨rfl, (zr_in (n := 8) b37_ (by decide) (by decide))⟩, trivial⟩ (fun M38_ e39_ => ?_)
              have o40_ : pvOk M38_ := pvok_u2 e39_ hok rfl b18_
              have f41_ : pvFr fp_eX10_book_124_x_x M M38_ := pvfr_u e39_ pvfr_0 rfl
              have e42_ : (M38_.1 124 43) = (M.1 124 43) := (pvu_n e39_ 124 43 (Or.inl (by decide)))
              have b43_ : 0 ≤ Int32.toInt (M38_.1 124 43) ∧ Int32.toInt (M38_.1 124 43) ≤ 7 := (by rw [e42_]; exact b37_)
              refine pw_blkw hT 6 (pc := 69) (lo := [some (pvR 124), some (pvI n1), some (pvI n2)]) (st := []) (M := pvu M38_ 150 (Int32.toNatClampNeg (M38_.1 124 43)) n2) rfl ⟨trivial, rfl, trivial, rfl, trivial, ⟨rfl, (zr_in (n := 8) b43_ (by decide) (by decide))⟩, trivial⟩ (fun M44_ e45_ => ?_)
              have o46_ : pvOk M44_ := pvok_u2 e45_ o40_ rfl b33_
              have f47_ : pvFr fp_eX10_book_124_x_x M M44_ := pvfr_u e45_ f41_ rfl
              have e48_ : (M44_.1 124 43) = (M38_.1 124 43) := (pvu_n e45_ 124 43 (Or.inl (by decide)))
              have b49_ : 0 ≤ Int32.toInt (M44_.1 124 43) ∧ Int32.toInt (M44_.1 124 43) ≤ 7 := (by rw [e48_]; exact b43_)
              obtain ⟨q51_, b50_⟩ : (Int32.toInt ((M44_.1 124 43) + 1) = Int32.toInt (M44_.1 124 43) + 1) ∧ (1 ≤ Int32.toInt ((M44_.1 124 43) + 1) ∧ Int32.toInt ((M44_.1 124 43) + 1) ≤ 8) := zadd_k (M44_.1 124 43) 1 1 1 8 b49_ (by decide) (by decide) (by decide) (by decide) (by decide)
              refine pw_blkw hT 6 (pc := 79) (lo := [some (pvR 124), some (pvI n1), some (pvI n2)]) (st := []) (M := pvu M44_ 124 43 ((M44_.1 124 43) + 1)) rfl ⟨trivial, trivial, rfl, trivial, trivial, rfl, trivial⟩ (fun M52_ e53_ => ?_)
              have o54_ : pvOk M52_ := pvok_u2 e53_ o46_ rfl (zr_wide b50_ (by decide) (by decide))
              have f55_ : pvFr fp_eX10_book_124_x_x M M52_ := pvfr_u e53_ f47_ rfl
              have e56_ : (M52_.1 124 43) = ((M44_.1 124 43) + 1) := (pvu_s e53_)
              have b57_ : 1 ≤ Int32.toInt (M52_.1 124 43) ∧ Int32.toInt (M52_.1 124 43) ≤ 8 := (by rw [e56_]; exact b50_)
              refine pw_blk hT 2 (S' := (83, [some (pvR 124), some (pvI n1), some (pvI n2)], [pvI (M52_.1 124 43)], M52_)) rfl ⟨trivial, rfl, trivial⟩ ?_
              exact pw_ret hT rfl (r := some (pvI (M52_.1 124 43))) (M' := M52_) ⟨rfl, rfl⟩ ⟨⟨_, rfl, (zr_wide b57_ (by decide) (by decide)), (by rw [if_neg c1_, if_neg c7_, if_neg c14_, if_neg c26_, if_neg c30_, if_neg c36_]; exact (show (M52_.1 124 43) = ((M.1 124 43) + 1) from by rw [((pvu_s e53_).trans (show ((M44_.1 124 43) + 1) = ((M.1 124 43) + 1) from by rw [((pvu_n e45_ 124 43 (Or.inl (by decide))).trans (pvu_n e39_ 124 43 (Or.inl (by decide))))]))]))⟩, o54_, f55_, (by rw [if_neg c1_, if_neg c7_, if_neg c14_, if_neg c26_, if_neg c30_, if_neg c36_]; exact ((pvu_s e53_).trans (show ((M44_.1 124 43) + 1) = ((M.1 124 43) + 1) from by rw [((pvu_n e45_ 124 43 (Or.inl (by decide))).trans (pvu_n e39_ 124 43 (Or.inl (by decide))))])))⟩
            · have b58_ : 8 ≤ Int32.toInt (M.1 124 43) ∧ Int32.toInt (M.1 124 43) ≤ 8 := (by have u0 := b35_; have u1 := (zi_eq _ _).mp c36_; have u2 := (show 8 ≤ Int32.toInt 8 ∧ Int32.toInt 8 ≤ 8 from (by decide)); omega)
              refine pw_blk hT 1 (S' := (48, [some (pvR 124), some (pvI n1), some (pvI n2)], [pvI (-4)], M)) rfl ⟨trivial, trivial⟩ ?_
              exact pw_ret hT rfl (r := some (pvI (-4))) (M' := M) ⟨rfl, rfl⟩ ⟨⟨_, rfl, (zr_wide (show (-4) ≤ Int32.toInt (-4) ∧ Int32.toInt (-4) ≤ (-4) from (by decide)) (by decide) (by decide)), (by rw [if_neg c1_, if_neg c7_, if_neg c14_, if_neg c26_, if_neg c30_, if_pos c36_])⟩, hok, pvfr_0, (by rw [if_neg c1_, if_neg c7_, if_neg c14_, if_neg c26_, if_neg c30_, if_pos c36_]; exact rfl)⟩
  · have b59_ : (-1) ≤ Int32.toInt n1 ∧ Int32.toInt n1 ≤ (-1) := (by have u0 := (zbnd n1); have u1 := (zi_eq _ _).mp c1_; have u2 := (show (-1) ≤ Int32.toInt (-1) ∧ Int32.toInt (-1) ≤ (-1) from (by decide)); omega)
    refine pw_blkw hT 3 (pc := 10) (lo := [some (pvR 124), some (pvI n1), some (pvI n2)]) (st := []) (M := pvu M 124 43 0) rfl ⟨trivial, trivial, rfl, trivial⟩ (fun M60_ e61_ => ?_)
    have o62_ : pvOk M60_ := pvok_u2 e61_ hok rfl (zr_wide (show 0 ≤ Int32.toInt 0 ∧ Int32.toInt 0 ≤ 0 from (by decide)) (by decide) (by decide))
    have f63_ : pvFr fp_eX10_book_124_x_x M M60_ := pvfr_u e61_ pvfr_0 rfl
    refine pw_blk hT 1 (S' := (11, [some (pvR 124), some (pvI n1), some (pvI n2)], [pvI 0], M60_)) rfl ⟨trivial, trivial⟩ ?_
    exact pw_ret hT rfl (r := some (pvI 0)) (M' := M60_) ⟨rfl, rfl⟩ ⟨⟨_, rfl, (zr_wide (show 0 ≤ Int32.toInt 0 ∧ Int32.toInt 0 ≤ 0 from (by decide)) (by decide) (by decide)), (by rw [if_pos c1_])⟩, o62_, f63_, (by rw [if_pos c1_]; exact (pvu_s e61_))⟩
def fpL_eX10_from_124 : List (Nat × Nat × Nat) := [(0, 124, 33), (0, 124, 5), (0, 141, 0), (0, 142, 0), (0, 143, 0)]
def fp_eX10_from_124 (q k : Nat) : Bool := pvfp fpL_eX10_from_124 q k
theorem fp_eX10_from_124_fp_X10_layOpen_124 (a b : Nat) (h : fp_X10_layOpen_124 a b = true) : fp_eX10_from_124 a b = true := pvfp_sub (l1 := fpL_X10_layOpen_124) (l2 := fpL_eX10_from_124) (by decide) a b h
theorem fp_eX10_from_124_fp_X10_layRain_124 (a b : Nat) (h : fp_X10_layRain_124 a b = true) : fp_eX10_from_124 a b = true := pvfp_sub (l1 := fpL_X10_layRain_124) (l2 := fpL_eX10_from_124) (by decide) a b h
set_option maxHeartbeats 4000000 in
set_option maxRecDepth 10000 in
theorem se_X10_from_124 (M : pvM) (hok : pvOk M) (hz : pvWF M) (d : Nat) : PW 22 d (0, [some (pvR 124), none, none, none, none], [], M) (fun r X => (∃ x : Int32, r = some (pvI x) ∧ True) ∧ pvOk X ∧ pvFr fp_eX10_from_124 M X ∧ X.1 124 4 = M.1 124 4) := by
  have hT : pvdom 22 = pvD_22 := rfl
  have b1_ : 0 ≤ Int32.toInt (M.1 124 4) ∧ Int32.toInt (M.1 124 4) ≤ 4 := pvok_r hok 124 4 rfl
  refine pw_blk hT 6 (S' := (8, [some (pvR 124), some (pvI (M.1 124 4)), some (pvI 0), none, none], [pvR 124], M)) rfl ⟨trivial, rfl, trivial, trivial, trivial, trivial, trivial⟩ ?_
  refine pw_callV hT (as := [pvR 124]) (lo1 := [some (pvR 124), none]) (d1 := d) (rest := []) rfl rfl rfl rfl rfl (fun _ => rfl) (Nat.zero_le _) rfl rfl rfl (sf_X10_layOpen_124 M hok d) (fun M3_ o5_ g6_ => ?_)
  have f7_ : pvFr fp_eX10_from_124 M M3_ := pvfr_t g6_ pvfr_0 fp_eX10_from_124_fp_X10_layOpen_124
  refine pw_blkw hT 3 (pc := 16) (lo := [some (pvR 124), some (pvI (M.1 124 4)), some (pvI 0), none, none]) (st := []) (M := pvu M3_ 124 4 0) rfl ⟨trivial, trivial, rfl, trivial⟩ (fun M8_ e9_ => ?_)
  have o10_ : pvOk M8_ := pvok_u2 e9_ o5_ rfl (zr_wide (show 0 ≤ Int32.toInt 0 ∧ Int32.toInt 0 ≤ 0 from (by decide)) (by decide) (by decide))
  have f11_ : pvFr fp_eX10_from_124 M M8_ := pvfr_u e9_ f7_ rfl
  have hlz553_ : ∀ (nz553_ : Nat) (i2z553_ : Int32) (v3z553_ : Option pvV) (v4z553_ : Option pvV) (Mz553_ : pvM), (pvOk Mz553_) → (pvFr fp_eX10_from_124 M Mz553_) → (zhide ((5 - Int32.toInt (Mz553_.1 124 4)).toNat < nz553_)) → PW 22 d (16, [some (pvR 124), some (pvI (M.1 124 4)), some (pvI i2z553_), v3z553_, v4z553_], [], Mz553_) (fun r X => (∃ x : Int32, r = some (pvI x) ∧ True) ∧ pvOk X ∧ pvFr fp_eX10_from_124 M X ∧ X.1 124 4 = M.1 124 4) := by
    intro nz553_
    induction nz553_ with
    | zero => intro i2z553_ v3z553_ v4z553_ Mz553_ oz553_ fz553_ hmz553_; exact absurd (zshow hmz553_) (Nat.not_lt_zero _)
    | succ nz553_ ihz553_ =>
      intro i2z553_ v3z553_ v4z553_ Mz553_ oz553_ fz553_ hmz553_
      have b554_ : 0 ≤ Int32.toInt (Mz553_.1 124 4) ∧ Int32.toInt (Mz553_.1 124 4) ≤ 4 := pvok_r oz553_ 124 4 rfl
      refine pw_blk hT 3 (S' := (21, [some (pvR 124), some (pvI (M.1 124 4)), some (pvI i2z553_), v3z553_, v4z553_], [pvI 4, pvI (Mz553_.1 124 4)], Mz553_)) rfl ⟨trivial, rfl, trivial, trivial⟩ ?_
      refine pw_ic hT (c := 4 ≤ (Mz553_.1 124 4)) rfl rfl (fun c555_ => ?_) (fun c555_ => ?_)
      · have b556_ : 4 ≤ Int32.toInt (Mz553_.1 124 4) ∧ Int32.toInt (Mz553_.1 124 4) ≤ 4 := zr_le_r 4 c555_ b554_ (show 4 ≤ Int32.toInt 4 ∧ Int32.toInt 4 ≤ 4 from (by decide)) (by decide)
        refine pw_blkw hT 3 (pc := 114) (lo := [some (pvR 124), some (pvI (M.1 124 4)), some (pvI i2z553_), v3z553_, v4z553_]) (st := []) (M := pvu Mz553_ 124 4 (M.1 124 4)) rfl ⟨trivial, trivial, rfl, trivial⟩ (fun M557_ e558_ => ?_)
        have o559_ : pvOk M557_ := pvok_u2 e558_ oz553_ rfl b1_
        have f560_ : pvFr fp_eX10_from_124 M M557_ := pvfr_u e558_ fz553_ rfl
        refine pw_blk hT 1 (S' := (115, [some (pvR 124), some (pvI (M.1 124 4)), some (pvI i2z553_), v3z553_, v4z553_], [pvI i2z553_], M557_)) rfl ⟨trivial, trivial⟩ ?_
        exact pw_ret hT rfl (r := some (pvI i2z553_)) (M' := M557_) ⟨rfl, rfl⟩ ⟨⟨_, rfl, trivial⟩, o559_, f560_, (pvu_s e558_)⟩
      · have b561_ : 0 ≤ Int32.toInt (Mz553_.1 124 4) ∧ Int32.toInt (Mz553_.1 124 4) ≤ 3 := zr_nle_r 3 c555_ b554_ (show 4 ≤ Int32.toInt 4 ∧ Int32.toInt 4 ≤ 4 from (by decide)) (by decide)
        refine pw_blk hT 1 (S' := (25, [some (pvR 124), some (pvI (M.1 124 4)), some (pvI i2z553_), v3z553_, v4z553_], [pvR 124], Mz553_)) rfl ⟨trivial, trivial⟩ ?_
        refine pw_callV hT (as := [pvR 124]) (lo1 := [some (pvR 124), none, none]) (d1 := d) (rest := []) rfl rfl rfl rfl rfl (fun _ => rfl) (Nat.zero_le _) rfl rfl rfl (sf_X10_layRain_124 Mz553_ oz553_ (pvWF_fr (L := fpL_eX10_from_124) rfl fz553_ hz) d) (fun M563_ o565_ g566_ => ?_)
        have f567_ : pvFr fp_eX10_from_124 M M563_ := pvfr_t g566_ fz553_ fp_eX10_from_124_fp_X10_layRain_124
        refine pw_blk hT 4 (S' := (33, [some (pvR 124), some (pvI (M.1 124 4)), some (pvI i2z553_), some (pvI 1), some (pvI 0)], [], M563_)) rfl ⟨trivial, trivial, trivial, trivial, trivial⟩ ?_
        have e568_ : (M563_.1 124 4) = (Mz553_.1 124 4) := (g566_ 124 4 rfl)
        have b569_ : 0 ≤ Int32.toInt (M563_.1 124 4) ∧ Int32.toInt (M563_.1 124 4) ≤ 3 := (by rw [e568_]; exact b561_)
        have hlz689_ : ∀ (nz689_ : Nat) (i3z689_ : Int32) (i4z689_ : Int32), (0 ≤ Int32.toInt i3z689_ ∧ Int32.toInt i3z689_ ≤ 1) → (0 ≤ Int32.toInt i4z689_ ∧ Int32.toInt i4z689_ ≤ 6) → (zhide ((7 - Int32.toInt i4z689_).toNat < nz689_)) → PW 22 d (33, [some (pvR 124), some (pvI (M.1 124 4)), some (pvI i2z553_), some (pvI i3z689_), some (pvI i4z689_)], [], M563_) (fun r X => (∃ x : Int32, r = some (pvI x) ∧ True) ∧ pvOk X ∧ pvFr fp_eX10_from_124 M X ∧ X.1 124 4 = M.1 124 4) := by
          intro nz689_
          induction nz689_ with
          | zero => intro i3z689_ i4z689_ h3z689_ h4z689_ hmz689_; exact absurd (zshow hmz689_) (Nat.not_lt_zero _)
          | succ nz689_ ihz689_ =>
            intro i3z689_ i4z689_ h3z689_ h4z689_ hmz689_
            have b690_ : 0 ≤ Int32.toInt (M563_.1 124 40) ∧ Int32.toInt (M563_.1 124 40) ≤ 6 := pvok_r o565_ 124 40 rfl
            refine pw_blk hT 3 (S' := (39, [some (pvR 124), some (pvI (M.1 124 4)), some (pvI i2z553_), some (pvI i3z689_), some (pvI i4z689_)], [pvI (M563_.1 124 40), pvI i4z689_], M563_)) rfl ⟨trivial, trivial, rfl, trivial⟩ ?_
            refine pw_ic hT (c := (M563_.1 124 40) ≤ i4z689_) rfl rfl (fun c691_ => ?_) (fun c691_ => ?_)
            · have d692_ : Int32.toInt (M563_.1 124 40) ≤ Int32.toInt i4z689_ := (zi_le _ _).mp c691_
              refine pw_blk hT 2 (S' := (81, [some (pvR 124), some (pvI (M.1 124 4)), some (pvI i2z553_), some (pvI i3z689_), some (pvI i4z689_)], [pvI i3z689_, pvI i2z553_], M563_)) rfl ⟨trivial, trivial, trivial⟩ ?_
              refine pw_if hT (c := i3z689_ = 0) rfl rfl (fun c693_ => ?_) (fun c693_ => ?_)
              · have b694_ : 0 ≤ Int32.toInt i3z689_ ∧ Int32.toInt i3z689_ ≤ 0 := (by have u0 := h3z689_; have u1 := (zi_eq _ _).mp c693_; have u2 := (show 0 ≤ Int32.toInt 0 ∧ Int32.toInt 0 ≤ 0 from (by decide)); omega)
                obtain ⟨q696_, b695_⟩ : (Int32.toInt ((M563_.1 124 4) + 1) = Int32.toInt (M563_.1 124 4) + 1) ∧ (1 ≤ Int32.toInt ((M563_.1 124 4) + 1) ∧ Int32.toInt ((M563_.1 124 4) + 1) ≤ 4) := zadd_k (M563_.1 124 4) 1 1 1 4 b569_ (by decide) (by decide) (by decide) (by decide) (by decide)
                refine pw_blkw hT 9 (pc := 106) (lo := [some (pvR 124), some (pvI (M.1 124 4)), some (pvI (i2z553_ ||| 0)), some (pvI i3z689_), some (pvI i4z689_)]) (st := []) (M := pvu M563_ 124 4 ((M563_.1 124 4) + 1)) rfl ⟨trivial, trivial, trivial, trivial, trivial, rfl, trivial, trivial, rfl, trivial⟩ (fun M697_ e698_ => ?_)
                have o699_ : pvOk M697_ := pvok_u2 e698_ o565_ rfl (zr_wide b695_ (by decide) (by decide))
                have f700_ : pvFr fp_eX10_from_124 M M697_ := pvfr_u e698_ f567_ rfl
                refine pw_blk hT 1 (S' := (16, [some (pvR 124), some (pvI (M.1 124 4)), some (pvI (i2z553_ ||| 0)), some (pvI i3z689_), some (pvI i4z689_)], [], M697_)) rfl ⟨trivial, trivial⟩ ?_
                exact ihz553_ (i2z553_ ||| 0) (some (pvI i3z689_)) (some (pvI i4z689_)) M697_ o699_ f700_ (zhid (by have hm0 := zshow hmz553_; have z1 : Int32.toInt (M697_.1 124 4) = Int32.toInt ((M563_.1 124 4) + 1) := congrArg Int32.toInt (pvu_s e698_); have z2 : Int32.toInt (M563_.1 124 4) = Int32.toInt (Mz553_.1 124 4) := congrArg Int32.toInt (g566_ 124 4 rfl); omega))
              · have b701_ : 1 ≤ Int32.toInt i3z689_ ∧ Int32.toInt i3z689_ ≤ 1 := (by have u0 := h3z689_; have u1 := (not_congr (zi_eq _ _)).mp c693_; have u2 := (show 0 ≤ Int32.toInt 0 ∧ Int32.toInt 0 ≤ 0 from (by decide)); omega)
                obtain ⟨q703_, b702_⟩ : (Int32.toInt ((M563_.1 124 4) + 1) = Int32.toInt (M563_.1 124 4) + 1) ∧ (1 ≤ Int32.toInt ((M563_.1 124 4) + 1) ∧ Int32.toInt ((M563_.1 124 4) + 1) ≤ 4) := zadd_k (M563_.1 124 4) 1 1 1 4 b569_ (by decide) (by decide) (by decide) (by decide) (by decide)
                refine pw_blkw hT 13 (pc := 106) (lo := [some (pvR 124), some (pvI (M.1 124 4)), some (pvI (i2z553_ ||| (1 <<< ((M563_.1 124 4) &&& 31)))), some (pvI i3z689_), some (pvI i4z689_)]) (st := []) (M := pvu M563_ 124 4 ((M563_.1 124 4) + 1)) rfl ⟨trivial, trivial, rfl, trivial, trivial, trivial, trivial, trivial, trivial, rfl, trivial, trivial, rfl, trivial⟩ (fun M704_ e705_ => ?_)
                have o706_ : pvOk M704_ := pvok_u2 e705_ o565_ rfl (zr_wide b702_ (by decide) (by decide))
                have f707_ : pvFr fp_eX10_from_124 M M704_ := pvfr_u e705_ f567_ rfl
                refine pw_blk hT 1 (S' := (16, [some (pvR 124), some (pvI (M.1 124 4)), some (pvI (i2z553_ ||| (1 <<< ((M563_.1 124 4) &&& 31)))), some (pvI i3z689_), some (pvI i4z689_)], [], M704_)) rfl ⟨trivial, trivial⟩ ?_
                exact ihz553_ (i2z553_ ||| (1 <<< ((M563_.1 124 4) &&& 31))) (some (pvI i3z689_)) (some (pvI i4z689_)) M704_ o706_ f707_ (zhid (by have hm0 := zshow hmz553_; have z1 : Int32.toInt (M704_.1 124 4) = Int32.toInt ((M563_.1 124 4) + 1) := congrArg Int32.toInt (pvu_s e705_); have z2 : Int32.toInt (M563_.1 124 4) = Int32.toInt (Mz553_.1 124 4) := congrArg Int32.toInt (g566_ 124 4 rfl); omega))
            · have b708_ : 1 ≤ Int32.toInt (M563_.1 124 40) ∧ Int32.toInt (M563_.1 124 40) ≤ 6 := zr_nle_l 1 c691_ b690_ h4z689_ (by decide)
              have b709_ : 0 ≤ Int32.toInt i4z689_ ∧ Int32.toInt i4z689_ ≤ 5 := zr_nle_r 5 c691_ h4z689_ b708_ (by decide)
              have d710_ : Int32.toInt (M563_.1 124 40) > Int32.toInt i4z689_ := Int.not_le.mp ((not_congr (zi_le _ _)).mp c691_)
              refine pw_blk hT 1 (S' := (43, [some (pvR 124), some (pvI (M.1 124 4)), some (pvI i2z553_), some (pvI i3z689_), some (pvI i4z689_)], [pvI i3z689_], M563_)) rfl ⟨trivial, trivial⟩ ?_
              refine pw_if hT (c := i3z689_ = 0) rfl rfl (fun c711_ => ?_) (fun c711_ => ?_)
              · have b712_ : 0 ≤ Int32.toInt i3z689_ ∧ Int32.toInt i3z689_ ≤ 0 := (by have u0 := h3z689_; have u1 := (zi_eq _ _).mp c711_; have u2 := (show 0 ≤ Int32.toInt 0 ∧ Int32.toInt 0 ≤ 0 from (by decide)); omega)
                refine pw_blk hT 2 (S' := (81, [some (pvR 124), some (pvI (M.1 124 4)), some (pvI i2z553_), some (pvI i3z689_), some (pvI i4z689_)], [pvI i3z689_, pvI i2z553_], M563_)) rfl ⟨trivial, trivial, trivial⟩ ?_
                refine pw_if hT (c := i3z689_ = 0) rfl rfl (fun c713_ => ?_) (fun c713_ => absurd c711_ c713_)
                obtain ⟨q715_, b714_⟩ : (Int32.toInt ((M563_.1 124 4) + 1) = Int32.toInt (M563_.1 124 4) + 1) ∧ (1 ≤ Int32.toInt ((M563_.1 124 4) + 1) ∧ Int32.toInt ((M563_.1 124 4) + 1) ≤ 4) := zadd_k (M563_.1 124 4) 1 1 1 4 b569_ (by decide) (by decide) (by decide) (by decide) (by decide)
                refine pw_blkw hT 9 (pc := 106) (lo := [some (pvR 124), some (pvI (M.1 124 4)), some (pvI (i2z553_ ||| 0)), some (pvI i3z689_), some (pvI i4z689_)]) (st := []) (M := pvu M563_ 124 4 ((M563_.1 124 4) + 1)) rfl ⟨trivial, trivial, trivial, trivial, trivial, rfl, trivial, trivial, rfl, trivial⟩ (fun M716_ e717_ => ?_)
                have o718_ : pvOk M716_ := pvok_u2 e717_ o565_ rfl (zr_wide b714_ (by decide) (by decide))
                have f719_ : pvFr fp_eX10_from_124 M M716_ := pvfr_u e717_ f567_ rfl
                refine pw_blk hT 1 (S' := (16, [some (pvR 124), some (pvI (M.1 124 4)), some (pvI (i2z553_ ||| 0)), some (pvI i3z689_), some (pvI i4z689_)], [], M716_)) rfl ⟨trivial, trivial⟩ ?_
                exact ihz553_ (i2z553_ ||| 0) (some (pvI i3z689_)) (some (pvI i4z689_)) M716_ o718_ f719_ (zhid (by have hm0 := zshow hmz553_; have z1 : Int32.toInt (M716_.1 124 4) = Int32.toInt ((M563_.1 124 4) + 1) := congrArg Int32.toInt (pvu_s e717_); have z2 : Int32.toInt (M563_.1 124 4) = Int32.toInt (Mz553_.1 124 4) := congrArg Int32.toInt (g566_ 124 4 rfl); omega))
              · have b720_ : 1 ≤ Int32.toInt i3z689_ ∧ Int32.toInt i3z689_ ≤ 1 := (by have u0 := h3z689_; have u1 := (not_congr (zi_eq _ _)).mp c711_; have u2 := (show 0 ≤ Int32.toInt 0 ∧ Int32.toInt 0 ≤ 0 from (by decide)); omega)
                have b721_ : 0 ≤ Int32.toInt (M563_.1 147 (Int32.toNatClampNeg i4z689_)) ∧ Int32.toInt (M563_.1 147 (Int32.toNatClampNeg i4z689_)) ≤ 6 := pvok_r o565_ 147 (Int32.toNatClampNeg i4z689_) rfl
                refine pw_blk hT 5 (S' := (54, [some (pvR 124), some (pvI (M.1 124 4)), some (pvI i2z553_), some (pvI i3z689_), some (pvI i4z689_)], [pvI (M563_.1 147 (Int32.toNatClampNeg i4z689_)), pvR 124], M563_)) rfl ⟨trivial, trivial, rfl, trivial, ⟨rfl, (zr_in (n := 6) b709_ (by decide) (by decide))⟩, trivial⟩ ?_
                refine pw_callGp hT (as := [pvR 124, pvI (M563_.1 147 (Int32.toNatClampNeg i4z689_))]) (lo1 := [some (pvR 124), some (pvI (M563_.1 147 (Int32.toNatClampNeg i4z689_))), none, none]) (d1 := d) (rest := []) rfl rfl rfl rfl rfl (fun _ => rfl) (Nat.zero_le _) rfl rfl rfl (sf_X10_harmOf_124_x M563_ o565_ (M563_.1 147 (Int32.toNatClampNeg i4z689_)) b721_ d) (fun x722_ b724_ => ?_)
                have b727_ : 0 ≤ Int32.toInt (M563_.1 148 (Int32.toNatClampNeg i4z689_)) ∧ Int32.toInt (M563_.1 148 (Int32.toNatClampNeg i4z689_)) ≤ 9999 := pvok_r o565_ 148 (Int32.toNatClampNeg i4z689_) rfl
                refine pw_blk hT 4 (S' := (64, [some (pvR 124), some (pvI (M.1 124 4)), some (pvI i2z553_), some (pvI i3z689_), some (pvI i4z689_)], [pvI (M563_.1 148 (Int32.toNatClampNeg i4z689_)), pvI x722_], M563_)) rfl ⟨trivial, rfl, trivial, ⟨rfl, (zr_in (n := 6) b709_ (by decide) (by decide))⟩, trivial⟩ ?_
                refine pw_icn hT (c := x722_ = (M563_.1 148 (Int32.toNatClampNeg i4z689_))) rfl rfl (fun c728_ => ?_) (fun c728_ => ?_)
                · obtain ⟨q730_, b729_⟩ : (Int32.toInt (i4z689_ + 1) = Int32.toInt i4z689_ + 1) ∧ (1 ≤ Int32.toInt (i4z689_ + 1) ∧ Int32.toInt (i4z689_ + 1) ≤ 6) := zadd_k i4z689_ 1 1 1 6 b709_ (by decide) (by decide) (by decide) (by decide) (by decide)
                  refine pw_blk hT 4 (S' := (33, [some (pvR 124), some (pvI (M.1 124 4)), some (pvI i2z553_), some (pvI 0), some (pvI (i4z689_ + 1))], [], M563_)) rfl ⟨trivial, trivial, trivial, trivial, trivial⟩ ?_
                  exact ihz689_ 0 (i4z689_ + 1) (zr_wide (show 0 ≤ Int32.toInt 0 ∧ Int32.toInt 0 ≤ 0 from (by decide)) (by decide) (by decide)) (zr_wide b729_ (by decide) (by decide)) (zhid (pvms_up (zshow hmz689_) h4z689_ q730_ (by decide) (by decide)))
                · have b731_ : 0 ≤ Int32.toInt x722_ ∧ Int32.toInt x722_ ≤ 9999 := (by have u0 := b724_; have u1 := (zi_eq _ _).mp c728_; have u2 := b727_; omega)
                  have d732_ : Int32.toInt x722_ = Int32.toInt (M563_.1 148 (Int32.toNatClampNeg i4z689_)) := (zi_eq _ _).mp c728_
                  obtain ⟨q734_, b733_⟩ : (Int32.toInt (i4z689_ + 1) = Int32.toInt i4z689_ + 1) ∧ (1 ≤ Int32.toInt (i4z689_ + 1) ∧ Int32.toInt (i4z689_ + 1) ≤ 6) := zadd_k i4z689_ 1 1 1 6 b709_ (by decide) (by decide) (by decide) (by decide) (by decide)
                  refine pw_blk hT 5 (S' := (33, [some (pvR 124), some (pvI (M.1 124 4)), some (pvI i2z553_), some (pvI 1), some (pvI (i4z689_ + 1))], [], M563_)) rfl ⟨trivial, trivial, trivial, trivial, trivial, trivial⟩ ?_
                  exact ihz689_ 1 (i4z689_ + 1) (zr_wide (show 1 ≤ Int32.toInt 1 ∧ Int32.toInt 1 ≤ 1 from (by decide)) (by decide) (by decide)) (zr_wide b733_ (by decide) (by decide)) (zhid (pvms_up (zshow hmz689_) h4z689_ q734_ (by decide) (by decide)))
        exact hlz689_ _ 1 0 (zr_wide (show 1 ≤ Int32.toInt 1 ∧ Int32.toInt 1 ≤ 1 from (by decide)) (by decide) (by decide)) (zr_wide (show 0 ≤ Int32.toInt 0 ∧ Int32.toInt 0 ≤ 0 from (by decide)) (by decide) (by decide)) (zhid (Nat.lt_succ_self _))
  exact hlz553_ _ 0 none none M8_ o10_ f11_ (zhid (Nat.lt_succ_self _))
def fpL_eX10_image_124 : List (Nat × Nat × Nat) := [(0, 124, 47), (0, 124, 48), (0, 124, 49), (0, 124, 50), (0, 124, 51), (0, 124, 52), (0, 124, 53), (0, 124, 54), (0, 124, 55), (0, 124, 56), (0, 124, 57), (0, 124, 58), (0, 151, 0), (0, 152, 0), (0, 153, 0), (0, 154, 0), (0, 155, 0), (0, 156, 0), (0, 157, 0), (0, 158, 0), (0, 159, 0), (0, 160, 0), (0, 161, 0), (0, 162, 0)]
def fp_eX10_image_124 (q k : Nat) : Bool := pvfp fpL_eX10_image_124 q k
set_option maxHeartbeats 4000000 in
set_option maxRecDepth 10000 in
theorem se_X10_image_124 (M : pvM) (hok : pvOk M) (d : Nat) : PW 35 d (0, [some (pvR 124), none], [], M) (fun r X => (∃ x : Int32, r = some (pvI x) ∧ (0 ≤ Int32.toInt x ∧ Int32.toInt x ≤ 7) ∧ x = (M.1 124 0)) ∧ pvOk X ∧ pvFr fp_eX10_image_124 M X ∧ (pvWF M → pvWF X) ∧ (Int32.toInt (M.1 124 3) ≤ 99 → Int32.toInt (M.1 124 51) ≤ 99 → Int32.toInt (X.1 124 51) ≤ 99) ∧ X.1 124 48 = (M.1 124 0) ∧ X.1 124 51 = (M.1 124 3) ∧ X.1 124 52 = (M.1 124 4) ∧ X.1 124 46 = 1 ∧ X.1 124 56 = (M.1 124 40) ∧ X.1 124 57 = (M.1 124 43)) := by
  have hT : pvdom 35 = pvD_35 := rfl
  refine pw_blkw hT 3 (pc := 5) (lo := [some (pvR 124), none]) (st := []) (M := pvu M 124 46 1) rfl ⟨trivial, trivial, ⟨rfl, Or.inr rfl⟩, trivial⟩ (fun M1_ e2_ => ?_)
  have o3_ : pvOk M1_ := pvok_u2 e2_ hok rfl (zr_wide (show 1 ≤ Int32.toInt 1 ∧ Int32.toInt 1 ≤ 1 from (by decide)) (by decide) (by decide))
  have f4_ : pvFr fp_eX10_image_124 M M1_ := pvfr_u e2_ pvfr_0 rfl
  have b5_ : (-1) ≤ Int32.toInt (M1_.1 124 15) ∧ Int32.toInt (M1_.1 124 15) ≤ 5 := pvok_r o3_ 124 15 rfl
  refine pw_blkw hT 4 (pc := 13) (lo := [some (pvR 124), none]) (st := []) (M := pvu M1_ 124 47 (M1_.1 124 15)) rfl ⟨trivial, trivial, rfl, rfl, trivial⟩ (fun M6_ e7_ => ?_)
  have o8_ : pvOk M6_ := pvok_u2 e7_ o3_ rfl b5_
  have f9_ : pvFr fp_eX10_image_124 M M6_ := pvfr_u e7_ f4_ rfl
  have b10_ : 0 ≤ Int32.toInt (M6_.1 124 0) ∧ Int32.toInt (M6_.1 124 0) ≤ 7 := pvok_r o8_ 124 0 rfl
  refine pw_blkw hT 4 (pc := 21) (lo := [some (pvR 124), none]) (st := []) (M := pvu M6_ 124 48 (M6_.1 124 0)) rfl ⟨trivial, trivial, rfl, rfl, trivial⟩ (fun M11_ e12_ => ?_)
  have o13_ : pvOk M11_ := pvok_u2 e12_ o8_ rfl b10_
  have f14_ : pvFr fp_eX10_image_124 M M11_ := pvfr_u e12_ f9_ rfl
  have b15_ : 0 ≤ Int32.toInt (M11_.1 124 1) ∧ Int32.toInt (M11_.1 124 1) ≤ 9999 := pvok_r o13_ 124 1 rfl
  refine pw_blkw hT 4 (pc := 29) (lo := [some (pvR 124), none]) (st := []) (M := pvu M11_ 124 49 (M11_.1 124 1)) rfl ⟨trivial, trivial, rfl, rfl, trivial⟩ (fun M16_ e17_ => ?_)
  have o18_ : pvOk M16_ := pvok_u2 e17_ o13_ rfl b15_
  have f19_ : pvFr fp_eX10_image_124 M M16_ := pvfr_u e17_ f14_ rfl
  have b20_ : 0 ≤ Int32.toInt (M16_.1 124 2) ∧ Int32.toInt (M16_.1 124 2) ≤ 999999 := pvok_r o18_ 124 2 rfl
  refine pw_blkw hT 4 (pc := 37) (lo := [some (pvR 124), none]) (st := []) (M := pvu M16_ 124 50 (M16_.1 124 2)) rfl ⟨trivial, trivial, rfl, rfl, trivial⟩ (fun M21_ e22_ => ?_)
  have o23_ : pvOk M21_ := pvok_u2 e22_ o18_ rfl b20_
  have f24_ : pvFr fp_eX10_image_124 M M21_ := pvfr_u e22_ f19_ rfl
  have b25_ : 0 ≤ Int32.toInt (M21_.1 124 3) ∧ Int32.toInt (M21_.1 124 3) ≤ 108 := pvok_r o23_ 124 3 rfl
  refine pw_blkw hT 4 (pc := 45) (lo := [some (pvR 124), none]) (st := []) (M := pvu M21_ 124 51 (M21_.1 124 3)) rfl ⟨trivial, trivial, rfl, rfl, trivial⟩ (fun M26_ e27_ => ?_)
  have o28_ : pvOk M26_ := pvok_u2 e27_ o23_ rfl b25_
  have f29_ : pvFr fp_eX10_image_124 M M26_ := pvfr_u e27_ f24_ rfl
  have b30_ : 0 ≤ Int32.toInt (M26_.1 124 4) ∧ Int32.toInt (M26_.1 124 4) ≤ 4 := pvok_r o28_ 124 4 rfl
  refine pw_blkw hT 4 (pc := 53) (lo := [some (pvR 124), none]) (st := []) (M := pvu M26_ 124 52 (M26_.1 124 4)) rfl ⟨trivial, trivial, rfl, rfl, trivial⟩ (fun M31_ e32_ => ?_)
  have o33_ : pvOk M31_ := pvok_u2 e32_ o28_ rfl b30_
  have f34_ : pvFr fp_eX10_image_124 M M31_ := pvfr_u e32_ f29_ rfl
  have b35_ : 0 ≤ Int32.toInt (M31_.1 124 5) ∧ Int32.toInt (M31_.1 124 5) ≤ 3 := pvok_r o33_ 124 5 rfl
  refine pw_blkw hT 4 (pc := 61) (lo := [some (pvR 124), none]) (st := []) (M := pvu M31_ 124 53 (M31_.1 124 5)) rfl ⟨trivial, trivial, rfl, rfl, trivial⟩ (fun M36_ e37_ => ?_)
  have o38_ : pvOk M36_ := pvok_u2 e37_ o33_ rfl b35_
  have f39_ : pvFr fp_eX10_image_124 M M36_ := pvfr_u e37_ f34_ rfl
  have b40_ : 0 ≤ Int32.toInt (M36_.1 124 6) ∧ Int32.toInt (M36_.1 124 6) ≤ 4 := pvok_r o38_ 124 6 rfl
  refine pw_blkw hT 4 (pc := 69) (lo := [some (pvR 124), none]) (st := []) (M := pvu M36_ 124 54 (M36_.1 124 6)) rfl ⟨trivial, trivial, rfl, rfl, trivial⟩ (fun M41_ e42_ => ?_)
  have o43_ : pvOk M41_ := pvok_u2 e42_ o38_ rfl b40_
  have f44_ : pvFr fp_eX10_image_124 M M41_ := pvfr_u e42_ f39_ rfl
  have b45_ : 0 ≤ Int32.toInt (M41_.1 124 37) ∧ Int32.toInt (M41_.1 124 37) ≤ 7 := pvok_r o43_ 124 37 rfl
  refine pw_blkw hT 4 (pc := 77) (lo := [some (pvR 124), none]) (st := []) (M := pvu M41_ 124 55 (M41_.1 124 37)) rfl ⟨trivial, trivial, rfl, rfl, trivial⟩ (fun M46_ e47_ => ?_)
  have o48_ : pvOk M46_ := pvok_u2 e47_ o43_ rfl b45_
  have f49_ : pvFr fp_eX10_image_124 M M46_ := pvfr_u e47_ f44_ rfl
  have b50_ : 0 ≤ Int32.toInt (M46_.1 124 40) ∧ Int32.toInt (M46_.1 124 40) ≤ 6 := pvok_r o48_ 124 40 rfl
  refine pw_blkw hT 4 (pc := 85) (lo := [some (pvR 124), none]) (st := []) (M := pvu M46_ 124 56 (M46_.1 124 40)) rfl ⟨trivial, trivial, rfl, rfl, trivial⟩ (fun M51_ e52_ => ?_)
  have o53_ : pvOk M51_ := pvok_u2 e52_ o48_ rfl b50_
  have f54_ : pvFr fp_eX10_image_124 M M51_ := pvfr_u e52_ f49_ rfl
  have b55_ : 0 ≤ Int32.toInt (M51_.1 124 43) ∧ Int32.toInt (M51_.1 124 43) ≤ 8 := pvok_r o53_ 124 43 rfl
  refine pw_blkw hT 4 (pc := 93) (lo := [some (pvR 124), none]) (st := []) (M := pvu M51_ 124 57 (M51_.1 124 43)) rfl ⟨trivial, trivial, rfl, rfl, trivial⟩ (fun M56_ e57_ => ?_)
  have o58_ : pvOk M56_ := pvok_u2 e57_ o53_ rfl b55_
  have f59_ : pvFr fp_eX10_image_124 M M56_ := pvfr_u e57_ f54_ rfl
  refine pw_blk hT 2 (S' := (95, [some (pvR 124), some (pvI 0)], [], M56_)) rfl ⟨trivial, trivial, trivial⟩ ?_
  have hlz5946_ : ∀ (nz5946_ : Nat) (i1z5946_ : Int32) (Mz5946_ : pvM), (pvOk Mz5946_) → (pvFr fp_eX10_image_124 M Mz5946_) → (0 ≤ Int32.toInt i1z5946_ ∧ Int32.toInt i1z5946_ ≤ 7) → (Int32.toInt (Mz5946_.1 124 47) = Int32.toInt (M.1 124 15)) → (Int32.toInt (Mz5946_.1 124 51) = Int32.toInt (M.1 124 3)) → (Mz5946_.1 124 48 = (M.1 124 0)) → (Mz5946_.1 124 51 = (M.1 124 3)) → (Mz5946_.1 124 52 = (M.1 124 4)) → (Mz5946_.1 124 46 = 1) → (Mz5946_.1 124 56 = (M.1 124 40)) → (Mz5946_.1 124 57 = (M.1 124 43)) → (zhide ((8 - Int32.toInt i1z5946_).toNat < nz5946_)) → PW 35 d (95, [some (pvR 124), some (pvI i1z5946_)], [], Mz5946_) (fun r X => (∃ x : Int32, r = some (pvI x) ∧ (0 ≤ Int32.toInt x ∧ Int32.toInt x ≤ 7) ∧ x = (M.1 124 0)) ∧ pvOk X ∧ pvFr fp_eX10_image_124 M X ∧ (pvWF M → pvWF X) ∧ (Int32.toInt (M.1 124 3) ≤ 99 → Int32.toInt (M.1 124 51) ≤ 99 → Int32.toInt (X.1 124 51) ≤ 99) ∧ X.1 124 48 = (M.1 124 0) ∧ X.1 124 51 = (M.1 124 3) ∧ X.1 124 52 = (M.1 124 4) ∧ X.1 124 46 = 1 ∧ X.1 124 56 = (M.1 124 40) ∧ X.1 124 57 = (M.1 124 43)) := by
    intro nz5946_
    induction nz5946_ with
    | zero => intro i1z5946_ Mz5946_ oz5946_ fz5946_ h1z5946_ j0z5946_ j1z5946_ j2z5946_ j3z5946_ j4z5946_ j5z5946_ j6z5946_ j7z5946_ hmz5946_; exact absurd (zshow hmz5946_) (Nat.not_lt_zero _)
    | succ nz5946_ ihz5946_ =>
      intro i1z5946_ Mz5946_ oz5946_ fz5946_ h1z5946_ j0z5946_ j1z5946_ j2z5946_ j3z5946_ j4z5946_ j5z5946_ j6z5946_ j7z5946_ hmz5946_
      have b5947_ : (-1) ≤ Int32.toInt (Mz5946_.1 124 47) ∧ Int32.toInt (Mz5946_.1 124 47) ≤ 5 := pvok_r oz5946_ 124 47 rfl
      have b5948_ : 0 ≤ Int32.toInt (Mz5946_.1 124 51) ∧ Int32.toInt (Mz5946_.1 124 51) ≤ 108 := pvok_r oz5946_ 124 51 rfl
      refine pw_blk hT 2 (S' := (98, [some (pvR 124), some (pvI i1z5946_)], [pvI 7, pvI i1z5946_], Mz5946_)) rfl ⟨trivial, trivial, trivial⟩ ?_
      refine pw_ic hT (c := 7 ≤ i1z5946_) rfl rfl (fun c5949_ => ?_) (fun c5949_ => ?_)
      · have b5950_ : 7 ≤ Int32.toInt i1z5946_ ∧ Int32.toInt i1z5946_ ≤ 7 := zr_le_r 7 c5949_ h1z5946_ (show 7 ≤ Int32.toInt 7 ∧ Int32.toInt 7 ≤ 7 from (by decide)) (by decide)
        refine pw_blk hT 2 (S' := (193, [some (pvR 124), some (pvI 0)], [], Mz5946_)) rfl ⟨trivial, trivial, trivial⟩ ?_
        have hlz7376_ : ∀ (nz7376_ : Nat) (i1z7376_ : Int32) (Mz7376_ : pvM), (pvOk Mz7376_) → (pvFr fp_eX10_image_124 M Mz7376_) → (0 ≤ Int32.toInt i1z7376_ ∧ Int32.toInt i1z7376_ ≤ 28) → (Int32.toInt (Mz7376_.1 124 47) = Int32.toInt (M.1 124 15)) → (Int32.toInt (Mz7376_.1 124 51) = Int32.toInt (M.1 124 3)) → (Mz7376_.1 124 48 = (M.1 124 0)) → (Mz7376_.1 124 51 = (M.1 124 3)) → (Mz7376_.1 124 52 = (M.1 124 4)) → (Mz7376_.1 124 46 = 1) → (Mz7376_.1 124 56 = (M.1 124 40)) → (Mz7376_.1 124 57 = (M.1 124 43)) → (zhide ((29 - Int32.toInt i1z7376_).toNat < nz7376_)) → PW 35 d (193, [some (pvR 124), some (pvI i1z7376_)], [], Mz7376_) (fun r X => (∃ x : Int32, r = some (pvI x) ∧ (0 ≤ Int32.toInt x ∧ Int32.toInt x ≤ 7) ∧ x = (M.1 124 0)) ∧ pvOk X ∧ pvFr fp_eX10_image_124 M X ∧ (pvWF M → pvWF X) ∧ (Int32.toInt (M.1 124 3) ≤ 99 → Int32.toInt (M.1 124 51) ≤ 99 → Int32.toInt (X.1 124 51) ≤ 99) ∧ X.1 124 48 = (M.1 124 0) ∧ X.1 124 51 = (M.1 124 3) ∧ X.1 124 52 = (M.1 124 4) ∧ X.1 124 46 = 1 ∧ X.1 124 56 = (M.1 124 40) ∧ X.1 124 57 = (M.1 124 43)) := by
          intro nz7376_
          induction nz7376_ with
          | zero => intro i1z7376_ Mz7376_ oz7376_ fz7376_ h1z7376_ j0z7376_ j1z7376_ j2z7376_ j3z7376_ j4z7376_ j5z7376_ j6z7376_ j7z7376_ hmz7376_; exact absurd (zshow hmz7376_) (Nat.not_lt_zero _)
          | succ nz7376_ ihz7376_ =>
            intro i1z7376_ Mz7376_ oz7376_ fz7376_ h1z7376_ j0z7376_ j1z7376_ j2z7376_ j3z7376_ j4z7376_ j5z7376_ j6z7376_ j7z7376_ hmz7376_
            have b7377_ : (-1) ≤ Int32.toInt (Mz7376_.1 124 47) ∧ Int32.toInt (Mz7376_.1 124 47) ≤ 5 := pvok_r oz7376_ 124 47 rfl
            have b7378_ : 0 ≤ Int32.toInt (Mz7376_.1 124 51) ∧ Int32.toInt (Mz7376_.1 124 51) ≤ 108 := pvok_r oz7376_ 124 51 rfl
            refine pw_blk hT 2 (S' := (196, [some (pvR 124), some (pvI i1z7376_)], [pvI 28, pvI i1z7376_], Mz7376_)) rfl ⟨trivial, trivial, trivial⟩ ?_
            refine pw_ic hT (c := 28 ≤ i1z7376_) rfl rfl (fun c7379_ => ?_) (fun c7379_ => ?_)
            · have b7380_ : 28 ≤ Int32.toInt i1z7376_ ∧ Int32.toInt i1z7376_ ≤ 28 := zr_le_r 28 c7379_ h1z7376_ (show 28 ≤ Int32.toInt 28 ∧ Int32.toInt 28 ≤ 28 from (by decide)) (by decide)
              refine pw_blk hT 2 (S' := (219, [some (pvR 124), some (pvI 0)], [], Mz7376_)) rfl ⟨trivial, trivial, trivial⟩ ?_
              have hlz7722_ : ∀ (nz7722_ : Nat) (i1z7722_ : Int32) (Mz7722_ : pvM), (pvOk Mz7722_) → (pvFr fp_eX10_image_124 M Mz7722_) → (0 ≤ Int32.toInt i1z7722_ ∧ Int32.toInt i1z7722_ ≤ 6) → (Int32.toInt (Mz7722_.1 124 47) = Int32.toInt (M.1 124 15)) → (Int32.toInt (Mz7722_.1 124 51) = Int32.toInt (M.1 124 3)) → (Mz7722_.1 124 48 = (M.1 124 0)) → (Mz7722_.1 124 51 = (M.1 124 3)) → (Mz7722_.1 124 52 = (M.1 124 4)) → (Mz7722_.1 124 46 = 1) → (Mz7722_.1 124 56 = (M.1 124 40)) → (Mz7722_.1 124 57 = (M.1 124 43)) → (zhide ((7 - Int32.toInt i1z7722_).toNat < nz7722_)) → PW 35 d (219, [some (pvR 124), some (pvI i1z7722_)], [], Mz7722_) (fun r X => (∃ x : Int32, r = some (pvI x) ∧ (0 ≤ Int32.toInt x ∧ Int32.toInt x ≤ 7) ∧ x = (M.1 124 0)) ∧ pvOk X ∧ pvFr fp_eX10_image_124 M X ∧ (pvWF M → pvWF X) ∧ (Int32.toInt (M.1 124 3) ≤ 99 → Int32.toInt (M.1 124 51) ≤ 99 → Int32.toInt (X.1 124 51) ≤ 99) ∧ X.1 124 48 = (M.1 124 0) ∧ X.1 124 51 = (M.1 124 3) ∧ X.1 124 52 = (M.1 124 4) ∧ X.1 124 46 = 1 ∧ X.1 124 56 = (M.1 124 40) ∧ X.1 124 57 = (M.1 124 43)) := by
                intro nz7722_
                induction nz7722_ with
                | zero => intro i1z7722_ Mz7722_ oz7722_ fz7722_ h1z7722_ j0z7722_ j1z7722_ j2z7722_ j3z7722_ j4z7722_ j5z7722_ j6z7722_ j7z7722_ hmz7722_; exact absurd (zshow hmz7722_) (Nat.not_lt_zero _)
                | succ nz7722_ ihz7722_ =>
                  intro i1z7722_ Mz7722_ oz7722_ fz7722_ h1z7722_ j0z7722_ j1z7722_ j2z7722_ j3z7722_ j4z7722_ j5z7722_ j6z7722_ j7z7722_ hmz7722_
                  have b7723_ : (-1) ≤ Int32.toInt (Mz7722_.1 124 47) ∧ Int32.toInt (Mz7722_.1 124 47) ≤ 5 := pvok_r oz7722_ 124 47 rfl
                  have b7724_ : 0 ≤ Int32.toInt (Mz7722_.1 124 51) ∧ Int32.toInt (Mz7722_.1 124 51) ≤ 108 := pvok_r oz7722_ 124 51 rfl
                  refine pw_blk hT 2 (S' := (222, [some (pvR 124), some (pvI i1z7722_)], [pvI 6, pvI i1z7722_], Mz7722_)) rfl ⟨trivial, trivial, trivial⟩ ?_
                  refine pw_ic hT (c := 6 ≤ i1z7722_) rfl rfl (fun c7725_ => ?_) (fun c7725_ => ?_)
                  · have b7726_ : 6 ≤ Int32.toInt i1z7722_ ∧ Int32.toInt i1z7722_ ≤ 6 := zr_le_r 6 c7725_ h1z7722_ (show 6 ≤ Int32.toInt 6 ∧ Int32.toInt 6 ≤ 6 from (by decide)) (by decide)
                    refine pw_blk hT 2 (S' := (257, [some (pvR 124), some (pvI 0)], [], Mz7722_)) rfl ⟨trivial, trivial, trivial⟩ ?_
                    have hlz7792_ : ∀ (nz7792_ : Nat) (i1z7792_ : Int32) (Mz7792_ : pvM), (pvOk Mz7792_) → (pvFr fp_eX10_image_124 M Mz7792_) → (0 ≤ Int32.toInt i1z7792_ ∧ Int32.toInt i1z7792_ ≤ 8) → (Int32.toInt (Mz7792_.1 124 47) = Int32.toInt (M.1 124 15)) → (Int32.toInt (Mz7792_.1 124 51) = Int32.toInt (M.1 124 3)) → (Mz7792_.1 124 48 = (M.1 124 0)) → (Mz7792_.1 124 51 = (M.1 124 3)) → (Mz7792_.1 124 52 = (M.1 124 4)) → (Mz7792_.1 124 46 = 1) → (Mz7792_.1 124 56 = (M.1 124 40)) → (Mz7792_.1 124 57 = (M.1 124 43)) → (zhide ((9 - Int32.toInt i1z7792_).toNat < nz7792_)) → PW 35 d (257, [some (pvR 124), some (pvI i1z7792_)], [], Mz7792_) (fun r X => (∃ x : Int32, r = some (pvI x) ∧ (0 ≤ Int32.toInt x ∧ Int32.toInt x ≤ 7) ∧ x = (M.1 124 0)) ∧ pvOk X ∧ pvFr fp_eX10_image_124 M X ∧ (pvWF M → pvWF X) ∧ (Int32.toInt (M.1 124 3) ≤ 99 → Int32.toInt (M.1 124 51) ≤ 99 → Int32.toInt (X.1 124 51) ≤ 99) ∧ X.1 124 48 = (M.1 124 0) ∧ X.1 124 51 = (M.1 124 3) ∧ X.1 124 52 = (M.1 124 4) ∧ X.1 124 46 = 1 ∧ X.1 124 56 = (M.1 124 40) ∧ X.1 124 57 = (M.1 124 43)) := by
                      intro nz7792_
                      induction nz7792_ with
                      | zero => intro i1z7792_ Mz7792_ oz7792_ fz7792_ h1z7792_ j0z7792_ j1z7792_ j2z7792_ j3z7792_ j4z7792_ j5z7792_ j6z7792_ j7z7792_ hmz7792_; exact absurd (zshow hmz7792_) (Nat.not_lt_zero _)
                      | succ nz7792_ ihz7792_ =>
                        intro i1z7792_ Mz7792_ oz7792_ fz7792_ h1z7792_ j0z7792_ j1z7792_ j2z7792_ j3z7792_ j4z7792_ j5z7792_ j6z7792_ j7z7792_ hmz7792_
                        have b7793_ : (-1) ≤ Int32.toInt (Mz7792_.1 124 47) ∧ Int32.toInt (Mz7792_.1 124 47) ≤ 5 := pvok_r oz7792_ 124 47 rfl
                        have b7794_ : 0 ≤ Int32.toInt (Mz7792_.1 124 51) ∧ Int32.toInt (Mz7792_.1 124 51) ≤ 108 := pvok_r oz7792_ 124 51 rfl
                        refine pw_blk hT 2 (S' := (260, [some (pvR 124), some (pvI i1z7792_)], [pvI 8, pvI i1z7792_], Mz7792_)) rfl ⟨trivial, trivial, trivial⟩ ?_
                        refine pw_ic hT (c := 8 ≤ i1z7792_) rfl rfl (fun c7795_ => ?_) (fun c7795_ => ?_)
                        · have b7796_ : 8 ≤ Int32.toInt i1z7792_ ∧ Int32.toInt i1z7792_ ≤ 8 := zr_le_r 8 c7795_ h1z7792_ (show 8 ≤ Int32.toInt 8 ∧ Int32.toInt 8 ≤ 8 from (by decide)) (by decide)
                          have b7797_ : 0 ≤ Int32.toInt (Mz7792_.1 124 0) ∧ Int32.toInt (Mz7792_.1 124 0) ≤ 7 := pvok_r oz7792_ 124 0 rfl
                          refine pw_blk hT 2 (S' := (297, [some (pvR 124), some (pvI i1z7792_)], [pvI (Mz7792_.1 124 0)], Mz7792_)) rfl ⟨trivial, rfl, trivial⟩ ?_
                          exact pw_ret hT rfl (r := some (pvI (Mz7792_.1 124 0))) (M' := Mz7792_) ⟨rfl, rfl⟩ ⟨⟨_, rfl, b7797_, (show (Mz7792_.1 124 0) = (M.1 124 0) from by rw [(fz7792_ 124 0 rfl)])⟩, oz7792_, fz7792_, ⟨fun hz => ⟨by have z3 := hz.1; have z4 := hz.2.1; have w0 : Int32.toInt (Mz7792_.1 124 14) = Int32.toInt (M.1 124 14) := congrArg Int32.toInt (fz7792_ 124 14 rfl); have v0 : Int32.toInt (Mz7792_.1 124 15) = Int32.toInt (M.1 124 15) := congrArg Int32.toInt (fz7792_ 124 15 rfl); omega, by have z3 := hz.1; have z4 := hz.2.1; have w0 : Int32.toInt (Mz7792_.1 124 14) = Int32.toInt (M.1 124 14) := congrArg Int32.toInt (fz7792_ 124 14 rfl); omega, fun a ha => pvWh_r (pvfr_row (L := fpL_eX10_image_124) fz7792_ rfl) (pvfr_row (L := fpL_eX10_image_124) fz7792_ rfl) (pvfr_row (L := fpL_eX10_image_124) fz7792_ rfl) (pvfr_row (L := fpL_eX10_image_124) fz7792_ rfl) (pvfr_row (L := fpL_eX10_image_124) fz7792_ rfl) (hz.2.2 a (by have w0 : Int32.toInt (Mz7792_.1 124 14) = Int32.toInt (M.1 124 14) := congrArg Int32.toInt (fz7792_ 124 14 rfl); omega))⟩, fun hc hc2 => by omega⟩, j2z7792_, j3z7792_, j4z7792_, j5z7792_, j6z7792_, j7z7792_⟩
                        · have b7798_ : 0 ≤ Int32.toInt i1z7792_ ∧ Int32.toInt i1z7792_ ≤ 7 := zr_nle_r 7 c7795_ h1z7792_ (show 8 ≤ Int32.toInt 8 ∧ Int32.toInt 8 ≤ 8 from (by decide)) (by decide)
                          have b7799_ : 0 ≤ Int32.toInt (Mz7792_.1 149 (Int32.toNatClampNeg i1z7792_)) ∧ Int32.toInt (Mz7792_.1 149 (Int32.toNatClampNeg i1z7792_)) ≤ 6 := pvok_r oz7792_ 149 (Int32.toNatClampNeg i1z7792_) rfl
                          refine pw_blkw hT 8 (pc := 275) (lo := [some (pvR 124), some (pvI i1z7792_)]) (st := []) (M := pvu Mz7792_ 160 (Int32.toNatClampNeg i1z7792_) (Mz7792_.1 149 (Int32.toNatClampNeg i1z7792_))) rfl ⟨trivial, rfl, trivial, trivial, rfl, trivial, ⟨rfl, (zr_in (n := 8) b7798_ (by decide) (by decide))⟩, ⟨rfl, (zr_in (n := 8) b7798_ (by decide) (by decide))⟩, trivial⟩ (fun M7800_ e7801_ => ?_)
                          have o7802_ : pvOk M7800_ := pvok_u2 e7801_ oz7792_ rfl b7799_
                          have f7803_ : pvFr fp_eX10_image_124 M M7800_ := pvfr_u e7801_ fz7792_ rfl
                          have b7804_ : 0 ≤ Int32.toInt (M7800_.1 150 (Int32.toNatClampNeg i1z7792_)) ∧ Int32.toInt (M7800_.1 150 (Int32.toNatClampNeg i1z7792_)) ≤ 9999 := pvok_r o7802_ 150 (Int32.toNatClampNeg i1z7792_) rfl
                          refine pw_blkw hT 8 (pc := 287) (lo := [some (pvR 124), some (pvI i1z7792_)]) (st := []) (M := pvu M7800_ 161 (Int32.toNatClampNeg i1z7792_) (M7800_.1 150 (Int32.toNatClampNeg i1z7792_))) rfl ⟨trivial, rfl, trivial, trivial, rfl, trivial, ⟨rfl, (zr_in (n := 8) b7798_ (by decide) (by decide))⟩, ⟨rfl, (zr_in (n := 8) b7798_ (by decide) (by decide))⟩, trivial⟩ (fun M7805_ e7806_ => ?_)
                          have o7807_ : pvOk M7805_ := pvok_u2 e7806_ o7802_ rfl b7804_
                          have f7808_ : pvFr fp_eX10_image_124 M M7805_ := pvfr_u e7806_ f7803_ rfl
                          obtain ⟨q7810_, b7809_⟩ : (Int32.toInt (i1z7792_ + 1) = Int32.toInt i1z7792_ + 1) ∧ (1 ≤ Int32.toInt (i1z7792_ + 1) ∧ Int32.toInt (i1z7792_ + 1) ≤ 8) := zadd_k i1z7792_ 1 1 1 8 b7798_ (by decide) (by decide) (by decide) (by decide) (by decide)
                          refine pw_blk hT 2 (S' := (257, [some (pvR 124), some (pvI (i1z7792_ + 1))], [], M7805_)) rfl ⟨trivial, trivial, trivial⟩ ?_
                          have j7811_ : Int32.toInt (M7805_.1 124 47) = Int32.toInt (M.1 124 15) := (by have y01 : Int32.toInt (M7805_.1 124 47) = Int32.toInt (Mz7792_.1 124 47) := congrArg Int32.toInt ((pvu_n e7806_ 124 47 (Or.inl (by decide))).trans (pvu_n e7801_ 124 47 (Or.inl (by decide)))); omega)
                          have j7812_ : Int32.toInt (M7805_.1 124 51) = Int32.toInt (M.1 124 3) := (by have y01 : Int32.toInt (M7805_.1 124 51) = Int32.toInt (Mz7792_.1 124 51) := congrArg Int32.toInt ((pvu_n e7806_ 124 51 (Or.inl (by decide))).trans (pvu_n e7801_ 124 51 (Or.inl (by decide)))); omega)
                          have j7813_ : M7805_.1 124 48 = (M.1 124 0) := (((pvu_n e7806_ 124 48 (Or.inl (by decide))).trans (pvu_n e7801_ 124 48 (Or.inl (by decide)))).trans (j2z7792_))
                          have j7814_ : M7805_.1 124 51 = (M.1 124 3) := (((pvu_n e7806_ 124 51 (Or.inl (by decide))).trans (pvu_n e7801_ 124 51 (Or.inl (by decide)))).trans (j3z7792_))
                          have j7815_ : M7805_.1 124 52 = (M.1 124 4) := (((pvu_n e7806_ 124 52 (Or.inl (by decide))).trans (pvu_n e7801_ 124 52 (Or.inl (by decide)))).trans (j4z7792_))
                          have j7816_ : M7805_.1 124 46 = 1 := (((pvu_n e7806_ 124 46 (Or.inl (by decide))).trans (pvu_n e7801_ 124 46 (Or.inl (by decide)))).trans (j5z7792_))
                          have j7817_ : M7805_.1 124 56 = (M.1 124 40) := (((pvu_n e7806_ 124 56 (Or.inl (by decide))).trans (pvu_n e7801_ 124 56 (Or.inl (by decide)))).trans (j6z7792_))
                          have j7818_ : M7805_.1 124 57 = (M.1 124 43) := (((pvu_n e7806_ 124 57 (Or.inl (by decide))).trans (pvu_n e7801_ 124 57 (Or.inl (by decide)))).trans (j7z7792_))
                          exact ihz7792_ (i1z7792_ + 1) M7805_ o7807_ f7808_ (zr_wide b7809_ (by decide) (by decide)) j7811_ j7812_ j7813_ j7814_ j7815_ j7816_ j7817_ j7818_ (zhid (by have hm0 := zshow hmz7792_; have y01 : Int32.toInt (M7805_.1 124 47) = Int32.toInt (Mz7792_.1 124 47) := congrArg Int32.toInt ((pvu_n e7806_ 124 47 (Or.inl (by decide))).trans (pvu_n e7801_ 124 47 (Or.inl (by decide)))); have y11 : Int32.toInt (M7805_.1 124 51) = Int32.toInt (Mz7792_.1 124 51) := congrArg Int32.toInt ((pvu_n e7806_ 124 51 (Or.inl (by decide))).trans (pvu_n e7801_ 124 51 (Or.inl (by decide)))); omega))
                    have u7819_ : Int32.toInt 0 = 0 := by decide
                    have j7820_ : Int32.toInt (Mz7722_.1 124 47) = Int32.toInt (M.1 124 15) := (by omega)
                    have j7821_ : Int32.toInt (Mz7722_.1 124 51) = Int32.toInt (M.1 124 3) := (by omega)
                    have j7822_ : Mz7722_.1 124 48 = (M.1 124 0) := j2z7722_
                    have j7823_ : Mz7722_.1 124 51 = (M.1 124 3) := j3z7722_
                    have j7824_ : Mz7722_.1 124 52 = (M.1 124 4) := j4z7722_
                    have j7825_ : Mz7722_.1 124 46 = 1 := j5z7722_
                    have j7826_ : Mz7722_.1 124 56 = (M.1 124 40) := j6z7722_
                    have j7827_ : Mz7722_.1 124 57 = (M.1 124 43) := j7z7722_
                    exact hlz7792_ _ 0 Mz7722_ oz7722_ fz7722_ (zr_wide (show 0 ≤ Int32.toInt 0 ∧ Int32.toInt 0 ≤ 0 from (by decide)) (by decide) (by decide)) j7820_ j7821_ j7822_ j7823_ j7824_ j7825_ j7826_ j7827_ (zhid (Nat.lt_succ_self _))
                  · have b7828_ : 0 ≤ Int32.toInt i1z7722_ ∧ Int32.toInt i1z7722_ ≤ 5 := zr_nle_r 5 c7725_ h1z7722_ (show 6 ≤ Int32.toInt 6 ∧ Int32.toInt 6 ≤ 6 from (by decide)) (by decide)
                    have b7829_ : 0 ≤ Int32.toInt (Mz7722_.1 147 (Int32.toNatClampNeg i1z7722_)) ∧ Int32.toInt (Mz7722_.1 147 (Int32.toNatClampNeg i1z7722_)) ≤ 6 := pvok_r oz7722_ 147 (Int32.toNatClampNeg i1z7722_) rfl
                    refine pw_blkw hT 8 (pc := 237) (lo := [some (pvR 124), some (pvI i1z7722_)]) (st := []) (M := pvu Mz7722_ 158 (Int32.toNatClampNeg i1z7722_) (Mz7722_.1 147 (Int32.toNatClampNeg i1z7722_))) rfl ⟨trivial, rfl, trivial, trivial, rfl, trivial, ⟨rfl, (zr_in (n := 6) b7828_ (by decide) (by decide))⟩, ⟨rfl, (zr_in (n := 6) b7828_ (by decide) (by decide))⟩, trivial⟩ (fun M7830_ e7831_ => ?_)
                    have o7832_ : pvOk M7830_ := pvok_u2 e7831_ oz7722_ rfl b7829_
                    have f7833_ : pvFr fp_eX10_image_124 M M7830_ := pvfr_u e7831_ fz7722_ rfl
                    have b7834_ : 0 ≤ Int32.toInt (M7830_.1 148 (Int32.toNatClampNeg i1z7722_)) ∧ Int32.toInt (M7830_.1 148 (Int32.toNatClampNeg i1z7722_)) ≤ 9999 := pvok_r o7832_ 148 (Int32.toNatClampNeg i1z7722_) rfl
                    refine pw_blkw hT 8 (pc := 249) (lo := [some (pvR 124), some (pvI i1z7722_)]) (st := []) (M := pvu M7830_ 159 (Int32.toNatClampNeg i1z7722_) (M7830_.1 148 (Int32.toNatClampNeg i1z7722_))) rfl ⟨trivial, rfl, trivial, trivial, rfl, trivial, ⟨rfl, (zr_in (n := 6) b7828_ (by decide) (by decide))⟩, ⟨rfl, (zr_in (n := 6) b7828_ (by decide) (by decide))⟩, trivial⟩ (fun M7835_ e7836_ => ?_)
                    have o7837_ : pvOk M7835_ := pvok_u2 e7836_ o7832_ rfl b7834_
                    have f7838_ : pvFr fp_eX10_image_124 M M7835_ := pvfr_u e7836_ f7833_ rfl
                    obtain ⟨q7840_, b7839_⟩ : (Int32.toInt (i1z7722_ + 1) = Int32.toInt i1z7722_ + 1) ∧ (1 ≤ Int32.toInt (i1z7722_ + 1) ∧ Int32.toInt (i1z7722_ + 1) ≤ 6) := zadd_k i1z7722_ 1 1 1 6 b7828_ (by decide) (by decide) (by decide) (by decide) (by decide)
                    refine pw_blk hT 2 (S' := (219, [some (pvR 124), some (pvI (i1z7722_ + 1))], [], M7835_)) rfl ⟨trivial, trivial, trivial⟩ ?_
                    have j7841_ : Int32.toInt (M7835_.1 124 47) = Int32.toInt (M.1 124 15) := (by have y01 : Int32.toInt (M7835_.1 124 47) = Int32.toInt (Mz7722_.1 124 47) := congrArg Int32.toInt ((pvu_n e7836_ 124 47 (Or.inl (by decide))).trans (pvu_n e7831_ 124 47 (Or.inl (by decide)))); omega)
                    have j7842_ : Int32.toInt (M7835_.1 124 51) = Int32.toInt (M.1 124 3) := (by have y01 : Int32.toInt (M7835_.1 124 51) = Int32.toInt (Mz7722_.1 124 51) := congrArg Int32.toInt ((pvu_n e7836_ 124 51 (Or.inl (by decide))).trans (pvu_n e7831_ 124 51 (Or.inl (by decide)))); omega)
                    have j7843_ : M7835_.1 124 48 = (M.1 124 0) := (((pvu_n e7836_ 124 48 (Or.inl (by decide))).trans (pvu_n e7831_ 124 48 (Or.inl (by decide)))).trans (j2z7722_))
                    have j7844_ : M7835_.1 124 51 = (M.1 124 3) := (((pvu_n e7836_ 124 51 (Or.inl (by decide))).trans (pvu_n e7831_ 124 51 (Or.inl (by decide)))).trans (j3z7722_))
                    have j7845_ : M7835_.1 124 52 = (M.1 124 4) := (((pvu_n e7836_ 124 52 (Or.inl (by decide))).trans (pvu_n e7831_ 124 52 (Or.inl (by decide)))).trans (j4z7722_))
                    have j7846_ : M7835_.1 124 46 = 1 := (((pvu_n e7836_ 124 46 (Or.inl (by decide))).trans (pvu_n e7831_ 124 46 (Or.inl (by decide)))).trans (j5z7722_))
                    have j7847_ : M7835_.1 124 56 = (M.1 124 40) := (((pvu_n e7836_ 124 56 (Or.inl (by decide))).trans (pvu_n e7831_ 124 56 (Or.inl (by decide)))).trans (j6z7722_))
                    have j7848_ : M7835_.1 124 57 = (M.1 124 43) := (((pvu_n e7836_ 124 57 (Or.inl (by decide))).trans (pvu_n e7831_ 124 57 (Or.inl (by decide)))).trans (j7z7722_))
                    exact ihz7722_ (i1z7722_ + 1) M7835_ o7837_ f7838_ (zr_wide b7839_ (by decide) (by decide)) j7841_ j7842_ j7843_ j7844_ j7845_ j7846_ j7847_ j7848_ (zhid (by have hm0 := zshow hmz7722_; have y01 : Int32.toInt (M7835_.1 124 47) = Int32.toInt (Mz7722_.1 124 47) := congrArg Int32.toInt ((pvu_n e7836_ 124 47 (Or.inl (by decide))).trans (pvu_n e7831_ 124 47 (Or.inl (by decide)))); have y11 : Int32.toInt (M7835_.1 124 51) = Int32.toInt (Mz7722_.1 124 51) := congrArg Int32.toInt ((pvu_n e7836_ 124 51 (Or.inl (by decide))).trans (pvu_n e7831_ 124 51 (Or.inl (by decide)))); omega))
              have u7849_ : Int32.toInt 0 = 0 := by decide
              have j7850_ : Int32.toInt (Mz7376_.1 124 47) = Int32.toInt (M.1 124 15) := (by omega)
              have j7851_ : Int32.toInt (Mz7376_.1 124 51) = Int32.toInt (M.1 124 3) := (by omega)
              have j7852_ : Mz7376_.1 124 48 = (M.1 124 0) := j2z7376_
              have j7853_ : Mz7376_.1 124 51 = (M.1 124 3) := j3z7376_
              have j7854_ : Mz7376_.1 124 52 = (M.1 124 4) := j4z7376_
              have j7855_ : Mz7376_.1 124 46 = 1 := j5z7376_
              have j7856_ : Mz7376_.1 124 56 = (M.1 124 40) := j6z7376_
              have j7857_ : Mz7376_.1 124 57 = (M.1 124 43) := j7z7376_
              exact hlz7722_ _ 0 Mz7376_ oz7376_ fz7376_ (zr_wide (show 0 ≤ Int32.toInt 0 ∧ Int32.toInt 0 ≤ 0 from (by decide)) (by decide) (by decide)) j7850_ j7851_ j7852_ j7853_ j7854_ j7855_ j7856_ j7857_ (zhid (Nat.lt_succ_self _))
            · have b7858_ : 0 ≤ Int32.toInt i1z7376_ ∧ Int32.toInt i1z7376_ ≤ 27 := zr_nle_r 27 c7379_ h1z7376_ (show 28 ≤ Int32.toInt 28 ∧ Int32.toInt 28 ≤ 28 from (by decide)) (by decide)
              have b7859_ : 0 ≤ Int32.toInt (Mz7376_.1 130 (Int32.toNatClampNeg i1z7376_)) ∧ Int32.toInt (Mz7376_.1 130 (Int32.toNatClampNeg i1z7376_)) ≤ 9 := pvok_r oz7376_ 130 (Int32.toNatClampNeg i1z7376_) rfl
              refine pw_blkw hT 8 (pc := 211) (lo := [some (pvR 124), some (pvI i1z7376_)]) (st := []) (M := pvu Mz7376_ 156 (Int32.toNatClampNeg i1z7376_) (Mz7376_.1 130 (Int32.toNatClampNeg i1z7376_))) rfl ⟨trivial, rfl, trivial, trivial, rfl, trivial, ⟨rfl, (zr_in (n := 28) b7858_ (by decide) (by decide))⟩, ⟨rfl, (zr_in (n := 28) b7858_ (by decide) (by decide))⟩, trivial⟩ (fun M7860_ e7861_ => ?_)
              have o7862_ : pvOk M7860_ := pvok_u2 e7861_ oz7376_ rfl b7859_
              have f7863_ : pvFr fp_eX10_image_124 M M7860_ := pvfr_u e7861_ fz7376_ rfl
              obtain ⟨q7865_, b7864_⟩ : (Int32.toInt (i1z7376_ + 1) = Int32.toInt i1z7376_ + 1) ∧ (1 ≤ Int32.toInt (i1z7376_ + 1) ∧ Int32.toInt (i1z7376_ + 1) ≤ 28) := zadd_k i1z7376_ 1 1 1 28 b7858_ (by decide) (by decide) (by decide) (by decide) (by decide)
              refine pw_blk hT 2 (S' := (193, [some (pvR 124), some (pvI (i1z7376_ + 1))], [], M7860_)) rfl ⟨trivial, trivial, trivial⟩ ?_
              have j7866_ : Int32.toInt (M7860_.1 124 47) = Int32.toInt (M.1 124 15) := (by have y01 : Int32.toInt (M7860_.1 124 47) = Int32.toInt (Mz7376_.1 124 47) := congrArg Int32.toInt (pvu_n e7861_ 124 47 (Or.inl (by decide))); omega)
              have j7867_ : Int32.toInt (M7860_.1 124 51) = Int32.toInt (M.1 124 3) := (by have y01 : Int32.toInt (M7860_.1 124 51) = Int32.toInt (Mz7376_.1 124 51) := congrArg Int32.toInt (pvu_n e7861_ 124 51 (Or.inl (by decide))); omega)
              have j7868_ : M7860_.1 124 48 = (M.1 124 0) := ((pvu_n e7861_ 124 48 (Or.inl (by decide))).trans (j2z7376_))
              have j7869_ : M7860_.1 124 51 = (M.1 124 3) := ((pvu_n e7861_ 124 51 (Or.inl (by decide))).trans (j3z7376_))
              have j7870_ : M7860_.1 124 52 = (M.1 124 4) := ((pvu_n e7861_ 124 52 (Or.inl (by decide))).trans (j4z7376_))
              have j7871_ : M7860_.1 124 46 = 1 := ((pvu_n e7861_ 124 46 (Or.inl (by decide))).trans (j5z7376_))
              have j7872_ : M7860_.1 124 56 = (M.1 124 40) := ((pvu_n e7861_ 124 56 (Or.inl (by decide))).trans (j6z7376_))
              have j7873_ : M7860_.1 124 57 = (M.1 124 43) := ((pvu_n e7861_ 124 57 (Or.inl (by decide))).trans (j7z7376_))
              exact ihz7376_ (i1z7376_ + 1) M7860_ o7862_ f7863_ (zr_wide b7864_ (by decide) (by decide)) j7866_ j7867_ j7868_ j7869_ j7870_ j7871_ j7872_ j7873_ (zhid (by have hm0 := zshow hmz7376_; have y01 : Int32.toInt (M7860_.1 124 47) = Int32.toInt (Mz7376_.1 124 47) := congrArg Int32.toInt (pvu_n e7861_ 124 47 (Or.inl (by decide))); have y11 : Int32.toInt (M7860_.1 124 51) = Int32.toInt (Mz7376_.1 124 51) := congrArg Int32.toInt (pvu_n e7861_ 124 51 (Or.inl (by decide))); omega))
        have u7874_ : Int32.toInt 0 = 0 := by decide
        have j7875_ : Int32.toInt (Mz5946_.1 124 47) = Int32.toInt (M.1 124 15) := (by omega)
        have j7876_ : Int32.toInt (Mz5946_.1 124 51) = Int32.toInt (M.1 124 3) := (by omega)
        have j7877_ : Mz5946_.1 124 48 = (M.1 124 0) := j2z5946_
        have j7878_ : Mz5946_.1 124 51 = (M.1 124 3) := j3z5946_
        have j7879_ : Mz5946_.1 124 52 = (M.1 124 4) := j4z5946_
        have j7880_ : Mz5946_.1 124 46 = 1 := j5z5946_
        have j7881_ : Mz5946_.1 124 56 = (M.1 124 40) := j6z5946_
        have j7882_ : Mz5946_.1 124 57 = (M.1 124 43) := j7z5946_
        exact hlz7376_ _ 0 Mz5946_ oz5946_ fz5946_ (zr_wide (show 0 ≤ Int32.toInt 0 ∧ Int32.toInt 0 ≤ 0 from (by decide)) (by decide) (by decide)) j7875_ j7876_ j7877_ j7878_ j7879_ j7880_ j7881_ j7882_ (zhid (Nat.lt_succ_self _))
      · have b7883_ : 0 ≤ Int32.toInt i1z5946_ ∧ Int32.toInt i1z5946_ ≤ 6 := zr_nle_r 6 c5949_ h1z5946_ (show 7 ≤ Int32.toInt 7 ∧ Int32.toInt 7 ≤ 7 from (by decide)) (by decide)
        have b7884_ : 0 ≤ Int32.toInt (Mz5946_.1 125 (Int32.toNatClampNeg i1z5946_)) ∧ Int32.toInt (Mz5946_.1 125 (Int32.toNatClampNeg i1z5946_)) ≤ 6 := pvok_r oz5946_ 125 (Int32.toNatClampNeg i1z5946_) rfl
        refine pw_blkw hT 8 (pc := 113) (lo := [some (pvR 124), some (pvI i1z5946_)]) (st := []) (M := pvu Mz5946_ 151 (Int32.toNatClampNeg i1z5946_) (Mz5946_.1 125 (Int32.toNatClampNeg i1z5946_))) rfl ⟨trivial, rfl, trivial, trivial, rfl, trivial, ⟨rfl, (zr_in (n := 7) b7883_ (by decide) (by decide))⟩, ⟨rfl, (zr_in (n := 7) b7883_ (by decide) (by decide))⟩, trivial⟩ (fun M7885_ e7886_ => ?_)
        have o7887_ : pvOk M7885_ := pvok_u2 e7886_ oz5946_ rfl b7884_
        have f7888_ : pvFr fp_eX10_image_124 M M7885_ := pvfr_u e7886_ fz5946_ rfl
        have b7889_ : 0 ≤ Int32.toInt (M7885_.1 126 (Int32.toNatClampNeg i1z5946_)) ∧ Int32.toInt (M7885_.1 126 (Int32.toNatClampNeg i1z5946_)) ≤ 9 := pvok_r o7887_ 126 (Int32.toNatClampNeg i1z5946_) rfl
        refine pw_blkw hT 8 (pc := 125) (lo := [some (pvR 124), some (pvI i1z5946_)]) (st := []) (M := pvu M7885_ 152 (Int32.toNatClampNeg i1z5946_) (M7885_.1 126 (Int32.toNatClampNeg i1z5946_))) rfl ⟨trivial, rfl, trivial, trivial, rfl, trivial, ⟨rfl, (zr_in (n := 7) b7883_ (by decide) (by decide))⟩, ⟨rfl, (zr_in (n := 7) b7883_ (by decide) (by decide))⟩, trivial⟩ (fun M7890_ e7891_ => ?_)
        have o7892_ : pvOk M7890_ := pvok_u2 e7891_ o7887_ rfl b7889_
        have f7893_ : pvFr fp_eX10_image_124 M M7890_ := pvfr_u e7891_ f7888_ rfl
        have b7894_ : 0 ≤ Int32.toInt (M7890_.1 127 (Int32.toNatClampNeg i1z5946_)) ∧ Int32.toInt (M7890_.1 127 (Int32.toNatClampNeg i1z5946_)) ≤ 3 := pvok_r o7892_ 127 (Int32.toNatClampNeg i1z5946_) rfl
        refine pw_blkw hT 8 (pc := 137) (lo := [some (pvR 124), some (pvI i1z5946_)]) (st := []) (M := pvu M7890_ 153 (Int32.toNatClampNeg i1z5946_) (M7890_.1 127 (Int32.toNatClampNeg i1z5946_))) rfl ⟨trivial, rfl, trivial, trivial, rfl, trivial, ⟨rfl, (zr_in (n := 7) b7883_ (by decide) (by decide))⟩, ⟨rfl, (zr_in (n := 7) b7883_ (by decide) (by decide))⟩, trivial⟩ (fun M7895_ e7896_ => ?_)
        have o7897_ : pvOk M7895_ := pvok_u2 e7896_ o7892_ rfl b7894_
        have f7898_ : pvFr fp_eX10_image_124 M M7895_ := pvfr_u e7896_ f7893_ rfl
        have b7899_ : 0 ≤ Int32.toInt (M7895_.1 128 (Int32.toNatClampNeg i1z5946_)) ∧ Int32.toInt (M7895_.1 128 (Int32.toNatClampNeg i1z5946_)) ≤ 4 := pvok_r o7897_ 128 (Int32.toNatClampNeg i1z5946_) rfl
        refine pw_blkw hT 8 (pc := 149) (lo := [some (pvR 124), some (pvI i1z5946_)]) (st := []) (M := pvu M7895_ 154 (Int32.toNatClampNeg i1z5946_) (M7895_.1 128 (Int32.toNatClampNeg i1z5946_))) rfl ⟨trivial, rfl, trivial, trivial, rfl, trivial, ⟨rfl, (zr_in (n := 7) b7883_ (by decide) (by decide))⟩, ⟨rfl, (zr_in (n := 7) b7883_ (by decide) (by decide))⟩, trivial⟩ (fun M7900_ e7901_ => ?_)
        have o7902_ : pvOk M7900_ := pvok_u2 e7901_ o7897_ rfl b7899_
        have f7903_ : pvFr fp_eX10_image_124 M M7900_ := pvfr_u e7901_ f7898_ rfl
        have b7904_ : 0 ≤ Int32.toInt (M7900_.1 129 (Int32.toNatClampNeg i1z5946_)) ∧ Int32.toInt (M7900_.1 129 (Int32.toNatClampNeg i1z5946_)) ≤ 9 := pvok_r o7902_ 129 (Int32.toNatClampNeg i1z5946_) rfl
        refine pw_blkw hT 8 (pc := 161) (lo := [some (pvR 124), some (pvI i1z5946_)]) (st := []) (M := pvu M7900_ 155 (Int32.toNatClampNeg i1z5946_) (M7900_.1 129 (Int32.toNatClampNeg i1z5946_))) rfl ⟨trivial, rfl, trivial, trivial, rfl, trivial, ⟨rfl, (zr_in (n := 7) b7883_ (by decide) (by decide))⟩, ⟨rfl, (zr_in (n := 7) b7883_ (by decide) (by decide))⟩, trivial⟩ (fun M7905_ e7906_ => ?_)
        have o7907_ : pvOk M7905_ := pvok_u2 e7906_ o7902_ rfl b7904_
        have f7908_ : pvFr fp_eX10_image_124 M M7905_ := pvfr_u e7906_ f7903_ rfl
        have b7909_ : 0 ≤ Int32.toInt (M7905_.1 131 (Int32.toNatClampNeg i1z5946_)) ∧ Int32.toInt (M7905_.1 131 (Int32.toNatClampNeg i1z5946_)) ≤ 1 := pvok_r o7907_ 131 (Int32.toNatClampNeg i1z5946_) rfl
        refine pw_blkw hT 8 (pc := 173) (lo := [some (pvR 124), some (pvI i1z5946_)]) (st := []) (M := pvu M7905_ 162 (Int32.toNatClampNeg i1z5946_) (vp_nar .boolean (M7905_.1 131 (Int32.toNatClampNeg i1z5946_)))) rfl ⟨trivial, rfl, trivial, trivial, rfl, trivial, ⟨rfl, (zr_in (n := 7) b7883_ (by decide) (by decide))⟩, ⟨rfl, (zr_in (n := 7) b7883_ (by decide) (by decide))⟩, trivial⟩ (fun M7910_ e7911_ => ?_)
        have o7912_ : pvOk M7910_ := pvok_u2 e7911_ o7907_ rfl (zboolr (M7905_.1 131 (Int32.toNatClampNeg i1z5946_)))
        have f7913_ : pvFr fp_eX10_image_124 M M7910_ := pvfr_u e7911_ f7908_ rfl
        have b7914_ : 0 ≤ Int32.toInt (M7910_.1 145 (Int32.toNatClampNeg i1z5946_)) ∧ Int32.toInt (M7910_.1 145 (Int32.toNatClampNeg i1z5946_)) ≤ 6 := pvok_r o7912_ 145 (Int32.toNatClampNeg i1z5946_) rfl
        refine pw_blkw hT 8 (pc := 185) (lo := [some (pvR 124), some (pvI i1z5946_)]) (st := []) (M := pvu M7910_ 157 (Int32.toNatClampNeg i1z5946_) (M7910_.1 145 (Int32.toNatClampNeg i1z5946_))) rfl ⟨trivial, rfl, trivial, trivial, rfl, trivial, ⟨rfl, (zr_in (n := 7) b7883_ (by decide) (by decide))⟩, ⟨rfl, (zr_in (n := 7) b7883_ (by decide) (by decide))⟩, trivial⟩ (fun M7915_ e7916_ => ?_)
        have o7917_ : pvOk M7915_ := pvok_u2 e7916_ o7912_ rfl b7914_
        have f7918_ : pvFr fp_eX10_image_124 M M7915_ := pvfr_u e7916_ f7913_ rfl
        obtain ⟨q7920_, b7919_⟩ : (Int32.toInt (i1z5946_ + 1) = Int32.toInt i1z5946_ + 1) ∧ (1 ≤ Int32.toInt (i1z5946_ + 1) ∧ Int32.toInt (i1z5946_ + 1) ≤ 7) := zadd_k i1z5946_ 1 1 1 7 b7883_ (by decide) (by decide) (by decide) (by decide) (by decide)
        refine pw_blk hT 2 (S' := (95, [some (pvR 124), some (pvI (i1z5946_ + 1))], [], M7915_)) rfl ⟨trivial, trivial, trivial⟩ ?_
        have j7921_ : Int32.toInt (M7915_.1 124 47) = Int32.toInt (M.1 124 15) := (by have y01 : Int32.toInt (M7915_.1 124 47) = Int32.toInt (Mz5946_.1 124 47) := congrArg Int32.toInt (((((((pvu_n e7916_ 124 47 (Or.inl (by decide))).trans (pvu_n e7911_ 124 47 (Or.inl (by decide)))).trans (pvu_n e7906_ 124 47 (Or.inl (by decide)))).trans (pvu_n e7901_ 124 47 (Or.inl (by decide)))).trans (pvu_n e7896_ 124 47 (Or.inl (by decide)))).trans (pvu_n e7891_ 124 47 (Or.inl (by decide)))).trans (pvu_n e7886_ 124 47 (Or.inl (by decide)))); omega)
        have j7922_ : Int32.toInt (M7915_.1 124 51) = Int32.toInt (M.1 124 3) := (by have y01 : Int32.toInt (M7915_.1 124 51) = Int32.toInt (Mz5946_.1 124 51) := congrArg Int32.toInt (((((((pvu_n e7916_ 124 51 (Or.inl (by decide))).trans (pvu_n e7911_ 124 51 (Or.inl (by decide)))).trans (pvu_n e7906_ 124 51 (Or.inl (by decide)))).trans (pvu_n e7901_ 124 51 (Or.inl (by decide)))).trans (pvu_n e7896_ 124 51 (Or.inl (by decide)))).trans (pvu_n e7891_ 124 51 (Or.inl (by decide)))).trans (pvu_n e7886_ 124 51 (Or.inl (by decide)))); omega)
        have j7923_ : M7915_.1 124 48 = (M.1 124 0) := ((((((((pvu_n e7916_ 124 48 (Or.inl (by decide))).trans (pvu_n e7911_ 124 48 (Or.inl (by decide)))).trans (pvu_n e7906_ 124 48 (Or.inl (by decide)))).trans (pvu_n e7901_ 124 48 (Or.inl (by decide)))).trans (pvu_n e7896_ 124 48 (Or.inl (by decide)))).trans (pvu_n e7891_ 124 48 (Or.inl (by decide)))).trans (pvu_n e7886_ 124 48 (Or.inl (by decide)))).trans (j2z5946_))
        have j7924_ : M7915_.1 124 51 = (M.1 124 3) := ((((((((pvu_n e7916_ 124 51 (Or.inl (by decide))).trans (pvu_n e7911_ 124 51 (Or.inl (by decide)))).trans (pvu_n e7906_ 124 51 (Or.inl (by decide)))).trans (pvu_n e7901_ 124 51 (Or.inl (by decide)))).trans (pvu_n e7896_ 124 51 (Or.inl (by decide)))).trans (pvu_n e7891_ 124 51 (Or.inl (by decide)))).trans (pvu_n e7886_ 124 51 (Or.inl (by decide)))).trans (j3z5946_))
        have j7925_ : M7915_.1 124 52 = (M.1 124 4) := ((((((((pvu_n e7916_ 124 52 (Or.inl (by decide))).trans (pvu_n e7911_ 124 52 (Or.inl (by decide)))).trans (pvu_n e7906_ 124 52 (Or.inl (by decide)))).trans (pvu_n e7901_ 124 52 (Or.inl (by decide)))).trans (pvu_n e7896_ 124 52 (Or.inl (by decide)))).trans (pvu_n e7891_ 124 52 (Or.inl (by decide)))).trans (pvu_n e7886_ 124 52 (Or.inl (by decide)))).trans (j4z5946_))
        have j7926_ : M7915_.1 124 46 = 1 := ((((((((pvu_n e7916_ 124 46 (Or.inl (by decide))).trans (pvu_n e7911_ 124 46 (Or.inl (by decide)))).trans (pvu_n e7906_ 124 46 (Or.inl (by decide)))).trans (pvu_n e7901_ 124 46 (Or.inl (by decide)))).trans (pvu_n e7896_ 124 46 (Or.inl (by decide)))).trans (pvu_n e7891_ 124 46 (Or.inl (by decide)))).trans (pvu_n e7886_ 124 46 (Or.inl (by decide)))).trans (j5z5946_))
        have j7927_ : M7915_.1 124 56 = (M.1 124 40) := ((((((((pvu_n e7916_ 124 56 (Or.inl (by decide))).trans (pvu_n e7911_ 124 56 (Or.inl (by decide)))).trans (pvu_n e7906_ 124 56 (Or.inl (by decide)))).trans (pvu_n e7901_ 124 56 (Or.inl (by decide)))).trans (pvu_n e7896_ 124 56 (Or.inl (by decide)))).trans (pvu_n e7891_ 124 56 (Or.inl (by decide)))).trans (pvu_n e7886_ 124 56 (Or.inl (by decide)))).trans (j6z5946_))
        have j7928_ : M7915_.1 124 57 = (M.1 124 43) := ((((((((pvu_n e7916_ 124 57 (Or.inl (by decide))).trans (pvu_n e7911_ 124 57 (Or.inl (by decide)))).trans (pvu_n e7906_ 124 57 (Or.inl (by decide)))).trans (pvu_n e7901_ 124 57 (Or.inl (by decide)))).trans (pvu_n e7896_ 124 57 (Or.inl (by decide)))).trans (pvu_n e7891_ 124 57 (Or.inl (by decide)))).trans (pvu_n e7886_ 124 57 (Or.inl (by decide)))).trans (j7z5946_))
        exact ihz5946_ (i1z5946_ + 1) M7915_ o7917_ f7918_ (zr_wide b7919_ (by decide) (by decide)) j7921_ j7922_ j7923_ j7924_ j7925_ j7926_ j7927_ j7928_ (zhid (by have hm0 := zshow hmz5946_; have y01 : Int32.toInt (M7915_.1 124 47) = Int32.toInt (Mz5946_.1 124 47) := congrArg Int32.toInt (((((((pvu_n e7916_ 124 47 (Or.inl (by decide))).trans (pvu_n e7911_ 124 47 (Or.inl (by decide)))).trans (pvu_n e7906_ 124 47 (Or.inl (by decide)))).trans (pvu_n e7901_ 124 47 (Or.inl (by decide)))).trans (pvu_n e7896_ 124 47 (Or.inl (by decide)))).trans (pvu_n e7891_ 124 47 (Or.inl (by decide)))).trans (pvu_n e7886_ 124 47 (Or.inl (by decide)))); have y11 : Int32.toInt (M7915_.1 124 51) = Int32.toInt (Mz5946_.1 124 51) := congrArg Int32.toInt (((((((pvu_n e7916_ 124 51 (Or.inl (by decide))).trans (pvu_n e7911_ 124 51 (Or.inl (by decide)))).trans (pvu_n e7906_ 124 51 (Or.inl (by decide)))).trans (pvu_n e7901_ 124 51 (Or.inl (by decide)))).trans (pvu_n e7896_ 124 51 (Or.inl (by decide)))).trans (pvu_n e7891_ 124 51 (Or.inl (by decide)))).trans (pvu_n e7886_ 124 51 (Or.inl (by decide)))); omega))
  have u7929_ : Int32.toInt 0 = 0 := by decide
  have j7930_ : Int32.toInt (M56_.1 124 47) = Int32.toInt (M.1 124 15) := (by have z1 : Int32.toInt (M56_.1 124 47) = Int32.toInt (M1_.1 124 15) := congrArg Int32.toInt (((((((((((pvu_n e57_ 124 47 (Or.inr (by decide))).trans (pvu_n e52_ 124 47 (Or.inr (by decide)))).trans (pvu_n e47_ 124 47 (Or.inr (by decide)))).trans (pvu_n e42_ 124 47 (Or.inr (by decide)))).trans (pvu_n e37_ 124 47 (Or.inr (by decide)))).trans (pvu_n e32_ 124 47 (Or.inr (by decide)))).trans (pvu_n e27_ 124 47 (Or.inr (by decide)))).trans (pvu_n e22_ 124 47 (Or.inr (by decide)))).trans (pvu_n e17_ 124 47 (Or.inr (by decide)))).trans (pvu_n e12_ 124 47 (Or.inr (by decide)))).trans (pvu_s e7_)); have z2 : Int32.toInt (M1_.1 124 15) = Int32.toInt (M.1 124 15) := congrArg Int32.toInt (pvu_n e2_ 124 15 (Or.inr (by decide))); omega)
  have j7931_ : Int32.toInt (M56_.1 124 51) = Int32.toInt (M.1 124 3) := (by have z1 : Int32.toInt (M56_.1 124 51) = Int32.toInt (M21_.1 124 3) := congrArg Int32.toInt (((((((pvu_n e57_ 124 51 (Or.inr (by decide))).trans (pvu_n e52_ 124 51 (Or.inr (by decide)))).trans (pvu_n e47_ 124 51 (Or.inr (by decide)))).trans (pvu_n e42_ 124 51 (Or.inr (by decide)))).trans (pvu_n e37_ 124 51 (Or.inr (by decide)))).trans (pvu_n e32_ 124 51 (Or.inr (by decide)))).trans (pvu_s e27_)); have z2 : Int32.toInt (M21_.1 124 3) = Int32.toInt (M.1 124 3) := congrArg Int32.toInt (((((pvu_n e22_ 124 3 (Or.inr (by decide))).trans (pvu_n e17_ 124 3 (Or.inr (by decide)))).trans (pvu_n e12_ 124 3 (Or.inr (by decide)))).trans (pvu_n e7_ 124 3 (Or.inr (by decide)))).trans (pvu_n e2_ 124 3 (Or.inr (by decide)))); omega)
  have j7932_ : M56_.1 124 48 = (M.1 124 0) := (((((((((((pvu_n e57_ 124 48 (Or.inr (by decide))).trans (pvu_n e52_ 124 48 (Or.inr (by decide)))).trans (pvu_n e47_ 124 48 (Or.inr (by decide)))).trans (pvu_n e42_ 124 48 (Or.inr (by decide)))).trans (pvu_n e37_ 124 48 (Or.inr (by decide)))).trans (pvu_n e32_ 124 48 (Or.inr (by decide)))).trans (pvu_n e27_ 124 48 (Or.inr (by decide)))).trans (pvu_n e22_ 124 48 (Or.inr (by decide)))).trans (pvu_n e17_ 124 48 (Or.inr (by decide)))).trans (pvu_s e12_)).trans ((pvu_n e7_ 124 0 (Or.inr (by decide))).trans (pvu_n e2_ 124 0 (Or.inr (by decide)))))
  have j7933_ : M56_.1 124 51 = (M.1 124 3) := ((((((((pvu_n e57_ 124 51 (Or.inr (by decide))).trans (pvu_n e52_ 124 51 (Or.inr (by decide)))).trans (pvu_n e47_ 124 51 (Or.inr (by decide)))).trans (pvu_n e42_ 124 51 (Or.inr (by decide)))).trans (pvu_n e37_ 124 51 (Or.inr (by decide)))).trans (pvu_n e32_ 124 51 (Or.inr (by decide)))).trans (pvu_s e27_)).trans (((((pvu_n e22_ 124 3 (Or.inr (by decide))).trans (pvu_n e17_ 124 3 (Or.inr (by decide)))).trans (pvu_n e12_ 124 3 (Or.inr (by decide)))).trans (pvu_n e7_ 124 3 (Or.inr (by decide)))).trans (pvu_n e2_ 124 3 (Or.inr (by decide)))))
  have j7934_ : M56_.1 124 52 = (M.1 124 4) := (((((((pvu_n e57_ 124 52 (Or.inr (by decide))).trans (pvu_n e52_ 124 52 (Or.inr (by decide)))).trans (pvu_n e47_ 124 52 (Or.inr (by decide)))).trans (pvu_n e42_ 124 52 (Or.inr (by decide)))).trans (pvu_n e37_ 124 52 (Or.inr (by decide)))).trans (pvu_s e32_)).trans ((((((pvu_n e27_ 124 4 (Or.inr (by decide))).trans (pvu_n e22_ 124 4 (Or.inr (by decide)))).trans (pvu_n e17_ 124 4 (Or.inr (by decide)))).trans (pvu_n e12_ 124 4 (Or.inr (by decide)))).trans (pvu_n e7_ 124 4 (Or.inr (by decide)))).trans (pvu_n e2_ 124 4 (Or.inr (by decide)))))
  have j7935_ : M56_.1 124 46 = 1 := ((((((((((((pvu_n e57_ 124 46 (Or.inr (by decide))).trans (pvu_n e52_ 124 46 (Or.inr (by decide)))).trans (pvu_n e47_ 124 46 (Or.inr (by decide)))).trans (pvu_n e42_ 124 46 (Or.inr (by decide)))).trans (pvu_n e37_ 124 46 (Or.inr (by decide)))).trans (pvu_n e32_ 124 46 (Or.inr (by decide)))).trans (pvu_n e27_ 124 46 (Or.inr (by decide)))).trans (pvu_n e22_ 124 46 (Or.inr (by decide)))).trans (pvu_n e17_ 124 46 (Or.inr (by decide)))).trans (pvu_n e12_ 124 46 (Or.inr (by decide)))).trans (pvu_n e7_ 124 46 (Or.inr (by decide)))).trans (pvu_s e2_))
  have j7936_ : M56_.1 124 56 = (M.1 124 40) := (((pvu_n e57_ 124 56 (Or.inr (by decide))).trans (pvu_s e52_)).trans ((((((((((pvu_n e47_ 124 40 (Or.inr (by decide))).trans (pvu_n e42_ 124 40 (Or.inr (by decide)))).trans (pvu_n e37_ 124 40 (Or.inr (by decide)))).trans (pvu_n e32_ 124 40 (Or.inr (by decide)))).trans (pvu_n e27_ 124 40 (Or.inr (by decide)))).trans (pvu_n e22_ 124 40 (Or.inr (by decide)))).trans (pvu_n e17_ 124 40 (Or.inr (by decide)))).trans (pvu_n e12_ 124 40 (Or.inr (by decide)))).trans (pvu_n e7_ 124 40 (Or.inr (by decide)))).trans (pvu_n e2_ 124 40 (Or.inr (by decide)))))
  have j7937_ : M56_.1 124 57 = (M.1 124 43) := ((pvu_s e57_).trans (((((((((((pvu_n e52_ 124 43 (Or.inr (by decide))).trans (pvu_n e47_ 124 43 (Or.inr (by decide)))).trans (pvu_n e42_ 124 43 (Or.inr (by decide)))).trans (pvu_n e37_ 124 43 (Or.inr (by decide)))).trans (pvu_n e32_ 124 43 (Or.inr (by decide)))).trans (pvu_n e27_ 124 43 (Or.inr (by decide)))).trans (pvu_n e22_ 124 43 (Or.inr (by decide)))).trans (pvu_n e17_ 124 43 (Or.inr (by decide)))).trans (pvu_n e12_ 124 43 (Or.inr (by decide)))).trans (pvu_n e7_ 124 43 (Or.inr (by decide)))).trans (pvu_n e2_ 124 43 (Or.inr (by decide)))))
  exact hlz5946_ _ 0 M56_ o58_ f59_ (zr_wide (show 0 ≤ Int32.toInt 0 ∧ Int32.toInt 0 ≤ 0 from (by decide)) (by decide) (by decide)) j7930_ j7931_ j7932_ j7933_ j7934_ j7935_ j7936_ j7937_ (zhid (Nat.lt_succ_self _))
def fpL_eX10_mean_124_x : List (Nat × Nat × Nat) := [(0, 124, 4), (0, 124, 33), (0, 124, 36), (0, 141, 0), (0, 142, 0), (0, 143, 0), (0, 144, 0)]
def fp_eX10_mean_124_x (q k : Nat) : Bool := pvfp fpL_eX10_mean_124_x q k
theorem fp_eX10_mean_124_x_fp_X10_costOfRound_124_x (a b : Nat) (h : fp_X10_costOfRound_124_x a b = true) : fp_eX10_mean_124_x a b = true := pvfp_sub (l1 := fpL_X10_costOfRound_124_x) (l2 := fpL_eX10_mean_124_x) (by decide) a b h
set_option maxHeartbeats 4000000 in
set_option maxRecDepth 10000 in
theorem se_X10_mean_124_x (M : pvM) (hok : pvOk M) (n1 : Int32) (hz : pvWF M) (hx0 : Int32.toInt (M.1 124 3) ≤ 99) (d : Nat) : PW 55 d (0, [some (pvR 124), some (pvI n1), none, none, none], [], M) (fun r X => (∃ x : Int64, r = some (pvJ x)) ∧ pvOk X ∧ pvFr fp_eX10_mean_124_x M X ∧ X.1 124 3 = M.1 124 3) := by
  have hT : pvdom 55 = pvD_55 := rfl
  refine pw_blk hT 4 (S' := (4, [some (pvR 124), some (pvI n1), none, none, none], [pvI 1, pvI 0, pvI n1, pvR 124], M)) rfl ⟨trivial, trivial, trivial, trivial, trivial⟩ ?_
  refine pw_callT hT (as := [pvR 124, pvI n1, pvI 0, pvI 1]) (lo1 := [some (pvR 124), some (pvI n1), some (pvI 0), some (pvI 1)]) (d1 := d) (rest := []) rfl rfl rfl rfl rfl (fun _ => rfl) (Nat.zero_le _) rfl rfl rfl (sf_X10_in_124_x_x_x M hok n1 0 1 d) ?_
  by_cases c6_ : n1 < 0
  · refine pw_eqI (if_pos c6_) ?_
    have b7_ : (-2147483648) ≤ Int32.toInt n1 ∧ Int32.toInt n1 ≤ (-1) := zr_lt_l (-1) c6_ (zbnd n1) (show 0 ≤ Int32.toInt 0 ∧ Int32.toInt 0 ≤ 0 from (by decide)) (by decide)
    show PW 55 d (7, [some (pvR 124), some (pvI n1), none, none, none], [pvI 0], M) _
    refine pw_ifn hT (c := 0 = 0) rfl rfl (fun c8_ => absurd (by decide) c8_) (fun c8_ => ?_)
    refine pw_blk hT 1 (S' := (13, [some (pvR 124), some (pvI n1), none, none, none], [pvJ (-9223372036854775808)], M)) rfl ⟨trivial, trivial⟩ ?_
    exact pw_ret hT rfl (r := some (pvJ (-9223372036854775808))) (M' := M) ⟨rfl, rfl⟩ ⟨⟨_, rfl⟩, hok, pvfr_0, rfl⟩
  · refine pw_eqI (if_neg c6_) ?_
    have b9_ : 0 ≤ Int32.toInt n1 ∧ Int32.toInt n1 ≤ 2147483647 := zr_nlt_l 0 c6_ (zbnd n1) (show 0 ≤ Int32.toInt 0 ∧ Int32.toInt 0 ≤ 0 from (by decide)) (by decide)
    by_cases c10_ : 1 < n1
    · refine pw_eqI (if_pos c10_) ?_
      have b11_ : 2 ≤ Int32.toInt n1 ∧ Int32.toInt n1 ≤ 2147483647 := zr_lt_r 2 c10_ b9_ (show 1 ≤ Int32.toInt 1 ∧ Int32.toInt 1 ≤ 1 from (by decide)) (by decide)
      show PW 55 d (7, [some (pvR 124), some (pvI n1), none, none, none], [pvI 0], M) _
      refine pw_ifn hT (c := 0 = 0) rfl rfl (fun c12_ => absurd (by decide) c12_) (fun c12_ => ?_)
      refine pw_blk hT 1 (S' := (13, [some (pvR 124), some (pvI n1), none, none, none], [pvJ (-9223372036854775808)], M)) rfl ⟨trivial, trivial⟩ ?_
      exact pw_ret hT rfl (r := some (pvJ (-9223372036854775808))) (M' := M) ⟨rfl, rfl⟩ ⟨⟨_, rfl⟩, hok, pvfr_0, rfl⟩
    · refine pw_eqI (if_neg c10_) ?_
      have b13_ : 0 ≤ Int32.toInt n1 ∧ Int32.toInt n1 ≤ 1 := zr_nlt_r 1 c10_ b9_ (show 1 ≤ Int32.toInt 1 ∧ Int32.toInt 1 ≤ 1 from (by decide)) (by decide)
      show PW 55 d (7, [some (pvR 124), some (pvI n1), none, none, none], [pvI 1], M) _
      refine pw_ifn hT (c := 1 = 0) rfl rfl (fun c14_ => ?_) (fun c14_ => absurd c14_ (by decide))
      have b15_ : 0 ≤ Int32.toInt (M.1 124 3) ∧ Int32.toInt (M.1 124 3) ≤ 108 := pvok_r hok 124 3 rfl
      refine pw_blk hT 7 (S' := (24, [some (pvR 124), some (pvI n1), some (pvI (M.1 124 3)), some (pvI 0), some (pvI 0)], [], M)) rfl ⟨trivial, rfl, trivial, trivial, trivial, trivial, trivial, trivial⟩ ?_
      have hlz121_ : ∀ (nz121_ : Nat) (i3z121_ : Int32) (i4z121_ : Int32) (Mz121_ : pvM), (pvOk Mz121_) → (pvFr fp_eX10_mean_124_x M Mz121_) → (0 ≤ Int32.toInt i3z121_ ∧ Int32.toInt i3z121_ ≤ 90000000) → (0 ≤ Int32.toInt i4z121_ ∧ Int32.toInt i4z121_ ≤ 10) → (Int32.toInt i3z121_ ≤ 9000000 * Int32.toInt i4z121_) → (zhide ((11 - Int32.toInt i4z121_).toNat < nz121_)) → PW 55 d (24, [some (pvR 124), some (pvI n1), some (pvI (M.1 124 3)), some (pvI i3z121_), some (pvI i4z121_)], [], Mz121_) (fun r X => (∃ x : Int64, r = some (pvJ x)) ∧ pvOk X ∧ pvFr fp_eX10_mean_124_x M X ∧ X.1 124 3 = M.1 124 3) := by
        intro nz121_
        induction nz121_ with
        | zero => intro i3z121_ i4z121_ Mz121_ oz121_ fz121_ h3z121_ h4z121_ j0z121_ hmz121_; exact absurd (zshow hmz121_) (Nat.not_lt_zero _)
        | succ nz121_ ihz121_ =>
          intro i3z121_ i4z121_ Mz121_ oz121_ fz121_ h3z121_ h4z121_ j0z121_ hmz121_
          refine pw_blk hT 2 (S' := (28, [some (pvR 124), some (pvI n1), some (pvI (M.1 124 3)), some (pvI i3z121_), some (pvI i4z121_)], [pvI 10, pvI i4z121_], Mz121_)) rfl ⟨trivial, trivial, trivial⟩ ?_
          refine pw_ic hT (c := 10 ≤ i4z121_) rfl rfl (fun c122_ => ?_) (fun c122_ => ?_)
          · have b123_ : 10 ≤ Int32.toInt i4z121_ ∧ Int32.toInt i4z121_ ≤ 10 := zr_le_r 10 c122_ h4z121_ (show 10 ≤ Int32.toInt 10 ∧ Int32.toInt 10 ≤ 10 from (by decide)) (by decide)
            refine pw_blkw hT 3 (pc := 58) (lo := [some (pvR 124), some (pvI n1), some (pvI (M.1 124 3)), some (pvI i3z121_), some (pvI i4z121_)]) (st := []) (M := pvu Mz121_ 124 3 (M.1 124 3)) rfl ⟨trivial, trivial, rfl, trivial⟩ (fun M124_ e125_ => ?_)
            have o126_ : pvOk M124_ := pvok_u2 e125_ oz121_ rfl b15_
            have f127_ : pvFr fp_eX10_mean_124_x M M124_ := pvfr_u e125_ fz121_ rfl
            refine pw_blk hT 4 (S' := (63, [some (pvR 124), some (pvI n1), some (pvI (M.1 124 3)), some (pvI i3z121_), some (pvI i4z121_)], [pvI n1, pvI 10, pvI i3z121_, pvR 124], M124_)) rfl ⟨trivial, trivial, trivial, trivial, trivial⟩ ?_
            refine pw_callJp hT (as := [pvR 124, pvI i3z121_, pvI 10, pvI n1]) (lo1 := [some (pvR 124), some (pvI i3z121_), some (pvI 10), some (pvI n1), none]) (d1 := d) (rest := []) rfl rfl rfl rfl rfl (fun _ => rfl) (Nat.zero_le _) rfl rfl rfl (sf_X10_lowest_124_x_x_x M124_ o126_ i3z121_ 10 n1 h3z121_ (zr_wide (show 10 ≤ Int32.toInt 10 ∧ Int32.toInt 10 ≤ 10 from (by decide)) (by decide) (by decide)) d) (fun x128_ b130_ => ?_)
            exact pw_ret hT rfl (r := some (pvJ x128_)) (M' := M124_) ⟨rfl, rfl⟩ ⟨⟨_, rfl⟩, o126_, f127_, (pvu_s e125_)⟩
          · have b133_ : 0 ≤ Int32.toInt i4z121_ ∧ Int32.toInt i4z121_ ≤ 9 := zr_nle_r 9 c122_ h4z121_ (show 10 ≤ Int32.toInt 10 ∧ Int32.toInt 10 ≤ 10 from (by decide)) (by decide)
            obtain ⟨q135_, b134_⟩ : (Int32.toInt ((M.1 124 3) + i4z121_) = Int32.toInt (M.1 124 3) + Int32.toInt i4z121_) ∧ (0 ≤ Int32.toInt ((M.1 124 3) + i4z121_) ∧ Int32.toInt ((M.1 124 3) + i4z121_) ≤ 117) := zadd_r (M.1 124 3) i4z121_ 0 117 b15_ b133_ (by decide) (by decide) (by decide) (by decide)
            refine pw_blkw hT 5 (pc := 39) (lo := [some (pvR 124), some (pvI n1), some (pvI (M.1 124 3)), some (pvI i3z121_), some (pvI i4z121_)]) (st := []) (M := pvu Mz121_ 124 3 ((M.1 124 3) + i4z121_)) rfl ⟨trivial, trivial, trivial, trivial, rfl, trivial⟩ (fun M136_ e137_ => ?_)
            have o138_ : pvOk M136_ := pvok_u2 e137_ oz121_ rfl (by have u0 := b134_; omega)
            have f139_ : pvFr fp_eX10_mean_124_x M M136_ := pvfr_u e137_ fz121_ rfl
            refine pw_blk hT 3 (S' := (42, [some (pvR 124), some (pvI n1), some (pvI (M.1 124 3)), some (pvI i3z121_), some (pvI i4z121_)], [pvI 0, pvR 124, pvI i3z121_], M136_)) rfl ⟨trivial, trivial, trivial, trivial⟩ ?_
            have u140_ : Int32.toInt 0 = 0 := by decide
            refine pw_callG hT (as := [pvR 124, pvI 0]) (lo1 := [some (pvR 124), some (pvI 0)]) (d1 := d) (rest := [pvI i3z121_]) rfl rfl rfl rfl rfl (fun _ => rfl) (Nat.zero_le _) rfl rfl rfl (sf_X10_costOfRound_124_x M136_ o138_ 0 (zr_wide (show 0 ≤ Int32.toInt 0 ∧ Int32.toInt 0 ≤ 0 from (by decide)) (by decide) (by decide)) (pvWF_fr (L := fpL_eX10_mean_124_x) rfl f139_ hz) d) (fun x141_ M142_ b143_ o144_ g145_ => ?_)
            have f146_ : pvFr fp_eX10_mean_124_x M M142_ := pvfr_t g145_ f139_ fp_eX10_mean_124_x_fp_X10_costOfRound_124_x
            obtain ⟨q148_, b147_⟩ : (Int32.toInt (i3z121_ + x141_) = Int32.toInt i3z121_ + Int32.toInt x141_) ∧ (0 ≤ Int32.toInt (i3z121_ + x141_) ∧ Int32.toInt (i3z121_ + x141_) ≤ 99000000) := zadd_r i3z121_ x141_ 0 99000000 h3z121_ b143_ (by decide) (by decide) (by decide) (by decide)
            obtain ⟨q150_, b149_⟩ : (Int32.toInt (i4z121_ + 1) = Int32.toInt i4z121_ + 1) ∧ (1 ≤ Int32.toInt (i4z121_ + 1) ∧ Int32.toInt (i4z121_ + 1) ≤ 10) := zadd_k i4z121_ 1 1 1 10 b133_ (by decide) (by decide) (by decide) (by decide) (by decide)
            refine pw_blk hT 4 (S' := (24, [some (pvR 124), some (pvI n1), some (pvI (M.1 124 3)), some (pvI (i3z121_ + x141_)), some (pvI (i4z121_ + 1))], [], M142_)) rfl ⟨trivial, trivial, trivial, trivial, trivial⟩ ?_
            have j151_ : Int32.toInt (i3z121_ + x141_) ≤ 9000000 * Int32.toInt (i4z121_ + 1) := by omega
            exact ihz121_ (i3z121_ + x141_) (i4z121_ + 1) M142_ o144_ f146_ (by have u0 := b147_; omega) (zr_wide b149_ (by decide) (by decide)) j151_ (zhid (pvms_up (zshow hmz121_) h4z121_ q150_ (by decide) (by decide)))
      have u152_ : Int32.toInt 0 = 0 := by decide
      have j153_ : Int32.toInt 0 ≤ 9000000 * Int32.toInt 0 := by omega
      exact hlz121_ _ 0 0 M hok pvfr_0 (zr_wide (show 0 ≤ Int32.toInt 0 ∧ Int32.toInt 0 ≤ 0 from (by decide)) (by decide) (by decide)) (zr_wide (show 0 ≤ Int32.toInt 0 ∧ Int32.toInt 0 ≤ 0 from (by decide)) (by decide) (by decide)) j153_ (zhid (Nat.lt_succ_self _))
def fpL_eX10_odds_124_x_x : List (Nat × Nat × Nat) := [(0, 124, 33), (0, 124, 36), (0, 124, 5), (0, 141, 0), (0, 142, 0), (0, 143, 0), (0, 144, 0)]
def fp_eX10_odds_124_x_x (q k : Nat) : Bool := pvfp fpL_eX10_odds_124_x_x q k
theorem fp_eX10_odds_124_x_x_fp_X10_costOfRound_124_x (a b : Nat) (h : fp_X10_costOfRound_124_x a b = true) : fp_eX10_odds_124_x_x a b = true := pvfp_sub (l1 := fpL_X10_costOfRound_124_x) (l2 := fpL_eX10_odds_124_x_x) (by decide) a b h
set_option maxHeartbeats 4000000 in
set_option maxRecDepth 10000 in
theorem se_X10_odds_124_x_x (M : pvM) (hok : pvOk M) (n1 : Int32) (n2 : Int32) (hz : pvWF M) (d : Nat) : PW 58 d (0, [some (pvR 124), some (pvI n1), some (pvI n2), none, none], [], M) (fun r X => (∃ x : Int64, r = some (pvJ x)) ∧ pvOk X ∧ pvFr fp_eX10_odds_124_x_x M X ∧ X.1 124 4 = M.1 124 4) := by
  have hT : pvdom 58 = pvD_58 := rfl
  refine pw_blk hT 2 (S' := (2, [some (pvR 124), some (pvI n1), some (pvI n2), none, none], [pvI n1, pvR 124], M)) rfl ⟨trivial, trivial, trivial⟩ ?_
  refine pw_callT hT (as := [pvR 124, pvI n1]) (lo1 := [some (pvR 124), some (pvI n1)]) (d1 := d) (rest := []) rfl rfl rfl rfl rfl (fun _ => rfl) (Nat.zero_le _) rfl rfl rfl (sf_X10_isLimit_124_x M hok n1 d) ?_
  by_cases c6_ : n1 < 0
  · refine pw_eqI (if_pos c6_) ?_
    have b7_ : (-2147483648) ≤ Int32.toInt n1 ∧ Int32.toInt n1 ≤ (-1) := zr_lt_l (-1) c6_ (zbnd n1) (show 0 ≤ Int32.toInt 0 ∧ Int32.toInt 0 ≤ 0 from (by decide)) (by decide)
    show PW 58 d (5, [some (pvR 124), some (pvI n1), some (pvI n2), none, none], [pvI 0], M) _
    refine pw_if hT (c := 0 = 0) rfl rfl (fun c8_ => ?_) (fun c8_ => absurd (by decide) c8_)
    refine pw_blk hT 1 (S' := (21, [some (pvR 124), some (pvI n1), some (pvI n2), none, none], [pvJ (-9223372036854775808)], M)) rfl ⟨trivial, trivial⟩ ?_
    exact pw_ret hT rfl (r := some (pvJ (-9223372036854775808))) (M' := M) ⟨rfl, rfl⟩ ⟨⟨_, rfl⟩, hok, pvfr_0, rfl⟩
  · refine pw_eqI (if_neg c6_) ?_
    have b9_ : 0 ≤ Int32.toInt n1 ∧ Int32.toInt n1 ≤ 2147483647 := zr_nlt_l 0 c6_ (zbnd n1) (show 0 ≤ Int32.toInt 0 ∧ Int32.toInt 0 ≤ 0 from (by decide)) (by decide)
    by_cases c10_ : 99999 < n1
    · refine pw_eqI (if_pos c10_) ?_
      have b11_ : 100000 ≤ Int32.toInt n1 ∧ Int32.toInt n1 ≤ 2147483647 := zr_lt_r 100000 c10_ b9_ (show 99999 ≤ Int32.toInt 99999 ∧ Int32.toInt 99999 ≤ 99999 from (by decide)) (by decide)
      show PW 58 d (5, [some (pvR 124), some (pvI n1), some (pvI n2), none, none], [pvI 0], M) _
      refine pw_if hT (c := 0 = 0) rfl rfl (fun c12_ => ?_) (fun c12_ => absurd (by decide) c12_)
      refine pw_blk hT 1 (S' := (21, [some (pvR 124), some (pvI n1), some (pvI n2), none, none], [pvJ (-9223372036854775808)], M)) rfl ⟨trivial, trivial⟩ ?_
      exact pw_ret hT rfl (r := some (pvJ (-9223372036854775808))) (M' := M) ⟨rfl, rfl⟩ ⟨⟨_, rfl⟩, hok, pvfr_0, rfl⟩
    · refine pw_eqI (if_neg c10_) ?_
      have b13_ : 0 ≤ Int32.toInt n1 ∧ Int32.toInt n1 ≤ 99999 := zr_nlt_r 99999 c10_ b9_ (show 99999 ≤ Int32.toInt 99999 ∧ Int32.toInt 99999 ≤ 99999 from (by decide)) (by decide)
      show PW 58 d (5, [some (pvR 124), some (pvI n1), some (pvI n2), none, none], [pvI 1], M) _
      refine pw_if hT (c := 1 = 0) rfl rfl (fun c14_ => absurd c14_ (by decide)) (fun c14_ => ?_)
      refine pw_blk hT 4 (S' := (12, [some (pvR 124), some (pvI n1), some (pvI n2), none, none], [pvI 1, pvI 0, pvI n2, pvR 124], M)) rfl ⟨trivial, trivial, trivial, trivial, trivial⟩ ?_
      refine pw_callT hT (as := [pvR 124, pvI n2, pvI 0, pvI 1]) (lo1 := [some (pvR 124), some (pvI n2), some (pvI 0), some (pvI 1)]) (d1 := d) (rest := []) rfl rfl rfl rfl rfl (fun _ => rfl) (Nat.zero_le _) rfl rfl rfl (sf_X10_in_124_x_x_x M hok n2 0 1 d) ?_
      by_cases c20_ : n2 < 0
      · refine pw_eqI (if_pos c20_) ?_
        have b21_ : (-2147483648) ≤ Int32.toInt n2 ∧ Int32.toInt n2 ≤ (-1) := zr_lt_l (-1) c20_ (zbnd n2) (show 0 ≤ Int32.toInt 0 ∧ Int32.toInt 0 ≤ 0 from (by decide)) (by decide)
        show PW 58 d (15, [some (pvR 124), some (pvI n1), some (pvI n2), none, none], [pvI 0], M) _
        refine pw_ifn hT (c := 0 = 0) rfl rfl (fun c22_ => absurd (by decide) c22_) (fun c22_ => ?_)
        refine pw_blk hT 1 (S' := (21, [some (pvR 124), some (pvI n1), some (pvI n2), none, none], [pvJ (-9223372036854775808)], M)) rfl ⟨trivial, trivial⟩ ?_
        exact pw_ret hT rfl (r := some (pvJ (-9223372036854775808))) (M' := M) ⟨rfl, rfl⟩ ⟨⟨_, rfl⟩, hok, pvfr_0, rfl⟩
      · refine pw_eqI (if_neg c20_) ?_
        have b23_ : 0 ≤ Int32.toInt n2 ∧ Int32.toInt n2 ≤ 2147483647 := zr_nlt_l 0 c20_ (zbnd n2) (show 0 ≤ Int32.toInt 0 ∧ Int32.toInt 0 ≤ 0 from (by decide)) (by decide)
        by_cases c24_ : 1 < n2
        · refine pw_eqI (if_pos c24_) ?_
          have b25_ : 2 ≤ Int32.toInt n2 ∧ Int32.toInt n2 ≤ 2147483647 := zr_lt_r 2 c24_ b23_ (show 1 ≤ Int32.toInt 1 ∧ Int32.toInt 1 ≤ 1 from (by decide)) (by decide)
          show PW 58 d (15, [some (pvR 124), some (pvI n1), some (pvI n2), none, none], [pvI 0], M) _
          refine pw_ifn hT (c := 0 = 0) rfl rfl (fun c26_ => absurd (by decide) c26_) (fun c26_ => ?_)
          refine pw_blk hT 1 (S' := (21, [some (pvR 124), some (pvI n1), some (pvI n2), none, none], [pvJ (-9223372036854775808)], M)) rfl ⟨trivial, trivial⟩ ?_
          exact pw_ret hT rfl (r := some (pvJ (-9223372036854775808))) (M' := M) ⟨rfl, rfl⟩ ⟨⟨_, rfl⟩, hok, pvfr_0, rfl⟩
        · refine pw_eqI (if_neg c24_) ?_
          have b27_ : 0 ≤ Int32.toInt n2 ∧ Int32.toInt n2 ≤ 1 := zr_nlt_r 1 c24_ b23_ (show 1 ≤ Int32.toInt 1 ∧ Int32.toInt 1 ≤ 1 from (by decide)) (by decide)
          show PW 58 d (15, [some (pvR 124), some (pvI n1), some (pvI n2), none, none], [pvI 1], M) _
          refine pw_ifn hT (c := 1 = 0) rfl rfl (fun c28_ => ?_) (fun c28_ => absurd c28_ (by decide))
          have b29_ : 0 ≤ Int32.toInt (M.1 124 4) ∧ Int32.toInt (M.1 124 4) ≤ 4 := pvok_r hok 124 4 rfl
          refine pw_blkw hT 8 (pc := 35) (lo := [some (pvR 124), some (pvI n1), some (pvI n2), some (pvI (M.1 124 4)), some (pvI 0)]) (st := []) (M := pvu M 124 4 0) rfl ⟨trivial, rfl, trivial, trivial, trivial, trivial, trivial, rfl, trivial⟩ (fun M30_ e31_ => ?_)
          have o32_ : pvOk M30_ := pvok_u2 e31_ hok rfl (zr_wide (show 0 ≤ Int32.toInt 0 ∧ Int32.toInt 0 ≤ 0 from (by decide)) (by decide) (by decide))
          have f33_ : pvFr fp_eX10_odds_124_x_x M M30_ := pvfr_u e31_ pvfr_0 rfl
          have hlz206_ : ∀ (nz206_ : Nat) (i4z206_ : Int32) (Mz206_ : pvM), (pvOk Mz206_) → (pvFr fp_eX10_odds_124_x_x M Mz206_) → (0 ≤ Int32.toInt i4z206_ ∧ Int32.toInt i4z206_ ≤ 4) → (Int32.toInt i4z206_ ≤ Int32.toInt (Mz206_.1 124 4)) → (zhide ((5 - Int32.toInt (Mz206_.1 124 4)).toNat < nz206_)) → PW 58 d (35, [some (pvR 124), some (pvI n1), some (pvI n2), some (pvI (M.1 124 4)), some (pvI i4z206_)], [], Mz206_) (fun r X => (∃ x : Int64, r = some (pvJ x)) ∧ pvOk X ∧ pvFr fp_eX10_odds_124_x_x M X ∧ X.1 124 4 = M.1 124 4) := by
            intro nz206_
            induction nz206_ with
            | zero => intro i4z206_ Mz206_ oz206_ fz206_ h4z206_ j0z206_ hmz206_; exact absurd (zshow hmz206_) (Nat.not_lt_zero _)
            | succ nz206_ ihz206_ =>
              intro i4z206_ Mz206_ oz206_ fz206_ h4z206_ j0z206_ hmz206_
              have b207_ : 0 ≤ Int32.toInt (Mz206_.1 124 4) ∧ Int32.toInt (Mz206_.1 124 4) ≤ 4 := pvok_r oz206_ 124 4 rfl
              refine pw_blk hT 3 (S' := (40, [some (pvR 124), some (pvI n1), some (pvI n2), some (pvI (M.1 124 4)), some (pvI i4z206_)], [pvI 4, pvI (Mz206_.1 124 4)], Mz206_)) rfl ⟨trivial, rfl, trivial, trivial⟩ ?_
              refine pw_ic hT (c := 4 ≤ (Mz206_.1 124 4)) rfl rfl (fun c208_ => ?_) (fun c208_ => ?_)
              · have b209_ : 4 ≤ Int32.toInt (Mz206_.1 124 4) ∧ Int32.toInt (Mz206_.1 124 4) ≤ 4 := zr_le_r 4 c208_ b207_ (show 4 ≤ Int32.toInt 4 ∧ Int32.toInt 4 ≤ 4 from (by decide)) (by decide)
                refine pw_blkw hT 3 (pc := 80) (lo := [some (pvR 124), some (pvI n1), some (pvI n2), some (pvI (M.1 124 4)), some (pvI i4z206_)]) (st := []) (M := pvu Mz206_ 124 4 (M.1 124 4)) rfl ⟨trivial, trivial, rfl, trivial⟩ (fun M210_ e211_ => ?_)
                have o212_ : pvOk M210_ := pvok_u2 e211_ oz206_ rfl b29_
                have f213_ : pvFr fp_eX10_odds_124_x_x M M210_ := pvfr_u e211_ fz206_ rfl
                refine pw_blk hT 4 (S' := (85, [some (pvR 124), some (pvI n1), some (pvI n2), some (pvI (M.1 124 4)), some (pvI i4z206_)], [pvI n2, pvI 4, pvI i4z206_, pvR 124], M210_)) rfl ⟨trivial, trivial, trivial, trivial, trivial⟩ ?_
                refine pw_callJp hT (as := [pvR 124, pvI i4z206_, pvI 4, pvI n2]) (lo1 := [some (pvR 124), some (pvI i4z206_), some (pvI 4), some (pvI n2), none]) (d1 := d) (rest := []) rfl rfl rfl rfl rfl (fun _ => rfl) (Nat.zero_le _) rfl rfl rfl (sf_X10_lowest_124_x_x_x M210_ o212_ i4z206_ 4 n2 (zr_wide h4z206_ (by decide) (by decide)) (zr_wide (show 4 ≤ Int32.toInt 4 ∧ Int32.toInt 4 ≤ 4 from (by decide)) (by decide) (by decide)) d) (fun x214_ b216_ => ?_)
                exact pw_ret hT rfl (r := some (pvJ x214_)) (M' := M210_) ⟨rfl, rfl⟩ ⟨⟨_, rfl⟩, o212_, f213_, (pvu_s e211_)⟩
              · have b219_ : 0 ≤ Int32.toInt (Mz206_.1 124 4) ∧ Int32.toInt (Mz206_.1 124 4) ≤ 3 := zr_nle_r 3 c208_ b207_ (show 4 ≤ Int32.toInt 4 ∧ Int32.toInt 4 ≤ 4 from (by decide)) (by decide)
                refine pw_blk hT 3 (S' := (47, [some (pvR 124), some (pvI n1), some (pvI n2), some (pvI (M.1 124 4)), some (pvI i4z206_)], [pvI 0, pvR 124, pvI i4z206_], Mz206_)) rfl ⟨trivial, trivial, trivial, trivial⟩ ?_
                have u220_ : Int32.toInt 0 = 0 := by decide
                refine pw_callG hT (as := [pvR 124, pvI 0]) (lo1 := [some (pvR 124), some (pvI 0)]) (d1 := d) (rest := [pvI i4z206_]) rfl rfl rfl rfl rfl (fun _ => rfl) (Nat.zero_le _) rfl rfl rfl (sf_X10_costOfRound_124_x Mz206_ oz206_ 0 (zr_wide (show 0 ≤ Int32.toInt 0 ∧ Int32.toInt 0 ≤ 0 from (by decide)) (by decide) (by decide)) (pvWF_fr (L := fpL_eX10_odds_124_x_x) rfl fz206_ hz) d) (fun x221_ M222_ b223_ o224_ g225_ => ?_)
                have f226_ : pvFr fp_eX10_odds_124_x_x M M222_ := pvfr_t g225_ fz206_ fp_eX10_odds_124_x_x_fp_X10_costOfRound_124_x
                refine pw_blk hT 1 (S' := (51, [some (pvR 124), some (pvI n1), some (pvI n2), some (pvI (M.1 124 4)), some (pvI i4z206_)], [pvI n1, pvI x221_, pvI i4z206_], M222_)) rfl ⟨trivial, trivial⟩ ?_
                refine pw_ic hT (c := n1 < x221_) rfl rfl (fun c227_ => ?_) (fun c227_ => ?_)
                · have b228_ : 1 ≤ Int32.toInt x221_ ∧ Int32.toInt x221_ ≤ 9000000 := zr_lt_r 1 c227_ b223_ b13_ (by decide)
                  have d229_ : Int32.toInt n1 < Int32.toInt x221_ := (zi_lt _ _).mp c227_
                  obtain ⟨q231_, b230_⟩ : (Int32.toInt (i4z206_ + 0) = Int32.toInt i4z206_ + 0) ∧ (0 ≤ Int32.toInt (i4z206_ + 0) ∧ Int32.toInt (i4z206_ + 0) ≤ 4) := zadd_k i4z206_ 0 0 0 4 h4z206_ (by decide) (by decide) (by decide) (by decide) (by decide)
                  have e232_ : (M222_.1 124 4) = (Mz206_.1 124 4) := (g225_ 124 4 rfl)
                  have b233_ : 0 ≤ Int32.toInt (M222_.1 124 4) ∧ Int32.toInt (M222_.1 124 4) ≤ 3 := (by rw [e232_]; exact b219_)
                  have d234_ : Int32.toInt (M222_.1 124 4) = Int32.toInt (Mz206_.1 124 4) := congrArg Int32.toInt e232_
                  obtain ⟨q236_, b235_⟩ : (Int32.toInt ((M222_.1 124 4) + 1) = Int32.toInt (M222_.1 124 4) + 1) ∧ (1 ≤ Int32.toInt ((M222_.1 124 4) + 1) ∧ Int32.toInt ((M222_.1 124 4) + 1) ≤ 4) := zadd_k (M222_.1 124 4) 1 1 1 4 b233_ (by decide) (by decide) (by decide) (by decide) (by decide)
                  refine pw_blkw hT 9 (pc := 72) (lo := [some (pvR 124), some (pvI n1), some (pvI n2), some (pvI (M.1 124 4)), some (pvI (i4z206_ + 0))]) (st := []) (M := pvu M222_ 124 4 ((M222_.1 124 4) + 1)) rfl ⟨trivial, trivial, trivial, trivial, trivial, rfl, trivial, trivial, rfl, trivial⟩ (fun M237_ e238_ => ?_)
                  have o239_ : pvOk M237_ := pvok_u2 e238_ o224_ rfl (zr_wide b235_ (by decide) (by decide))
                  have f240_ : pvFr fp_eX10_odds_124_x_x M M237_ := pvfr_u e238_ f226_ rfl
                  refine pw_blk hT 1 (S' := (35, [some (pvR 124), some (pvI n1), some (pvI n2), some (pvI (M.1 124 4)), some (pvI (i4z206_ + 0))], [], M237_)) rfl ⟨trivial, trivial⟩ ?_
                  have j241_ : Int32.toInt (i4z206_ + 0) ≤ Int32.toInt (M237_.1 124 4) := by have z1 : Int32.toInt (M237_.1 124 4) = Int32.toInt ((M222_.1 124 4) + 1) := congrArg Int32.toInt (pvu_s e238_); have z2 : Int32.toInt (M222_.1 124 4) = Int32.toInt (Mz206_.1 124 4) := congrArg Int32.toInt (g225_ 124 4 rfl); have y01 : Int32.toInt (M237_.1 124 4) = Int32.toInt ((M222_.1 124 4) + 1) := congrArg Int32.toInt (pvu_s e238_); have y02 : Int32.toInt (M222_.1 124 4) = Int32.toInt (Mz206_.1 124 4) := congrArg Int32.toInt (g225_ 124 4 rfl); omega
                  exact ihz206_ (i4z206_ + 0) M237_ o239_ f240_ b230_ j241_ (zhid (by have hm0 := zshow hmz206_; have z1 : Int32.toInt (M237_.1 124 4) = Int32.toInt ((M222_.1 124 4) + 1) := congrArg Int32.toInt (pvu_s e238_); have z2 : Int32.toInt (M222_.1 124 4) = Int32.toInt (Mz206_.1 124 4) := congrArg Int32.toInt (g225_ 124 4 rfl); have y01 : Int32.toInt (M237_.1 124 4) = Int32.toInt ((M222_.1 124 4) + 1) := congrArg Int32.toInt (pvu_s e238_); have y02 : Int32.toInt (M222_.1 124 4) = Int32.toInt (Mz206_.1 124 4) := congrArg Int32.toInt (g225_ 124 4 rfl); omega))
                · have b242_ : 0 ≤ Int32.toInt x221_ ∧ Int32.toInt x221_ ≤ 99999 := zr_nlt_r 99999 c227_ b223_ b13_ (by decide)
                  have d243_ : Int32.toInt n1 ≥ Int32.toInt x221_ := Int.not_lt.mp ((not_congr (zi_lt _ _)).mp c227_)
                  obtain ⟨q245_, b244_⟩ : (Int32.toInt (i4z206_ + 1) = Int32.toInt i4z206_ + 1) ∧ (1 ≤ Int32.toInt (i4z206_ + 1) ∧ Int32.toInt (i4z206_ + 1) ≤ 5) := zadd_k i4z206_ 1 1 1 5 h4z206_ (by decide) (by decide) (by decide) (by decide) (by decide)
                  have e246_ : (M222_.1 124 4) = (Mz206_.1 124 4) := (g225_ 124 4 rfl)
                  have b247_ : 0 ≤ Int32.toInt (M222_.1 124 4) ∧ Int32.toInt (M222_.1 124 4) ≤ 3 := (by rw [e246_]; exact b219_)
                  have d248_ : Int32.toInt (M222_.1 124 4) = Int32.toInt (Mz206_.1 124 4) := congrArg Int32.toInt e246_
                  obtain ⟨q250_, b249_⟩ : (Int32.toInt ((M222_.1 124 4) + 1) = Int32.toInt (M222_.1 124 4) + 1) ∧ (1 ≤ Int32.toInt ((M222_.1 124 4) + 1) ∧ Int32.toInt ((M222_.1 124 4) + 1) ≤ 4) := zadd_k (M222_.1 124 4) 1 1 1 4 b247_ (by decide) (by decide) (by decide) (by decide) (by decide)
                  refine pw_blkw hT 10 (pc := 72) (lo := [some (pvR 124), some (pvI n1), some (pvI n2), some (pvI (M.1 124 4)), some (pvI (i4z206_ + 1))]) (st := []) (M := pvu M222_ 124 4 ((M222_.1 124 4) + 1)) rfl ⟨trivial, trivial, trivial, trivial, trivial, trivial, rfl, trivial, trivial, rfl, trivial⟩ (fun M251_ e252_ => ?_)
                  have o253_ : pvOk M251_ := pvok_u2 e252_ o224_ rfl (zr_wide b249_ (by decide) (by decide))
                  have f254_ : pvFr fp_eX10_odds_124_x_x M M251_ := pvfr_u e252_ f226_ rfl
                  refine pw_blk hT 1 (S' := (35, [some (pvR 124), some (pvI n1), some (pvI n2), some (pvI (M.1 124 4)), some (pvI (i4z206_ + 1))], [], M251_)) rfl ⟨trivial, trivial⟩ ?_
                  have j255_ : Int32.toInt (i4z206_ + 1) ≤ Int32.toInt (M251_.1 124 4) := by have z1 : Int32.toInt (M251_.1 124 4) = Int32.toInt ((M222_.1 124 4) + 1) := congrArg Int32.toInt (pvu_s e252_); have z2 : Int32.toInt (M222_.1 124 4) = Int32.toInt (Mz206_.1 124 4) := congrArg Int32.toInt (g225_ 124 4 rfl); have y01 : Int32.toInt (M251_.1 124 4) = Int32.toInt ((M222_.1 124 4) + 1) := congrArg Int32.toInt (pvu_s e252_); have y02 : Int32.toInt (M222_.1 124 4) = Int32.toInt (Mz206_.1 124 4) := congrArg Int32.toInt (g225_ 124 4 rfl); omega
                  exact ihz206_ (i4z206_ + 1) M251_ o253_ f254_ (by have u0 := b244_; omega) j255_ (zhid (by have hm0 := zshow hmz206_; have z1 : Int32.toInt (M251_.1 124 4) = Int32.toInt ((M222_.1 124 4) + 1) := congrArg Int32.toInt (pvu_s e252_); have z2 : Int32.toInt (M222_.1 124 4) = Int32.toInt (Mz206_.1 124 4) := congrArg Int32.toInt (g225_ 124 4 rfl); have y01 : Int32.toInt (M251_.1 124 4) = Int32.toInt ((M222_.1 124 4) + 1) := congrArg Int32.toInt (pvu_s e252_); have y02 : Int32.toInt (M222_.1 124 4) = Int32.toInt (Mz206_.1 124 4) := congrArg Int32.toInt (g225_ 124 4 rfl); omega))
          have u256_ : Int32.toInt 0 = 0 := by decide
          have j257_ : Int32.toInt 0 ≤ Int32.toInt (M30_.1 124 4) := by have y01 : Int32.toInt (M30_.1 124 4) = Int32.toInt 0 := congrArg Int32.toInt (pvu_s e31_); have y03 : Int32.toInt 0 = 0 := (by decide); omega
          exact hlz206_ _ 0 M30_ o32_ f33_ (zr_wide (show 0 ≤ Int32.toInt 0 ∧ Int32.toInt 0 ≤ 0 from (by decide)) (by decide) (by decide)) j257_ (zhid (Nat.lt_succ_self _))
def fpL_eX10_see_124_x_x : List (Nat × Nat × Nat) := [(0, 124, 41), (0, 147, 0), (0, 148, 0)]
def fp_eX10_see_124_x_x (q k : Nat) : Bool := pvfp fpL_eX10_see_124_x_x q k
set_option maxHeartbeats 4000000 in
set_option maxRecDepth 10000 in
theorem se_X10_see_124_x_x (M : pvM) (hok : pvOk M) (n1 : Int32) (n2 : Int32) (d : Nat) : PW 71 d (0, [some (pvR 124), some (pvI n1), some (pvI n2)], [], M) (fun r X => (∃ x : Int32, r = some (pvI x) ∧ ((-4) ≤ Int32.toInt x ∧ Int32.toInt x ≤ 6) ∧ x = (if n1 = (-1) then 0 else (if n1 < 0 then (-1) else (if ((M.1 124 0) - 1) < n1 then (-1) else (if n2 < 0 then (-2) else (if 9999 < n2 then (-2) else (if (M.1 124 40) = 6 then (-4) else ((M.1 124 40) + 1)))))))) ∧ pvOk X ∧ pvFr fp_eX10_see_124_x_x M X ∧ X.1 124 40 = (if n1 = (-1) then 0 else (if n1 < 0 then (M.1 124 40) else (if ((M.1 124 0) - 1) < n1 then (M.1 124 40) else (if n2 < 0 then (M.1 124 40) else (if 9999 < n2 then (M.1 124 40) else (if (M.1 124 40) = 6 then (M.1 124 40) else ((M.1 124 40) + 1)))))))) := by
  have hT : pvdom 71 = pvD_71 := rfl
  refine pw_blk hT 2 (S' := (2, [some (pvR 124), some (pvI n1), some (pvI n2)], [pvI (-1), pvI n1], M)) rfl ⟨trivial, trivial, trivial⟩ ?_
  refine pw_icn hT (c := n1 = (-1)) rfl rfl (fun c1_ => ?_) (fun c1_ => ?_)
  · refine pw_blk hT 2 (S' := (14, [some (pvR 124), some (pvI n1), some (pvI n2)], [pvI n1, pvR 124], M)) rfl ⟨trivial, trivial, trivial⟩ ?_
    refine pw_callT hT (as := [pvR 124, pvI n1]) (lo1 := [some (pvR 124), some (pvI n1)]) (d1 := d) (rest := []) rfl rfl rfl rfl rfl (fun _ => rfl) (Nat.zero_le _) rfl rfl rfl (sf_X10_isWindow_124_x M hok n1 d) ?_
    by_cases c7_ : n1 < 0
    · refine pw_eqI (if_pos c7_) ?_
      have b8_ : (-2147483648) ≤ Int32.toInt n1 ∧ Int32.toInt n1 ≤ (-2) := (by have u0 := (zbnd n1); have u9 := (show _ ∧ _ from ⟨(zi_lt _ _).mp c7_, (show 0 ≤ Int32.toInt 0 ∧ Int32.toInt 0 ≤ 0 from (by decide))⟩); have v1 := (not_congr (zi_eq _ _)).mp c1_; have w1 : ((-1) : Int32).toInt = -1 := (by decide); omega)
      show PW 71 d (17, [some (pvR 124), some (pvI n1), some (pvI n2)], [pvI 0], M) _
      refine pw_ifn hT (c := 0 = 0) rfl rfl (fun c9_ => absurd (by decide) c9_) (fun c9_ => ?_)
      refine pw_blk hT 1 (S' := (21, [some (pvR 124), some (pvI n1), some (pvI n2)], [pvI (-1)], M)) rfl ⟨trivial, trivial⟩ ?_
      exact pw_ret hT rfl (r := some (pvI (-1))) (M' := M) ⟨rfl, rfl⟩ ⟨⟨_, rfl, (zr_wide (show (-1) ≤ Int32.toInt (-1) ∧ Int32.toInt (-1) ≤ (-1) from (by decide)) (by decide) (by decide)), (by rw [if_neg c1_, if_pos c7_])⟩, hok, pvfr_0, (by rw [if_neg c1_, if_pos c7_]; exact rfl)⟩
    · refine pw_eqI (if_neg c7_) ?_
      have b10_ : 0 ≤ Int32.toInt n1 ∧ Int32.toInt n1 ≤ 2147483647 := zr_nlt_l 0 c7_ (zbnd n1) (show 0 ≤ Int32.toInt 0 ∧ Int32.toInt 0 ≤ 0 from (by decide)) (by decide)
      have b11_ : 0 ≤ Int32.toInt (M.1 124 0) ∧ Int32.toInt (M.1 124 0) ≤ 7 := pvok_r hok 124 0 rfl
      obtain ⟨q13_, b12_⟩ : (Int32.toInt ((M.1 124 0) - 1) = Int32.toInt (M.1 124 0) - 1) ∧ ((-1) ≤ Int32.toInt ((M.1 124 0) - 1) ∧ Int32.toInt ((M.1 124 0) - 1) ≤ 6) := zsub_k (M.1 124 0) 1 1 (-1) 6 b11_ (by decide) (by decide) (by decide) (by decide) (by decide)
      by_cases c14_ : ((M.1 124 0) - 1) < n1
      · refine pw_eqI (if_pos c14_) ?_
        have d15_ : Int32.toInt ((M.1 124 0) - 1) < Int32.toInt n1 := (zi_lt _ _).mp c14_
        show PW 71 d (17, [some (pvR 124), some (pvI n1), some (pvI n2)], [pvI 0], M) _
        refine pw_ifn hT (c := 0 = 0) rfl rfl (fun c16_ => absurd (by decide) c16_) (fun c16_ => ?_)
        refine pw_blk hT 1 (S' := (21, [some (pvR 124), some (pvI n1), some (pvI n2)], [pvI (-1)], M)) rfl ⟨trivial, trivial⟩ ?_
        exact pw_ret hT rfl (r := some (pvI (-1))) (M' := M) ⟨rfl, rfl⟩ ⟨⟨_, rfl, (zr_wide (show (-1) ≤ Int32.toInt (-1) ∧ Int32.toInt (-1) ≤ (-1) from (by decide)) (by decide) (by decide)), (by rw [if_neg c1_, if_neg c7_, if_pos c14_])⟩, hok, pvfr_0, (by rw [if_neg c1_, if_neg c7_, if_pos c14_]; exact rfl)⟩
      · refine pw_eqI (if_neg c14_) ?_
        have b17_ : 0 ≤ Int32.toInt ((M.1 124 0) - 1) ∧ Int32.toInt ((M.1 124 0) - 1) ≤ 6 := zr_nlt_l 0 c14_ b12_ b10_ (by decide)
        have b18_ : 0 ≤ Int32.toInt n1 ∧ Int32.toInt n1 ≤ 6 := zr_nlt_r 6 c14_ b10_ b17_ (by decide)
        have d19_ : Int32.toInt ((M.1 124 0) - 1) ≥ Int32.toInt n1 := Int.not_lt.mp ((not_congr (zi_lt _ _)).mp c14_)
        show PW 71 d (17, [some (pvR 124), some (pvI n1), some (pvI n2)], [pvI 1], M) _
        refine pw_ifn hT (c := 1 = 0) rfl rfl (fun c20_ => ?_) (fun c20_ => absurd c20_ (by decide))
        refine pw_blk hT 4 (S' := (28, [some (pvR 124), some (pvI n1), some (pvI n2)], [pvI 9999, pvI 0, pvI n2, pvR 124], M)) rfl ⟨trivial, trivial, trivial, trivial, trivial⟩ ?_
        refine pw_callT hT (as := [pvR 124, pvI n2, pvI 0, pvI 9999]) (lo1 := [some (pvR 124), some (pvI n2), some (pvI 0), some (pvI 9999)]) (d1 := d) (rest := []) rfl rfl rfl rfl rfl (fun _ => rfl) (Nat.zero_le _) rfl rfl rfl (sf_X10_in_124_x_x_x M hok n2 0 9999 d) ?_
        by_cases c26_ : n2 < 0
        · refine pw_eqI (if_pos c26_) ?_
          have b27_ : (-2147483648) ≤ Int32.toInt n2 ∧ Int32.toInt n2 ≤ (-1) := zr_lt_l (-1) c26_ (zbnd n2) (show 0 ≤ Int32.toInt 0 ∧ Int32.toInt 0 ≤ 0 from (by decide)) (by decide)
          show PW 71 d (31, [some (pvR 124), some (pvI n1), some (pvI n2)], [pvI 0], M) _
          refine pw_ifn hT (c := 0 = 0) rfl rfl (fun c28_ => absurd (by decide) c28_) (fun c28_ => ?_)
          refine pw_blk hT 1 (S' := (36, [some (pvR 124), some (pvI n1), some (pvI n2)], [pvI (-2)], M)) rfl ⟨trivial, trivial⟩ ?_
          exact pw_ret hT rfl (r := some (pvI (-2))) (M' := M) ⟨rfl, rfl⟩ ⟨⟨_, rfl, (zr_wide (show (-2) ≤ Int32.toInt (-2) ∧ Int32.toInt (-2) ≤ (-2) from (by decide)) (by decide) (by decide)), (by rw [if_neg c1_, if_neg c7_, if_neg c14_, if_pos c26_])⟩, hok, pvfr_0, (by rw [if_neg c1_, if_neg c7_, if_neg c14_, if_pos c26_]; exact rfl)⟩
        · refine pw_eqI (if_neg c26_) ?_
          have b29_ : 0 ≤ Int32.toInt n2 ∧ Int32.toInt n2 ≤ 2147483647 := zr_nlt_l 0 c26_ (zbnd n2) (show 0 ≤ Int32.toInt 0 ∧ Int32.toInt 0 ≤ 0 from (by decide)) (by decide)
          by_cases c30_ : 9999 < n2
          · refine pw_eqI (if_pos c30_) ?_
            have b31_ : 10000 ≤ Int32.toInt n2 ∧ Int32.toInt n2 ≤ 2147483647 := zr_lt_r 10000 c30_ b29_ (show 9999 ≤ Int32.toInt 9999 ∧ Int32.toInt 9999 ≤ 9999 from (by decide)) (by decide)
            show PW 71 d (31, [some (pvR 124), some (pvI n1), some (pvI n2)], [pvI 0], M) _
            refine pw_ifn hT (c := 0 = 0) rfl rfl (fun c32_ => absurd (by decide) c32_) (fun c32_ => ?_)
            refine pw_blk hT 1 (S' := (36, [some (pvR 124), some (pvI n1), some (pvI n2)], [pvI (-2)], M)) rfl ⟨trivial, trivial⟩ ?_
            exact pw_ret hT rfl (r := some (pvI (-2))) (M' := M) ⟨rfl, rfl⟩ ⟨⟨_, rfl, (zr_wide (show (-2) ≤ Int32.toInt (-2) ∧ Int32.toInt (-2) ≤ (-2) from (by decide)) (by decide) (by decide)), (by rw [if_neg c1_, if_neg c7_, if_neg c14_, if_neg c26_, if_pos c30_])⟩, hok, pvfr_0, (by rw [if_neg c1_, if_neg c7_, if_neg c14_, if_neg c26_, if_pos c30_]; exact rfl)⟩
          · refine pw_eqI (if_neg c30_) ?_
            have b33_ : 0 ≤ Int32.toInt n2 ∧ Int32.toInt n2 ≤ 9999 := zr_nlt_r 9999 c30_ b29_ (show 9999 ≤ Int32.toInt 9999 ∧ Int32.toInt 9999 ≤ 9999 from (by decide)) (by decide)
            show PW 71 d (31, [some (pvR 124), some (pvI n1), some (pvI n2)], [pvI 1], M) _
            refine pw_ifn hT (c := 1 = 0) rfl rfl (fun c34_ => ?_) (fun c34_ => absurd c34_ (by decide))
            have b35_ : 0 ≤ Int32.toInt (M.1 124 40) ∧ Int32.toInt (M.1 124 40) ≤ 6 := pvok_r hok 124 40 rfl
            refine pw_blk hT 3 (S' := (43, [some (pvR 124), some (pvI n1), some (pvI n2)], [pvI 6, pvI (M.1 124 40)], M)) rfl ⟨trivial, rfl, trivial, trivial⟩ ?_
            refine pw_icn hT (c := (M.1 124 40) = 6) rfl rfl (fun c36_ => ?_) (fun c36_ => ?_)
            · have b37_ : 0 ≤ Int32.toInt (M.1 124 40) ∧ Int32.toInt (M.1 124 40) ≤ 5 := (by have u0 := b35_; have u1 := (not_congr (zi_eq _ _)).mp c36_; have u2 := (show 6 ≤ Int32.toInt 6 ∧ Int32.toInt 6 ≤ 6 from (by decide)); omega)
              refine pw_blkw hT 6 (pc := 59) (lo := [some (pvR 124), some (pvI n1), some (pvI n2)]) (st := []) (M := pvu M 147 (Int32.toNatClampNeg (M.1 124 40)) n1) rfl ⟨trivial, rfl, trivial, rfl, trivial, ⟨rfl, (zr_in (n := 6) b37_ (by decide) (by decide))⟩, trivial⟩ (fun M38_ e39_ => ?_)
              have o40_ : pvOk M38_ := pvok_u2 e39_ hok rfl b18_
              have f41_ : pvFr fp_eX10_see_124_x_x M M38_ := pvfr_u e39_ pvfr_0 rfl
              have e42_ : (M38_.1 124 40) = (M.1 124 40) := (pvu_n e39_ 124 40 (Or.inl (by decide)))
              have b43_ : 0 ≤ Int32.toInt (M38_.1 124 40) ∧ Int32.toInt (M38_.1 124 40) ≤ 5 := (by rw [e42_]; exact b37_)
              refine pw_blkw hT 6 (pc := 69) (lo := [some (pvR 124), some (pvI n1), some (pvI n2)]) (st := []) (M := pvu M38_ 148 (Int32.toNatClampNeg (M38_.1 124 40)) n2) rfl ⟨trivial, rfl, trivial, rfl, trivial, ⟨rfl, (zr_in (n := 6) b43_ (by decide) (by decide))⟩, trivial⟩ (fun M44_ e45_ => ?_)
              have o46_ : pvOk M44_ := pvok_u2 e45_ o40_ rfl b33_
              have f47_ : pvFr fp_eX10_see_124_x_x M M44_ := pvfr_u e45_ f41_ rfl
              have e48_ : (M44_.1 124 40) = (M38_.1 124 40) := (pvu_n e45_ 124 40 (Or.inl (by decide)))
              have b49_ : 0 ≤ Int32.toInt (M44_.1 124 40) ∧ Int32.toInt (M44_.1 124 40) ≤ 5 := (by rw [e48_]; exact b43_)
              obtain ⟨q51_, b50_⟩ : (Int32.toInt ((M44_.1 124 40) + 1) = Int32.toInt (M44_.1 124 40) + 1) ∧ (1 ≤ Int32.toInt ((M44_.1 124 40) + 1) ∧ Int32.toInt ((M44_.1 124 40) + 1) ≤ 6) := zadd_k (M44_.1 124 40) 1 1 1 6 b49_ (by decide) (by decide) (by decide) (by decide) (by decide)
              refine pw_blkw hT 6 (pc := 79) (lo := [some (pvR 124), some (pvI n1), some (pvI n2)]) (st := []) (M := pvu M44_ 124 40 ((M44_.1 124 40) + 1)) rfl ⟨trivial, trivial, rfl, trivial, trivial, rfl, trivial⟩ (fun M52_ e53_ => ?_)
              have o54_ : pvOk M52_ := pvok_u2 e53_ o46_ rfl (zr_wide b50_ (by decide) (by decide))
              have f55_ : pvFr fp_eX10_see_124_x_x M M52_ := pvfr_u e53_ f47_ rfl
              have e56_ : (M52_.1 124 40) = ((M44_.1 124 40) + 1) := (pvu_s e53_)
              have b57_ : 1 ≤ Int32.toInt (M52_.1 124 40) ∧ Int32.toInt (M52_.1 124 40) ≤ 6 := (by rw [e56_]; exact b50_)
              refine pw_blk hT 2 (S' := (83, [some (pvR 124), some (pvI n1), some (pvI n2)], [pvI (M52_.1 124 40)], M52_)) rfl ⟨trivial, rfl, trivial⟩ ?_
              exact pw_ret hT rfl (r := some (pvI (M52_.1 124 40))) (M' := M52_) ⟨rfl, rfl⟩ ⟨⟨_, rfl, (zr_wide b57_ (by decide) (by decide)), (by rw [if_neg c1_, if_neg c7_, if_neg c14_, if_neg c26_, if_neg c30_, if_neg c36_]; exact (show (M52_.1 124 40) = ((M.1 124 40) + 1) from by rw [((pvu_s e53_).trans (show ((M44_.1 124 40) + 1) = ((M.1 124 40) + 1) from by rw [((pvu_n e45_ 124 40 (Or.inl (by decide))).trans (pvu_n e39_ 124 40 (Or.inl (by decide))))]))]))⟩, o54_, f55_, (by rw [if_neg c1_, if_neg c7_, if_neg c14_, if_neg c26_, if_neg c30_, if_neg c36_]; exact ((pvu_s e53_).trans (show ((M44_.1 124 40) + 1) = ((M.1 124 40) + 1) from by rw [((pvu_n e45_ 124 40 (Or.inl (by decide))).trans (pvu_n e39_ 124 40 (Or.inl (by decide))))])))⟩
            · have b58_ : 6 ≤ Int32.toInt (M.1 124 40) ∧ Int32.toInt (M.1 124 40) ≤ 6 := (by have u0 := b35_; have u1 := (zi_eq _ _).mp c36_; have u2 := (show 6 ≤ Int32.toInt 6 ∧ Int32.toInt 6 ≤ 6 from (by decide)); omega)
              refine pw_blk hT 1 (S' := (48, [some (pvR 124), some (pvI n1), some (pvI n2)], [pvI (-4)], M)) rfl ⟨trivial, trivial⟩ ?_
              exact pw_ret hT rfl (r := some (pvI (-4))) (M' := M) ⟨rfl, rfl⟩ ⟨⟨_, rfl, (zr_wide (show (-4) ≤ Int32.toInt (-4) ∧ Int32.toInt (-4) ≤ (-4) from (by decide)) (by decide) (by decide)), (by rw [if_neg c1_, if_neg c7_, if_neg c14_, if_neg c26_, if_neg c30_, if_pos c36_])⟩, hok, pvfr_0, (by rw [if_neg c1_, if_neg c7_, if_neg c14_, if_neg c26_, if_neg c30_, if_pos c36_]; exact rfl)⟩
  · have b59_ : (-1) ≤ Int32.toInt n1 ∧ Int32.toInt n1 ≤ (-1) := (by have u0 := (zbnd n1); have u1 := (zi_eq _ _).mp c1_; have u2 := (show (-1) ≤ Int32.toInt (-1) ∧ Int32.toInt (-1) ≤ (-1) from (by decide)); omega)
    refine pw_blkw hT 3 (pc := 10) (lo := [some (pvR 124), some (pvI n1), some (pvI n2)]) (st := []) (M := pvu M 124 40 0) rfl ⟨trivial, trivial, rfl, trivial⟩ (fun M60_ e61_ => ?_)
    have o62_ : pvOk M60_ := pvok_u2 e61_ hok rfl (zr_wide (show 0 ≤ Int32.toInt 0 ∧ Int32.toInt 0 ≤ 0 from (by decide)) (by decide) (by decide))
    have f63_ : pvFr fp_eX10_see_124_x_x M M60_ := pvfr_u e61_ pvfr_0 rfl
    refine pw_blk hT 1 (S' := (11, [some (pvR 124), some (pvI n1), some (pvI n2)], [pvI 0], M60_)) rfl ⟨trivial, trivial⟩ ?_
    exact pw_ret hT rfl (r := some (pvI 0)) (M' := M60_) ⟨rfl, rfl⟩ ⟨⟨_, rfl, (zr_wide (show 0 ≤ Int32.toInt 0 ∧ Int32.toInt 0 ≤ 0 from (by decide)) (by decide) (by decide)), (by rw [if_pos c1_])⟩, o62_, f63_, (by rw [if_pos c1_]; exact (pvu_s e61_))⟩
def fpL_eX10_sides_124_x : List (Nat × Nat × Nat) := [(0, 124, 33), (0, 124, 5), (0, 141, 0), (0, 142, 0), (0, 143, 0)]
def fp_eX10_sides_124_x (q k : Nat) : Bool := pvfp fpL_eX10_sides_124_x q k
theorem fp_eX10_sides_124_x_fp_X10_costOfNone_124 (a b : Nat) (h : fp_X10_costOfNone_124 a b = true) : fp_eX10_sides_124_x a b = true := pvfp_sub (l1 := fpL_X10_costOfNone_124) (l2 := fpL_eX10_sides_124_x) (by decide) a b h
theorem fp_eX10_sides_124_x_fp_X10_layRain_124 (a b : Nat) (h : fp_X10_layRain_124 a b = true) : fp_eX10_sides_124_x a b = true := pvfp_sub (l1 := fpL_X10_layRain_124) (l2 := fpL_eX10_sides_124_x) (by decide) a b h
set_option maxHeartbeats 4000000 in
set_option maxRecDepth 10000 in
theorem se_X10_sides_124_x (M : pvM) (hok : pvOk M) (n1 : Int32) (hz : pvWF M) (d : Nat) : PW 77 d (0, [some (pvR 124), some (pvI n1), none, none, none, none], [], M) (fun r X => (∃ x : Int32, r = some (pvI x) ∧ (-1) ≤ Int32.toInt x ∧ Int32.toInt x ≤ 2147483647) ∧ pvOk X ∧ pvFr fp_eX10_sides_124_x M X ∧ X.1 124 4 = M.1 124 4) := by
  have hT : pvdom 77 = pvD_77 := rfl
  refine pw_blk hT 4 (S' := (4, [some (pvR 124), some (pvI n1), none, none, none, none], [pvI 1, pvI 0, pvI n1, pvR 124], M)) rfl ⟨trivial, trivial, trivial, trivial, trivial⟩ ?_
  refine pw_callT hT (as := [pvR 124, pvI n1, pvI 0, pvI 1]) (lo1 := [some (pvR 124), some (pvI n1), some (pvI 0), some (pvI 1)]) (d1 := d) (rest := []) rfl rfl rfl rfl rfl (fun _ => rfl) (Nat.zero_le _) rfl rfl rfl (sf_X10_in_124_x_x_x M hok n1 0 1 d) ?_
  by_cases c6_ : n1 < 0
  · refine pw_eqI (if_pos c6_) ?_
    have b7_ : (-2147483648) ≤ Int32.toInt n1 ∧ Int32.toInt n1 ≤ (-1) := zr_lt_l (-1) c6_ (zbnd n1) (show 0 ≤ Int32.toInt 0 ∧ Int32.toInt 0 ≤ 0 from (by decide)) (by decide)
    show PW 77 d (7, [some (pvR 124), some (pvI n1), none, none, none, none], [pvI 0], M) _
    refine pw_ifn hT (c := 0 = 0) rfl rfl (fun c8_ => absurd (by decide) c8_) (fun c8_ => ?_)
    refine pw_blk hT 1 (S' := (11, [some (pvR 124), some (pvI n1), none, none, none, none], [pvI (-1)], M)) rfl ⟨trivial, trivial⟩ ?_
    exact pw_ret hT rfl (r := some (pvI (-1))) (M' := M) ⟨rfl, rfl⟩ ⟨⟨_, rfl, (zr_wide (show (-1) ≤ Int32.toInt (-1) ∧ Int32.toInt (-1) ≤ (-1) from (by decide)) (by decide) (by decide))⟩, hok, pvfr_0, rfl⟩
  · refine pw_eqI (if_neg c6_) ?_
    have b9_ : 0 ≤ Int32.toInt n1 ∧ Int32.toInt n1 ≤ 2147483647 := zr_nlt_l 0 c6_ (zbnd n1) (show 0 ≤ Int32.toInt 0 ∧ Int32.toInt 0 ≤ 0 from (by decide)) (by decide)
    by_cases c10_ : 1 < n1
    · refine pw_eqI (if_pos c10_) ?_
      have b11_ : 2 ≤ Int32.toInt n1 ∧ Int32.toInt n1 ≤ 2147483647 := zr_lt_r 2 c10_ b9_ (show 1 ≤ Int32.toInt 1 ∧ Int32.toInt 1 ≤ 1 from (by decide)) (by decide)
      show PW 77 d (7, [some (pvR 124), some (pvI n1), none, none, none, none], [pvI 0], M) _
      refine pw_ifn hT (c := 0 = 0) rfl rfl (fun c12_ => absurd (by decide) c12_) (fun c12_ => ?_)
      refine pw_blk hT 1 (S' := (11, [some (pvR 124), some (pvI n1), none, none, none, none], [pvI (-1)], M)) rfl ⟨trivial, trivial⟩ ?_
      exact pw_ret hT rfl (r := some (pvI (-1))) (M' := M) ⟨rfl, rfl⟩ ⟨⟨_, rfl, (zr_wide (show (-1) ≤ Int32.toInt (-1) ∧ Int32.toInt (-1) ≤ (-1) from (by decide)) (by decide) (by decide))⟩, hok, pvfr_0, rfl⟩
    · refine pw_eqI (if_neg c10_) ?_
      have b13_ : 0 ≤ Int32.toInt n1 ∧ Int32.toInt n1 ≤ 1 := zr_nlt_r 1 c10_ b9_ (show 1 ≤ Int32.toInt 1 ∧ Int32.toInt 1 ≤ 1 from (by decide)) (by decide)
      show PW 77 d (7, [some (pvR 124), some (pvI n1), none, none, none, none], [pvI 1], M) _
      refine pw_ifn hT (c := 1 = 0) rfl rfl (fun c14_ => ?_) (fun c14_ => absurd c14_ (by decide))
      have b15_ : 0 ≤ Int32.toInt (M.1 124 4) ∧ Int32.toInt (M.1 124 4) ≤ 4 := pvok_r hok 124 4 rfl
      refine pw_blkw hT 10 (pc := 27) (lo := [some (pvR 124), some (pvI n1), some (pvI (M.1 124 4)), some (pvI 0), some (pvI (-1)), none]) (st := []) (M := pvu M 124 4 0) rfl ⟨trivial, rfl, trivial, trivial, trivial, trivial, trivial, trivial, trivial, rfl, trivial⟩ (fun M16_ e17_ => ?_)
      have o18_ : pvOk M16_ := pvok_u2 e17_ hok rfl (zr_wide (show 0 ≤ Int32.toInt 0 ∧ Int32.toInt 0 ≤ 0 from (by decide)) (by decide) (by decide))
      have f19_ : pvFr fp_eX10_sides_124_x M M16_ := pvfr_u e17_ pvfr_0 rfl
      have hlz172_ : ∀ (nz172_ : Nat) (i3z172_ : Int32) (i4z172_ : Int32) (v5z172_ : Option pvV) (Mz172_ : pvM), (pvOk Mz172_) → (pvFr fp_eX10_sides_124_x M Mz172_) → (0 ≤ Int32.toInt i3z172_ ∧ Int32.toInt i3z172_ ≤ 2147483647) → ((-1) ≤ Int32.toInt i4z172_ ∧ Int32.toInt i4z172_ ≤ 2147483647) → (zhide ((5 - Int32.toInt (Mz172_.1 124 4)).toNat < nz172_)) → PW 77 d (27, [some (pvR 124), some (pvI n1), some (pvI (M.1 124 4)), some (pvI i3z172_), some (pvI i4z172_), v5z172_], [], Mz172_) (fun r X => (∃ x : Int32, r = some (pvI x) ∧ (-1) ≤ Int32.toInt x ∧ Int32.toInt x ≤ 2147483647) ∧ pvOk X ∧ pvFr fp_eX10_sides_124_x M X ∧ X.1 124 4 = M.1 124 4) := by
        intro nz172_
        induction nz172_ with
        | zero => intro i3z172_ i4z172_ v5z172_ Mz172_ oz172_ fz172_ h3z172_ h4z172_ hmz172_; exact absurd (zshow hmz172_) (Nat.not_lt_zero _)
        | succ nz172_ ihz172_ =>
          intro i3z172_ i4z172_ v5z172_ Mz172_ oz172_ fz172_ h3z172_ h4z172_ hmz172_
          have b173_ : 0 ≤ Int32.toInt (Mz172_.1 124 4) ∧ Int32.toInt (Mz172_.1 124 4) ≤ 4 := pvok_r oz172_ 124 4 rfl
          refine pw_blk hT 3 (S' := (32, [some (pvR 124), some (pvI n1), some (pvI (M.1 124 4)), some (pvI i3z172_), some (pvI i4z172_), v5z172_], [pvI 4, pvI (Mz172_.1 124 4)], Mz172_)) rfl ⟨trivial, rfl, trivial, trivial⟩ ?_
          refine pw_ic hT (c := 4 ≤ (Mz172_.1 124 4)) rfl rfl (fun c174_ => ?_) (fun c174_ => ?_)
          · have b175_ : 4 ≤ Int32.toInt (Mz172_.1 124 4) ∧ Int32.toInt (Mz172_.1 124 4) ≤ 4 := zr_le_r 4 c174_ b173_ (show 4 ≤ Int32.toInt 4 ∧ Int32.toInt 4 ≤ 4 from (by decide)) (by decide)
            refine pw_blkw hT 3 (pc := 82) (lo := [some (pvR 124), some (pvI n1), some (pvI (M.1 124 4)), some (pvI i3z172_), some (pvI i4z172_), v5z172_]) (st := []) (M := pvu Mz172_ 124 4 (M.1 124 4)) rfl ⟨trivial, trivial, rfl, trivial⟩ (fun M176_ e177_ => ?_)
            have o178_ : pvOk M176_ := pvok_u2 e177_ oz172_ rfl b15_
            have f179_ : pvFr fp_eX10_sides_124_x M M176_ := pvfr_u e177_ fz172_ rfl
            refine pw_blk hT 1 (S' := (83, [some (pvR 124), some (pvI n1), some (pvI (M.1 124 4)), some (pvI i3z172_), some (pvI i4z172_), v5z172_], [pvI n1], M176_)) rfl ⟨trivial, trivial⟩ ?_
            refine pw_ifn hT (c := n1 = 0) rfl rfl (fun c180_ => ?_) (fun c180_ => ?_)
            · have b181_ : 1 ≤ Int32.toInt n1 ∧ Int32.toInt n1 ≤ 1 := (by have u0 := b13_; have u1 := (not_congr (zi_eq _ _)).mp c180_; have u2 := (show 0 ≤ Int32.toInt 0 ∧ Int32.toInt 0 ≤ 0 from (by decide)); omega)
              refine pw_blk hT 1 (S' := (92, [some (pvR 124), some (pvI n1), some (pvI (M.1 124 4)), some (pvI i3z172_), some (pvI i4z172_), v5z172_], [pvI i4z172_], M176_)) rfl ⟨trivial, trivial⟩ ?_
              exact pw_ret hT rfl (r := some (pvI i4z172_)) (M' := M176_) ⟨rfl, rfl⟩ ⟨⟨_, rfl, h4z172_⟩, o178_, f179_, (pvu_s e177_)⟩
            · have b182_ : 0 ≤ Int32.toInt n1 ∧ Int32.toInt n1 ≤ 0 := (by have u0 := b13_; have u1 := (zi_eq _ _).mp c180_; have u2 := (show 0 ≤ Int32.toInt 0 ∧ Int32.toInt 0 ≤ 0 from (by decide)); omega)
              refine pw_blk hT 2 (S' := (92, [some (pvR 124), some (pvI n1), some (pvI (M.1 124 4)), some (pvI i3z172_), some (pvI i4z172_), v5z172_], [pvI i3z172_], M176_)) rfl ⟨trivial, trivial, trivial⟩ ?_
              exact pw_ret hT rfl (r := some (pvI i3z172_)) (M' := M176_) ⟨rfl, rfl⟩ ⟨⟨_, rfl, (zr_wide h3z172_ (by decide) (by decide))⟩, o178_, f179_, (pvu_s e177_)⟩
          · have b183_ : 0 ≤ Int32.toInt (Mz172_.1 124 4) ∧ Int32.toInt (Mz172_.1 124 4) ≤ 3 := zr_nle_r 3 c174_ b173_ (show 4 ≤ Int32.toInt 4 ∧ Int32.toInt 4 ≤ 4 from (by decide)) (by decide)
            refine pw_blk hT 1 (S' := (36, [some (pvR 124), some (pvI n1), some (pvI (M.1 124 4)), some (pvI i3z172_), some (pvI i4z172_), v5z172_], [pvR 124], Mz172_)) rfl ⟨trivial, trivial⟩ ?_
            refine pw_callV hT (as := [pvR 124]) (lo1 := [some (pvR 124), none, none]) (d1 := d) (rest := []) rfl rfl rfl rfl rfl (fun _ => rfl) (Nat.zero_le _) rfl rfl rfl (sf_X10_layRain_124 Mz172_ oz172_ (pvWF_fr (L := fpL_eX10_sides_124_x) rfl fz172_ hz) d) (fun M185_ o187_ g188_ => ?_)
            have f189_ : pvFr fp_eX10_sides_124_x M M185_ := pvfr_t g188_ fz172_ fp_eX10_sides_124_x_fp_X10_layRain_124
            refine pw_blk hT 1 (S' := (40, [some (pvR 124), some (pvI n1), some (pvI (M.1 124 4)), some (pvI i3z172_), some (pvI i4z172_), v5z172_], [pvR 124], M185_)) rfl ⟨trivial, trivial⟩ ?_
            refine pw_callG hT (as := [pvR 124]) (lo1 := [some (pvR 124)]) (d1 := d) (rest := []) rfl rfl rfl rfl rfl (fun _ => rfl) (Nat.zero_le _) rfl rfl rfl (sf_X10_costOfNone_124 M185_ o187_ d) (fun x190_ M191_ b192_ o193_ g194_ => ?_)
            have f195_ : pvFr fp_eX10_sides_124_x M M191_ := pvfr_t g194_ f189_ fp_eX10_sides_124_x_fp_X10_costOfNone_124
            refine pw_blk hT 3 (S' := (49, [some (pvR 124), some (pvI n1), some (pvI (M.1 124 4)), some (pvI i3z172_), some (pvI i4z172_), some (pvI x190_)], [pvI i4z172_, pvI x190_], M191_)) rfl ⟨trivial, trivial, trivial, trivial⟩ ?_
            refine pw_ic hT (c := i4z172_ < x190_) rfl rfl (fun c196_ => ?_) (fun c196_ => ?_)
            · have b197_ : (-1) ≤ Int32.toInt i4z172_ ∧ Int32.toInt i4z172_ ≤ 8999999 := zr_lt_l 8999999 c196_ h4z172_ b192_ (by decide)
              have d198_ : Int32.toInt i4z172_ < Int32.toInt x190_ := (zi_lt _ _).mp c196_
              have e199_ : (M191_.1 124 4) = (Mz172_.1 124 4) := ((g194_ 124 4 rfl).trans (g188_ 124 4 rfl))
              have b200_ : 0 ≤ Int32.toInt (M191_.1 124 4) ∧ Int32.toInt (M191_.1 124 4) ≤ 3 := (by rw [e199_]; exact b183_)
              obtain ⟨q202_, b201_⟩ : (Int32.toInt ((M191_.1 124 4) + 1) = Int32.toInt (M191_.1 124 4) + 1) ∧ (1 ≤ Int32.toInt ((M191_.1 124 4) + 1) ∧ Int32.toInt ((M191_.1 124 4) + 1) ≤ 4) := zadd_k (M191_.1 124 4) 1 1 1 4 b200_ (by decide) (by decide) (by decide) (by decide) (by decide)
              refine pw_blkw hT 11 (pc := 74) (lo := [some (pvR 124), some (pvI n1), some (pvI (M.1 124 4)), some (pvI (M191_.1 124 4)), some (pvI x190_), some (pvI x190_)]) (st := []) (M := pvu M191_ 124 4 ((M191_.1 124 4) + 1)) rfl ⟨trivial, rfl, trivial, trivial, trivial, trivial, trivial, rfl, trivial, trivial, rfl, trivial⟩ (fun M203_ e204_ => ?_)
              have o205_ : pvOk M203_ := pvok_u2 e204_ o193_ rfl (zr_wide b201_ (by decide) (by decide))
              have f206_ : pvFr fp_eX10_sides_124_x M M203_ := pvfr_u e204_ f195_ rfl
              refine pw_blk hT 1 (S' := (27, [some (pvR 124), some (pvI n1), some (pvI (M.1 124 4)), some (pvI (M191_.1 124 4)), some (pvI x190_), some (pvI x190_)], [], M203_)) rfl ⟨trivial, trivial⟩ ?_
              exact ihz172_ (M191_.1 124 4) x190_ (some (pvI x190_)) M203_ o205_ f206_ (zr_wide b200_ (by decide) (by decide)) (zr_wide b192_ (by decide) (by decide)) (zhid (by have hm0 := zshow hmz172_; have z1 : Int32.toInt (M203_.1 124 4) = Int32.toInt ((M191_.1 124 4) + 1) := congrArg Int32.toInt (pvu_s e204_); have z2 : Int32.toInt (M191_.1 124 4) = Int32.toInt (Mz172_.1 124 4) := congrArg Int32.toInt ((g194_ 124 4 rfl).trans (g188_ 124 4 rfl)); omega))
            · have b207_ : 0 ≤ Int32.toInt i4z172_ ∧ Int32.toInt i4z172_ ≤ 2147483647 := zr_nlt_l 0 c196_ h4z172_ b192_ (by decide)
              have d208_ : Int32.toInt i4z172_ ≥ Int32.toInt x190_ := Int.not_lt.mp ((not_congr (zi_lt _ _)).mp c196_)
              have e209_ : (M191_.1 124 4) = (Mz172_.1 124 4) := ((g194_ 124 4 rfl).trans (g188_ 124 4 rfl))
              have b210_ : 0 ≤ Int32.toInt (M191_.1 124 4) ∧ Int32.toInt (M191_.1 124 4) ≤ 3 := (by rw [e209_]; exact b183_)
              obtain ⟨q212_, b211_⟩ : (Int32.toInt ((M191_.1 124 4) + 1) = Int32.toInt (M191_.1 124 4) + 1) ∧ (1 ≤ Int32.toInt ((M191_.1 124 4) + 1) ∧ Int32.toInt ((M191_.1 124 4) + 1) ≤ 4) := zadd_k (M191_.1 124 4) 1 1 1 4 b210_ (by decide) (by decide) (by decide) (by decide) (by decide)
              refine pw_blkw hT 7 (pc := 74) (lo := [some (pvR 124), some (pvI n1), some (pvI (M.1 124 4)), some (pvI i3z172_), some (pvI i4z172_), some (pvI x190_)]) (st := []) (M := pvu M191_ 124 4 ((M191_.1 124 4) + 1)) rfl ⟨trivial, trivial, trivial, rfl, trivial, trivial, rfl, trivial⟩ (fun M213_ e214_ => ?_)
              have o215_ : pvOk M213_ := pvok_u2 e214_ o193_ rfl (zr_wide b211_ (by decide) (by decide))
              have f216_ : pvFr fp_eX10_sides_124_x M M213_ := pvfr_u e214_ f195_ rfl
              refine pw_blk hT 1 (S' := (27, [some (pvR 124), some (pvI n1), some (pvI (M.1 124 4)), some (pvI i3z172_), some (pvI i4z172_), some (pvI x190_)], [], M213_)) rfl ⟨trivial, trivial⟩ ?_
              exact ihz172_ i3z172_ i4z172_ (some (pvI x190_)) M213_ o215_ f216_ h3z172_ (zr_wide b207_ (by decide) (by decide)) (zhid (by have hm0 := zshow hmz172_; have z1 : Int32.toInt (M213_.1 124 4) = Int32.toInt ((M191_.1 124 4) + 1) := congrArg Int32.toInt (pvu_s e214_); have z2 : Int32.toInt (M191_.1 124 4) = Int32.toInt (Mz172_.1 124 4) := congrArg Int32.toInt ((g194_ 124 4 rfl).trans (g188_ 124 4 rfl)); omega))
      exact hlz172_ _ 0 (-1) none M16_ o18_ f19_ (zr_wide (show 0 ≤ Int32.toInt 0 ∧ Int32.toInt 0 ≤ 0 from (by decide)) (by decide) (by decide)) (zr_wide (show (-1) ≤ Int32.toInt (-1) ∧ Int32.toInt (-1) ≤ (-1) from (by decide)) (by decide) (by decide)) (zhid (Nat.lt_succ_self _))
def fpL_eX10_storm_124_x_x : List (Nat × Nat × Nat) := [(0, 124, 4), (0, 124, 5)]
def fp_eX10_storm_124_x_x (q k : Nat) : Bool := pvfp fpL_eX10_storm_124_x_x q k
set_option maxHeartbeats 4000000 in
set_option maxRecDepth 10000 in
theorem se_X10_storm_124_x_x (M : pvM) (hok : pvOk M) (n1 : Int32) (n2 : Int32) (d : Nat) : PW 80 d (0, [some (pvR 124), some (pvI n1), some (pvI n2), none], [], M) (fun r X => (∃ x : Int32, r = some (pvI x) ∧ ((-2) ≤ Int32.toInt x ∧ Int32.toInt x ≤ 108) ∧ x = (if n2 < 0 then (-1) else (if 3 < n2 then (-1) else (if n1 < 0 then (-2) else (if 99 < n1 then (-2) else (M.1 124 3)))))) ∧ pvOk X ∧ pvFr fp_eX10_storm_124_x_x M X ∧ (Int32.toInt (X.1 124 3) ≤ 99 ∨ X.1 124 3 = M.1 124 3) ∧ X.1 124 3 = (if n2 < 0 then (M.1 124 3) else (if 3 < n2 then (M.1 124 3) else (if n1 < 0 then (M.1 124 3) else (if 99 < n1 then (M.1 124 3) else n1)))) ∧ X.1 124 4 = (if n2 < 0 then (M.1 124 4) else (if 3 < n2 then (M.1 124 4) else (if n1 < 0 then (M.1 124 4) else (if 99 < n1 then (M.1 124 4) else n2))))) := by
  have hT : pvdom 80 = pvD_80 := rfl
  refine pw_blk hT 4 (S' := (4, [some (pvR 124), some (pvI n1), some (pvI n2), none], [pvI 3, pvI 0, pvI n2, pvR 124], M)) rfl ⟨trivial, trivial, trivial, trivial, trivial⟩ ?_
  refine pw_callT hT (as := [pvR 124, pvI n2, pvI 0, pvI 3]) (lo1 := [some (pvR 124), some (pvI n2), some (pvI 0), some (pvI 3)]) (d1 := d) (rest := []) rfl rfl rfl rfl rfl (fun _ => rfl) (Nat.zero_le _) rfl rfl rfl (sf_X10_in_124_x_x_x M hok n2 0 3 d) ?_
  by_cases c6_ : n2 < 0
  · refine pw_eqI (if_pos c6_) ?_
    have b7_ : (-2147483648) ≤ Int32.toInt n2 ∧ Int32.toInt n2 ≤ (-1) := zr_lt_l (-1) c6_ (zbnd n2) (show 0 ≤ Int32.toInt 0 ∧ Int32.toInt 0 ≤ 0 from (by decide)) (by decide)
    show PW 80 d (7, [some (pvR 124), some (pvI n1), some (pvI n2), none], [pvI 0], M) _
    refine pw_ifn hT (c := 0 = 0) rfl rfl (fun c8_ => absurd (by decide) c8_) (fun c8_ => ?_)
    refine pw_blk hT 1 (S' := (11, [some (pvR 124), some (pvI n1), some (pvI n2), none], [pvI (-1)], M)) rfl ⟨trivial, trivial⟩ ?_
    exact pw_ret hT rfl (r := some (pvI (-1))) (M' := M) ⟨rfl, rfl⟩ ⟨⟨_, rfl, (zr_wide (show (-1) ≤ Int32.toInt (-1) ∧ Int32.toInt (-1) ≤ (-1) from (by decide)) (by decide) (by decide)), (by rw [if_pos c6_])⟩, hok, pvfr_0, (Or.inr rfl), (by rw [if_pos c6_]; exact rfl), (by rw [if_pos c6_]; exact rfl)⟩
  · refine pw_eqI (if_neg c6_) ?_
    have b9_ : 0 ≤ Int32.toInt n2 ∧ Int32.toInt n2 ≤ 2147483647 := zr_nlt_l 0 c6_ (zbnd n2) (show 0 ≤ Int32.toInt 0 ∧ Int32.toInt 0 ≤ 0 from (by decide)) (by decide)
    by_cases c10_ : 3 < n2
    · refine pw_eqI (if_pos c10_) ?_
      have b11_ : 4 ≤ Int32.toInt n2 ∧ Int32.toInt n2 ≤ 2147483647 := zr_lt_r 4 c10_ b9_ (show 3 ≤ Int32.toInt 3 ∧ Int32.toInt 3 ≤ 3 from (by decide)) (by decide)
      show PW 80 d (7, [some (pvR 124), some (pvI n1), some (pvI n2), none], [pvI 0], M) _
      refine pw_ifn hT (c := 0 = 0) rfl rfl (fun c12_ => absurd (by decide) c12_) (fun c12_ => ?_)
      refine pw_blk hT 1 (S' := (11, [some (pvR 124), some (pvI n1), some (pvI n2), none], [pvI (-1)], M)) rfl ⟨trivial, trivial⟩ ?_
      exact pw_ret hT rfl (r := some (pvI (-1))) (M' := M) ⟨rfl, rfl⟩ ⟨⟨_, rfl, (zr_wide (show (-1) ≤ Int32.toInt (-1) ∧ Int32.toInt (-1) ≤ (-1) from (by decide)) (by decide) (by decide)), (by rw [if_neg c6_, if_pos c10_])⟩, hok, pvfr_0, (Or.inr rfl), (by rw [if_neg c6_, if_pos c10_]; exact rfl), (by rw [if_neg c6_, if_pos c10_]; exact rfl)⟩
    · refine pw_eqI (if_neg c10_) ?_
      have b13_ : 0 ≤ Int32.toInt n2 ∧ Int32.toInt n2 ≤ 3 := zr_nlt_r 3 c10_ b9_ (show 3 ≤ Int32.toInt 3 ∧ Int32.toInt 3 ≤ 3 from (by decide)) (by decide)
      show PW 80 d (7, [some (pvR 124), some (pvI n1), some (pvI n2), none], [pvI 1], M) _
      refine pw_ifn hT (c := 1 = 0) rfl rfl (fun c14_ => ?_) (fun c14_ => absurd c14_ (by decide))
      refine pw_blk hT 4 (S' := (17, [some (pvR 124), some (pvI n1), some (pvI n2), none], [pvI 99, pvI 0, pvI n1, pvR 124], M)) rfl ⟨trivial, trivial, trivial, trivial, trivial⟩ ?_
      refine pw_callT hT (as := [pvR 124, pvI n1, pvI 0, pvI 99]) (lo1 := [some (pvR 124), some (pvI n1), some (pvI 0), some (pvI 99)]) (d1 := d) (rest := []) rfl rfl rfl rfl rfl (fun _ => rfl) (Nat.zero_le _) rfl rfl rfl (sf_X10_in_124_x_x_x M hok n1 0 99 d) ?_
      by_cases c20_ : n1 < 0
      · refine pw_eqI (if_pos c20_) ?_
        have b21_ : (-2147483648) ≤ Int32.toInt n1 ∧ Int32.toInt n1 ≤ (-1) := zr_lt_l (-1) c20_ (zbnd n1) (show 0 ≤ Int32.toInt 0 ∧ Int32.toInt 0 ≤ 0 from (by decide)) (by decide)
        show PW 80 d (20, [some (pvR 124), some (pvI n1), some (pvI n2), none], [pvI 0], M) _
        refine pw_ifn hT (c := 0 = 0) rfl rfl (fun c22_ => absurd (by decide) c22_) (fun c22_ => ?_)
        refine pw_blk hT 1 (S' := (25, [some (pvR 124), some (pvI n1), some (pvI n2), none], [pvI (-2)], M)) rfl ⟨trivial, trivial⟩ ?_
        exact pw_ret hT rfl (r := some (pvI (-2))) (M' := M) ⟨rfl, rfl⟩ ⟨⟨_, rfl, (zr_wide (show (-2) ≤ Int32.toInt (-2) ∧ Int32.toInt (-2) ≤ (-2) from (by decide)) (by decide) (by decide)), (by rw [if_neg c6_, if_neg c10_, if_pos c20_])⟩, hok, pvfr_0, (Or.inr rfl), (by rw [if_neg c6_, if_neg c10_, if_pos c20_]; exact rfl), (by rw [if_neg c6_, if_neg c10_, if_pos c20_]; exact rfl)⟩
      · refine pw_eqI (if_neg c20_) ?_
        have b23_ : 0 ≤ Int32.toInt n1 ∧ Int32.toInt n1 ≤ 2147483647 := zr_nlt_l 0 c20_ (zbnd n1) (show 0 ≤ Int32.toInt 0 ∧ Int32.toInt 0 ≤ 0 from (by decide)) (by decide)
        by_cases c24_ : 99 < n1
        · refine pw_eqI (if_pos c24_) ?_
          have b25_ : 100 ≤ Int32.toInt n1 ∧ Int32.toInt n1 ≤ 2147483647 := zr_lt_r 100 c24_ b23_ (show 99 ≤ Int32.toInt 99 ∧ Int32.toInt 99 ≤ 99 from (by decide)) (by decide)
          show PW 80 d (20, [some (pvR 124), some (pvI n1), some (pvI n2), none], [pvI 0], M) _
          refine pw_ifn hT (c := 0 = 0) rfl rfl (fun c26_ => absurd (by decide) c26_) (fun c26_ => ?_)
          refine pw_blk hT 1 (S' := (25, [some (pvR 124), some (pvI n1), some (pvI n2), none], [pvI (-2)], M)) rfl ⟨trivial, trivial⟩ ?_
          exact pw_ret hT rfl (r := some (pvI (-2))) (M' := M) ⟨rfl, rfl⟩ ⟨⟨_, rfl, (zr_wide (show (-2) ≤ Int32.toInt (-2) ∧ Int32.toInt (-2) ≤ (-2) from (by decide)) (by decide) (by decide)), (by rw [if_neg c6_, if_neg c10_, if_neg c20_, if_pos c24_])⟩, hok, pvfr_0, (Or.inr rfl), (by rw [if_neg c6_, if_neg c10_, if_neg c20_, if_pos c24_]; exact rfl), (by rw [if_neg c6_, if_neg c10_, if_neg c20_, if_pos c24_]; exact rfl)⟩
        · refine pw_eqI (if_neg c24_) ?_
          have b27_ : 0 ≤ Int32.toInt n1 ∧ Int32.toInt n1 ≤ 99 := zr_nlt_r 99 c24_ b23_ (show 99 ≤ Int32.toInt 99 ∧ Int32.toInt 99 ≤ 99 from (by decide)) (by decide)
          show PW 80 d (20, [some (pvR 124), some (pvI n1), some (pvI n2), none], [pvI 1], M) _
          refine pw_ifn hT (c := 1 = 0) rfl rfl (fun c28_ => ?_) (fun c28_ => absurd c28_ (by decide))
          have b29_ : 0 ≤ Int32.toInt (M.1 124 3) ∧ Int32.toInt (M.1 124 3) ≤ 108 := pvok_r hok 124 3 rfl
          refine pw_blkw hT 6 (pc := 36) (lo := [some (pvR 124), some (pvI n1), some (pvI n2), some (pvI (M.1 124 3))]) (st := []) (M := pvu M 124 3 n1) rfl ⟨trivial, rfl, trivial, trivial, trivial, rfl, trivial⟩ (fun M30_ e31_ => ?_)
          have o32_ : pvOk M30_ := pvok_u2 e31_ hok rfl (zr_wide b27_ (by decide) (by decide))
          have f33_ : pvFr fp_eX10_storm_124_x_x M M30_ := pvfr_u e31_ pvfr_0 rfl
          refine pw_blkw hT 3 (pc := 41) (lo := [some (pvR 124), some (pvI n1), some (pvI n2), some (pvI (M.1 124 3))]) (st := []) (M := pvu M30_ 124 4 n2) rfl ⟨trivial, trivial, rfl, trivial⟩ (fun M34_ e35_ => ?_)
          have o36_ : pvOk M34_ := pvok_u2 e35_ o32_ rfl (zr_wide b13_ (by decide) (by decide))
          have f37_ : pvFr fp_eX10_storm_124_x_x M M34_ := pvfr_u e35_ f33_ rfl
          refine pw_blk hT 1 (S' := (42, [some (pvR 124), some (pvI n1), some (pvI n2), some (pvI (M.1 124 3))], [pvI (M.1 124 3)], M34_)) rfl ⟨trivial, trivial⟩ ?_
          exact pw_ret hT rfl (r := some (pvI (M.1 124 3))) (M' := M34_) ⟨rfl, rfl⟩ ⟨⟨_, rfl, (zr_wide b29_ (by decide) (by decide)), (by rw [if_neg c6_, if_neg c10_, if_neg c20_, if_neg c24_])⟩, o36_, f37_, (Or.inl (by have w0 : Int32.toInt (M34_.1 124 3) = Int32.toInt (M30_.1 124 3) := congrArg Int32.toInt (pvu_n e35_ 124 3 (Or.inr (by decide))); have w1 : Int32.toInt (M30_.1 124 3) = Int32.toInt n1 := congrArg Int32.toInt (pvu_s e31_); omega)), (by rw [if_neg c6_, if_neg c10_, if_neg c20_, if_neg c24_]; exact ((pvu_n e35_ 124 3 (Or.inr (by decide))).trans (pvu_s e31_))), (by rw [if_neg c6_, if_neg c10_, if_neg c20_, if_neg c24_]; exact (pvu_s e35_))⟩
def fpL_eX10_tape_124_x_x_x : List (Nat × Nat × Nat) := [(0, 164, 0), (0, 165, 0)]
def fp_eX10_tape_124_x_x_x (q k : Nat) : Bool := pvfp fpL_eX10_tape_124_x_x_x q k
set_option maxHeartbeats 4000000 in
set_option maxRecDepth 10000 in
theorem se_X10_tape_124_x_x_x (M : pvM) (hok : pvOk M) (n1 : Int32) (n2 : Int32) (n3 : Int32) (d : Nat) : PW 89 d (0, [some (pvR 124), some (pvI n1), some (pvI n2), some (pvI n3), none], [], M) (fun r X => (∃ x : Int32, r = some (pvI x) ∧ ((-14) ≤ Int32.toInt x ∧ Int32.toInt x ≤ 1) ∧ x = (if n1 < 0 then (-1) else (if 5 < n1 then (-1) else (if n2 < (-1) then (-2) else (if 4 < n2 then (-2) else (if n2 < 0 then 1 else (if n3 ≤ 60 then (if 0 ≤ n3 then 1 else (-14)) else (-2)))))))) ∧ pvOk X ∧ pvFr fp_eX10_tape_124_x_x_x M X) := by
  have hT : pvdom 89 = pvD_89 := rfl
  refine pw_blk hT 2 (S' := (2, [some (pvR 124), some (pvI n1), some (pvI n2), some (pvI n3), none], [pvI n1, pvR 124], M)) rfl ⟨trivial, trivial, trivial⟩ ?_
  refine pw_callT hT (as := [pvR 124, pvI n1]) (lo1 := [some (pvR 124), some (pvI n1)]) (d1 := d) (rest := []) rfl rfl rfl rfl rfl (fun _ => rfl) (Nat.zero_le _) rfl rfl rfl (sf_X10_isTape_124_x M hok n1 d) ?_
  by_cases c6_ : n1 < 0
  · refine pw_eqI (if_pos c6_) ?_
    have b7_ : (-2147483648) ≤ Int32.toInt n1 ∧ Int32.toInt n1 ≤ (-1) := zr_lt_l (-1) c6_ (zbnd n1) (show 0 ≤ Int32.toInt 0 ∧ Int32.toInt 0 ≤ 0 from (by decide)) (by decide)
    show PW 89 d (5, [some (pvR 124), some (pvI n1), some (pvI n2), some (pvI n3), none], [pvI 0], M) _
    refine pw_ifn hT (c := 0 = 0) rfl rfl (fun c8_ => absurd (by decide) c8_) (fun c8_ => ?_)
    refine pw_blk hT 1 (S' := (9, [some (pvR 124), some (pvI n1), some (pvI n2), some (pvI n3), none], [pvI (-1)], M)) rfl ⟨trivial, trivial⟩ ?_
    exact pw_ret hT rfl (r := some (pvI (-1))) (M' := M) ⟨rfl, rfl⟩ ⟨⟨_, rfl, (zr_wide (show (-1) ≤ Int32.toInt (-1) ∧ Int32.toInt (-1) ≤ (-1) from (by decide)) (by decide) (by decide)), (by rw [if_pos c6_])⟩, hok, pvfr_0⟩
  · refine pw_eqI (if_neg c6_) ?_
    have b9_ : 0 ≤ Int32.toInt n1 ∧ Int32.toInt n1 ≤ 2147483647 := zr_nlt_l 0 c6_ (zbnd n1) (show 0 ≤ Int32.toInt 0 ∧ Int32.toInt 0 ≤ 0 from (by decide)) (by decide)
    by_cases c10_ : 5 < n1
    · refine pw_eqI (if_pos c10_) ?_
      have b11_ : 6 ≤ Int32.toInt n1 ∧ Int32.toInt n1 ≤ 2147483647 := zr_lt_r 6 c10_ b9_ (show 5 ≤ Int32.toInt 5 ∧ Int32.toInt 5 ≤ 5 from (by decide)) (by decide)
      show PW 89 d (5, [some (pvR 124), some (pvI n1), some (pvI n2), some (pvI n3), none], [pvI 0], M) _
      refine pw_ifn hT (c := 0 = 0) rfl rfl (fun c12_ => absurd (by decide) c12_) (fun c12_ => ?_)
      refine pw_blk hT 1 (S' := (9, [some (pvR 124), some (pvI n1), some (pvI n2), some (pvI n3), none], [pvI (-1)], M)) rfl ⟨trivial, trivial⟩ ?_
      exact pw_ret hT rfl (r := some (pvI (-1))) (M' := M) ⟨rfl, rfl⟩ ⟨⟨_, rfl, (zr_wide (show (-1) ≤ Int32.toInt (-1) ∧ Int32.toInt (-1) ≤ (-1) from (by decide)) (by decide) (by decide)), (by rw [if_neg c6_, if_pos c10_])⟩, hok, pvfr_0⟩
    · refine pw_eqI (if_neg c10_) ?_
      have b13_ : 0 ≤ Int32.toInt n1 ∧ Int32.toInt n1 ≤ 5 := zr_nlt_r 5 c10_ b9_ (show 5 ≤ Int32.toInt 5 ∧ Int32.toInt 5 ≤ 5 from (by decide)) (by decide)
      show PW 89 d (5, [some (pvR 124), some (pvI n1), some (pvI n2), some (pvI n3), none], [pvI 1], M) _
      refine pw_ifn hT (c := 1 = 0) rfl rfl (fun c14_ => ?_) (fun c14_ => absurd c14_ (by decide))
      refine pw_blk hT 4 (S' := (14, [some (pvR 124), some (pvI n1), some (pvI n2), some (pvI n3), none], [pvI 4, pvI (-1), pvI n2, pvR 124], M)) rfl ⟨trivial, trivial, trivial, trivial, trivial⟩ ?_
      refine pw_callT hT (as := [pvR 124, pvI n2, pvI (-1), pvI 4]) (lo1 := [some (pvR 124), some (pvI n2), some (pvI (-1)), some (pvI 4)]) (d1 := d) (rest := []) rfl rfl rfl rfl rfl (fun _ => rfl) (Nat.zero_le _) rfl rfl rfl (sf_X10_in_124_x_x_x M hok n2 (-1) 4 d) ?_
      by_cases c20_ : n2 < (-1)
      · refine pw_eqI (if_pos c20_) ?_
        have b21_ : (-2147483648) ≤ Int32.toInt n2 ∧ Int32.toInt n2 ≤ (-2) := zr_lt_l (-2) c20_ (zbnd n2) (show (-1) ≤ Int32.toInt (-1) ∧ Int32.toInt (-1) ≤ (-1) from (by decide)) (by decide)
        show PW 89 d (17, [some (pvR 124), some (pvI n1), some (pvI n2), some (pvI n3), none], [pvI 0], M) _
        refine pw_if hT (c := 0 = 0) rfl rfl (fun c22_ => ?_) (fun c22_ => absurd (by decide) c22_)
        refine pw_blk hT 1 (S' := (32, [some (pvR 124), some (pvI n1), some (pvI n2), some (pvI n3), none], [pvI (-2)], M)) rfl ⟨trivial, trivial⟩ ?_
        exact pw_ret hT rfl (r := some (pvI (-2))) (M' := M) ⟨rfl, rfl⟩ ⟨⟨_, rfl, (zr_wide (show (-2) ≤ Int32.toInt (-2) ∧ Int32.toInt (-2) ≤ (-2) from (by decide)) (by decide) (by decide)), (by rw [if_neg c6_, if_neg c10_, if_pos c20_])⟩, hok, pvfr_0⟩
      · refine pw_eqI (if_neg c20_) ?_
        have b23_ : (-1) ≤ Int32.toInt n2 ∧ Int32.toInt n2 ≤ 2147483647 := zr_nlt_l (-1) c20_ (zbnd n2) (show (-1) ≤ Int32.toInt (-1) ∧ Int32.toInt (-1) ≤ (-1) from (by decide)) (by decide)
        by_cases c24_ : 4 < n2
        · refine pw_eqI (if_pos c24_) ?_
          have b25_ : 5 ≤ Int32.toInt n2 ∧ Int32.toInt n2 ≤ 2147483647 := zr_lt_r 5 c24_ b23_ (show 4 ≤ Int32.toInt 4 ∧ Int32.toInt 4 ≤ 4 from (by decide)) (by decide)
          show PW 89 d (17, [some (pvR 124), some (pvI n1), some (pvI n2), some (pvI n3), none], [pvI 0], M) _
          refine pw_if hT (c := 0 = 0) rfl rfl (fun c26_ => ?_) (fun c26_ => absurd (by decide) c26_)
          refine pw_blk hT 1 (S' := (32, [some (pvR 124), some (pvI n1), some (pvI n2), some (pvI n3), none], [pvI (-2)], M)) rfl ⟨trivial, trivial⟩ ?_
          exact pw_ret hT rfl (r := some (pvI (-2))) (M' := M) ⟨rfl, rfl⟩ ⟨⟨_, rfl, (zr_wide (show (-2) ≤ Int32.toInt (-2) ∧ Int32.toInt (-2) ≤ (-2) from (by decide)) (by decide) (by decide)), (by rw [if_neg c6_, if_neg c10_, if_neg c20_, if_pos c24_])⟩, hok, pvfr_0⟩
        · refine pw_eqI (if_neg c24_) ?_
          have b27_ : (-1) ≤ Int32.toInt n2 ∧ Int32.toInt n2 ≤ 4 := zr_nlt_r 4 c24_ b23_ (show 4 ≤ Int32.toInt 4 ∧ Int32.toInt 4 ≤ 4 from (by decide)) (by decide)
          show PW 89 d (17, [some (pvR 124), some (pvI n1), some (pvI n2), some (pvI n3), none], [pvI 1], M) _
          refine pw_if hT (c := 1 = 0) rfl rfl (fun c28_ => absurd c28_ (by decide)) (fun c28_ => ?_)
          refine pw_blk hT 1 (S' := (21, [some (pvR 124), some (pvI n1), some (pvI n2), some (pvI n3), none], [pvI n2], M)) rfl ⟨trivial, trivial⟩ ?_
          refine pw_if hT (c := n2 < 0) rfl rfl (fun c29_ => ?_) (fun c29_ => ?_)
          · have b30_ : (-1) ≤ Int32.toInt n2 ∧ Int32.toInt n2 ≤ (-1) := zr_lt_l (-1) c29_ b27_ (show 0 ≤ Int32.toInt 0 ∧ Int32.toInt 0 ≤ 0 from (by decide)) (by decide)
            refine pw_blk hT 1 (S' := (34, [some (pvR 124), some (pvI n1), some (pvI n2), some (pvI n3), none], [pvI n2], M)) rfl ⟨trivial, trivial⟩ ?_
            refine pw_if hT (c := n2 < 0) rfl rfl (fun c31_ => ?_) (fun c31_ => absurd c29_ c31_)
            refine pw_blkw hT 5 (pc := 51) (lo := [some (pvR 124), some (pvI n1), some (pvI n2), some (pvI n3), none]) (st := []) (M := pvu M 164 (Int32.toNatClampNeg n1) n2) rfl ⟨trivial, rfl, trivial, trivial, ⟨rfl, (zr_in (n := 6) b13_ (by decide) (by decide))⟩, trivial⟩ (fun M32_ e33_ => ?_)
            have o34_ : pvOk M32_ := pvok_u2 e33_ hok rfl (zr_wide b30_ (by decide) (by decide))
            have f35_ : pvFr fp_eX10_tape_124_x_x_x M M32_ := pvfr_u e33_ pvfr_0 rfl
            refine pw_blk hT 4 (S' := (57, [some (pvR 124), some (pvI n1), some (pvI n2), some (pvI n3), none], [pvI n2, pvI n1, pvR 165], M32_)) rfl ⟨trivial, rfl, trivial, trivial, trivial⟩ ?_
            refine pw_if hT (c := 0 ≤ n2) rfl rfl (fun c36_ => absurd c36_ (by have z0 := (show 0 ≤ Int32.toInt 0 ∧ Int32.toInt 0 ≤ 0 from (by decide)); have z1 := b30_; rw [zi_le]; omega)) (fun c36_ => ?_)
            refine pw_blkw hT 3 (pc := 66) (lo := [some (pvR 124), some (pvI n1), some (pvI n2), some (pvI n3), none]) (st := []) (M := pvu M32_ 165 (Int32.toNatClampNeg n1) 0) rfl ⟨trivial, trivial, ⟨rfl, (zr_in (n := 6) b13_ (by decide) (by decide))⟩, trivial⟩ (fun M37_ e38_ => ?_)
            have o39_ : pvOk M37_ := pvok_u2 e38_ o34_ rfl (zr_wide (show 0 ≤ Int32.toInt 0 ∧ Int32.toInt 0 ≤ 0 from (by decide)) (by decide) (by decide))
            have f40_ : pvFr fp_eX10_tape_124_x_x_x M M37_ := pvfr_u e38_ f35_ rfl
            refine pw_blk hT 2 (S' := (69, [some (pvR 124), some (pvI n1), some (pvI n2), some (pvI n3), some (pvI 0)], [], M37_)) rfl ⟨trivial, trivial, trivial⟩ ?_
            have hlz95_ : ∀ (nz95_ : Nat) (i4z95_ : Int32) (Mz95_ : pvM), (pvOk Mz95_) → (pvFr fp_eX10_tape_124_x_x_x M Mz95_) → (0 ≤ Int32.toInt i4z95_ ∧ Int32.toInt i4z95_ ≤ 60) → (zhide ((61 - Int32.toInt i4z95_).toNat < nz95_)) → PW 89 d (69, [some (pvR 124), some (pvI n1), some (pvI n2), some (pvI n3), some (pvI i4z95_)], [], Mz95_) (fun r X => (∃ x : Int32, r = some (pvI x) ∧ ((-14) ≤ Int32.toInt x ∧ Int32.toInt x ≤ 1) ∧ x = (if n1 < 0 then (-1) else (if 5 < n1 then (-1) else (if n2 < (-1) then (-2) else (if 4 < n2 then (-2) else (if n2 < 0 then 1 else (if n3 ≤ 60 then (if 0 ≤ n3 then 1 else (-14)) else (-2)))))))) ∧ pvOk X ∧ pvFr fp_eX10_tape_124_x_x_x M X) := by
              intro nz95_
              induction nz95_ with
              | zero => intro i4z95_ Mz95_ oz95_ fz95_ h4z95_ hmz95_; exact absurd (zshow hmz95_) (Nat.not_lt_zero _)
              | succ nz95_ ihz95_ =>
                intro i4z95_ Mz95_ oz95_ fz95_ h4z95_ hmz95_
                refine pw_blk hT 2 (S' := (73, [some (pvR 124), some (pvI n1), some (pvI n2), some (pvI n3), some (pvI i4z95_)], [pvI 60, pvI i4z95_], Mz95_)) rfl ⟨trivial, trivial, trivial⟩ ?_
                refine pw_ic hT (c := 60 ≤ i4z95_) rfl rfl (fun c96_ => ?_) (fun c96_ => ?_)
                · have b97_ : 60 ≤ Int32.toInt i4z95_ ∧ Int32.toInt i4z95_ ≤ 60 := zr_le_r 60 c96_ h4z95_ (show 60 ≤ Int32.toInt 60 ∧ Int32.toInt 60 ≤ 60 from (by decide)) (by decide)
                  refine pw_blk hT 1 (S' := (96, [some (pvR 124), some (pvI n1), some (pvI n2), some (pvI n3), some (pvI i4z95_)], [pvI 1], Mz95_)) rfl ⟨trivial, trivial⟩ ?_
                  exact pw_ret hT rfl (r := some (pvI 1)) (M' := Mz95_) ⟨rfl, rfl⟩ ⟨⟨_, rfl, (zr_wide (show 1 ≤ Int32.toInt 1 ∧ Int32.toInt 1 ≤ 1 from (by decide)) (by decide) (by decide)), (by rw [if_neg c6_, if_neg c10_, if_neg c20_, if_neg c24_, if_pos c29_])⟩, oz95_, fz95_⟩
                · have b98_ : 0 ≤ Int32.toInt i4z95_ ∧ Int32.toInt i4z95_ ≤ 59 := zr_nle_r 59 c96_ h4z95_ (show 60 ≤ Int32.toInt 60 ∧ Int32.toInt 60 ≤ 60 from (by decide)) (by decide)
                  have q99_ : Int32.toInt (60 * n1) = 60 * Int32.toInt n1 := by have u0 : Int32.toInt 60 = 60 := (by decide); have u1 := b13_; have u2 := zmul 60 n1 (by rw [u0]; omega) (by rw [u0]; omega); rw [u0] at u2; omega
                  have b100_ : 0 ≤ Int32.toInt (60 * n1) ∧ Int32.toInt (60 * n1) ≤ 300 := (by have u1 := b13_; omega)
                  obtain ⟨q102_, b101_⟩ : (Int32.toInt ((60 * n1) + i4z95_) = Int32.toInt (60 * n1) + Int32.toInt i4z95_) ∧ (0 ≤ Int32.toInt ((60 * n1) + i4z95_) ∧ Int32.toInt ((60 * n1) + i4z95_) ≤ 359) := zadd_r (60 * n1) i4z95_ 0 359 b100_ b98_ (by decide) (by decide) (by decide) (by decide)
                  refine pw_blkw hT 9 (pc := 89) (lo := [some (pvR 124), some (pvI n1), some (pvI n2), some (pvI n3), some (pvI i4z95_)]) (st := []) (M := pvw Mz95_ 166 (Int32.toNatClampNeg ((60 * n1) + i4z95_)) 0) rfl ⟨trivial, rfl, trivial, trivial, trivial, trivial, trivial, trivial, ⟨rfl, (zr_in (n := 360) b101_ (by decide) (by decide))⟩, trivial⟩ (fun M103_ e104_ => ?_)
                  have o105_ : pvOk M103_ := pvok_w e104_ oz95_
                  have f106_ : pvFr fp_eX10_tape_124_x_x_x M M103_ := pvfr_w e104_ fz95_
                  obtain ⟨q108_, b107_⟩ : (Int32.toInt (i4z95_ + 1) = Int32.toInt i4z95_ + 1) ∧ (1 ≤ Int32.toInt (i4z95_ + 1) ∧ Int32.toInt (i4z95_ + 1) ≤ 60) := zadd_k i4z95_ 1 1 1 60 b98_ (by decide) (by decide) (by decide) (by decide) (by decide)
                  refine pw_blk hT 2 (S' := (69, [some (pvR 124), some (pvI n1), some (pvI n2), some (pvI n3), some (pvI (i4z95_ + 1))], [], M103_)) rfl ⟨trivial, trivial, trivial⟩ ?_
                  exact ihz95_ (i4z95_ + 1) M103_ o105_ f106_ (zr_wide b107_ (by decide) (by decide)) (zhid (pvms_up (zshow hmz95_) h4z95_ q108_ (by decide) (by decide)))
            exact hlz95_ _ 0 M37_ o39_ f40_ (zr_wide (show 0 ≤ Int32.toInt 0 ∧ Int32.toInt 0 ≤ 0 from (by decide)) (by decide) (by decide)) (zhid (Nat.lt_succ_self _))
          · have b109_ : 0 ≤ Int32.toInt n2 ∧ Int32.toInt n2 ≤ 4 := zr_nlt_l 0 c29_ b27_ (show 0 ≤ Int32.toInt 0 ∧ Int32.toInt 0 ≤ 0 from (by decide)) (by decide)
            refine pw_blk hT 2 (S' := (27, [some (pvR 124), some (pvI n1), some (pvI n2), some (pvI n3), none], [pvI 60, pvI n3], M)) rfl ⟨trivial, trivial, trivial⟩ ?_
            refine pw_ic hT (c := n3 ≤ 60) rfl rfl (fun c110_ => ?_) (fun c110_ => ?_)
            · have b111_ : (-2147483648) ≤ Int32.toInt n3 ∧ Int32.toInt n3 ≤ 60 := zr_le_l 60 c110_ (zbnd n3) (show 60 ≤ Int32.toInt 60 ∧ Int32.toInt 60 ≤ 60 from (by decide)) (by decide)
              refine pw_blk hT 1 (S' := (34, [some (pvR 124), some (pvI n1), some (pvI n2), some (pvI n3), none], [pvI n2], M)) rfl ⟨trivial, trivial⟩ ?_
              refine pw_if hT (c := n2 < 0) rfl rfl (fun c112_ => absurd c112_ c29_) (fun c112_ => ?_)
              refine pw_blk hT 1 (S' := (38, [some (pvR 124), some (pvI n1), some (pvI n2), some (pvI n3), none], [pvI n3], M)) rfl ⟨trivial, trivial⟩ ?_
              refine pw_if hT (c := 0 ≤ n3) rfl rfl (fun c113_ => ?_) (fun c113_ => ?_)
              · have b114_ : 0 ≤ Int32.toInt n3 ∧ Int32.toInt n3 ≤ 60 := zr_le_r 0 c113_ b111_ (show 0 ≤ Int32.toInt 0 ∧ Int32.toInt 0 ≤ 0 from (by decide)) (by decide)
                refine pw_blkw hT 5 (pc := 51) (lo := [some (pvR 124), some (pvI n1), some (pvI n2), some (pvI n3), none]) (st := []) (M := pvu M 164 (Int32.toNatClampNeg n1) n2) rfl ⟨trivial, rfl, trivial, trivial, ⟨rfl, (zr_in (n := 6) b13_ (by decide) (by decide))⟩, trivial⟩ (fun M115_ e116_ => ?_)
                have o117_ : pvOk M115_ := pvok_u2 e116_ hok rfl (zr_wide b109_ (by decide) (by decide))
                have f118_ : pvFr fp_eX10_tape_124_x_x_x M M115_ := pvfr_u e116_ pvfr_0 rfl
                refine pw_blk hT 4 (S' := (57, [some (pvR 124), some (pvI n1), some (pvI n2), some (pvI n3), none], [pvI n2, pvI n1, pvR 165], M115_)) rfl ⟨trivial, rfl, trivial, trivial, trivial⟩ ?_
                refine pw_if hT (c := 0 ≤ n2) rfl rfl (fun c119_ => ?_) (fun c119_ => absurd (by have z0 := (show 0 ≤ Int32.toInt 0 ∧ Int32.toInt 0 ≤ 0 from (by decide)); have z1 := b109_; rw [zi_le]; omega) c119_)
                refine pw_blkw hT 2 (pc := 66) (lo := [some (pvR 124), some (pvI n1), some (pvI n2), some (pvI n3), none]) (st := []) (M := pvu M115_ 165 (Int32.toNatClampNeg n1) n3) rfl ⟨trivial, ⟨rfl, (zr_in (n := 6) b13_ (by decide) (by decide))⟩, trivial⟩ (fun M120_ e121_ => ?_)
                have o122_ : pvOk M120_ := pvok_u2 e121_ o117_ rfl b114_
                have f123_ : pvFr fp_eX10_tape_124_x_x_x M M120_ := pvfr_u e121_ f118_ rfl
                refine pw_blk hT 2 (S' := (69, [some (pvR 124), some (pvI n1), some (pvI n2), some (pvI n3), some (pvI 0)], [], M120_)) rfl ⟨trivial, trivial, trivial⟩ ?_
                have hlz178_ : ∀ (nz178_ : Nat) (i4z178_ : Int32) (Mz178_ : pvM), (pvOk Mz178_) → (pvFr fp_eX10_tape_124_x_x_x M Mz178_) → (0 ≤ Int32.toInt i4z178_ ∧ Int32.toInt i4z178_ ≤ 60) → (zhide ((61 - Int32.toInt i4z178_).toNat < nz178_)) → PW 89 d (69, [some (pvR 124), some (pvI n1), some (pvI n2), some (pvI n3), some (pvI i4z178_)], [], Mz178_) (fun r X => (∃ x : Int32, r = some (pvI x) ∧ ((-14) ≤ Int32.toInt x ∧ Int32.toInt x ≤ 1) ∧ x = (if n1 < 0 then (-1) else (if 5 < n1 then (-1) else (if n2 < (-1) then (-2) else (if 4 < n2 then (-2) else (if n2 < 0 then 1 else (if n3 ≤ 60 then (if 0 ≤ n3 then 1 else (-14)) else (-2)))))))) ∧ pvOk X ∧ pvFr fp_eX10_tape_124_x_x_x M X) := by
                  intro nz178_
                  induction nz178_ with
                  | zero => intro i4z178_ Mz178_ oz178_ fz178_ h4z178_ hmz178_; exact absurd (zshow hmz178_) (Nat.not_lt_zero _)
                  | succ nz178_ ihz178_ =>
                    intro i4z178_ Mz178_ oz178_ fz178_ h4z178_ hmz178_
                    refine pw_blk hT 2 (S' := (73, [some (pvR 124), some (pvI n1), some (pvI n2), some (pvI n3), some (pvI i4z178_)], [pvI 60, pvI i4z178_], Mz178_)) rfl ⟨trivial, trivial, trivial⟩ ?_
                    refine pw_ic hT (c := 60 ≤ i4z178_) rfl rfl (fun c179_ => ?_) (fun c179_ => ?_)
                    · have b180_ : 60 ≤ Int32.toInt i4z178_ ∧ Int32.toInt i4z178_ ≤ 60 := zr_le_r 60 c179_ h4z178_ (show 60 ≤ Int32.toInt 60 ∧ Int32.toInt 60 ≤ 60 from (by decide)) (by decide)
                      refine pw_blk hT 1 (S' := (96, [some (pvR 124), some (pvI n1), some (pvI n2), some (pvI n3), some (pvI i4z178_)], [pvI 1], Mz178_)) rfl ⟨trivial, trivial⟩ ?_
                      exact pw_ret hT rfl (r := some (pvI 1)) (M' := Mz178_) ⟨rfl, rfl⟩ ⟨⟨_, rfl, (zr_wide (show 1 ≤ Int32.toInt 1 ∧ Int32.toInt 1 ≤ 1 from (by decide)) (by decide) (by decide)), (by rw [if_neg c6_, if_neg c10_, if_neg c20_, if_neg c24_, if_neg c29_, if_pos c110_, if_pos c113_])⟩, oz178_, fz178_⟩
                    · have b181_ : 0 ≤ Int32.toInt i4z178_ ∧ Int32.toInt i4z178_ ≤ 59 := zr_nle_r 59 c179_ h4z178_ (show 60 ≤ Int32.toInt 60 ∧ Int32.toInt 60 ≤ 60 from (by decide)) (by decide)
                      have q182_ : Int32.toInt (60 * n1) = 60 * Int32.toInt n1 := by have u0 : Int32.toInt 60 = 60 := (by decide); have u1 := b13_; have u2 := zmul 60 n1 (by rw [u0]; omega) (by rw [u0]; omega); rw [u0] at u2; omega
                      have b183_ : 0 ≤ Int32.toInt (60 * n1) ∧ Int32.toInt (60 * n1) ≤ 300 := (by have u1 := b13_; omega)
                      obtain ⟨q185_, b184_⟩ : (Int32.toInt ((60 * n1) + i4z178_) = Int32.toInt (60 * n1) + Int32.toInt i4z178_) ∧ (0 ≤ Int32.toInt ((60 * n1) + i4z178_) ∧ Int32.toInt ((60 * n1) + i4z178_) ≤ 359) := zadd_r (60 * n1) i4z178_ 0 359 b183_ b181_ (by decide) (by decide) (by decide) (by decide)
                      refine pw_blkw hT 9 (pc := 89) (lo := [some (pvR 124), some (pvI n1), some (pvI n2), some (pvI n3), some (pvI i4z178_)]) (st := []) (M := pvw Mz178_ 166 (Int32.toNatClampNeg ((60 * n1) + i4z178_)) 0) rfl ⟨trivial, rfl, trivial, trivial, trivial, trivial, trivial, trivial, ⟨rfl, (zr_in (n := 360) b184_ (by decide) (by decide))⟩, trivial⟩ (fun M186_ e187_ => ?_)
                      have o188_ : pvOk M186_ := pvok_w e187_ oz178_
                      have f189_ : pvFr fp_eX10_tape_124_x_x_x M M186_ := pvfr_w e187_ fz178_
                      obtain ⟨q191_, b190_⟩ : (Int32.toInt (i4z178_ + 1) = Int32.toInt i4z178_ + 1) ∧ (1 ≤ Int32.toInt (i4z178_ + 1) ∧ Int32.toInt (i4z178_ + 1) ≤ 60) := zadd_k i4z178_ 1 1 1 60 b181_ (by decide) (by decide) (by decide) (by decide) (by decide)
                      refine pw_blk hT 2 (S' := (69, [some (pvR 124), some (pvI n1), some (pvI n2), some (pvI n3), some (pvI (i4z178_ + 1))], [], M186_)) rfl ⟨trivial, trivial, trivial⟩ ?_
                      exact ihz178_ (i4z178_ + 1) M186_ o188_ f189_ (zr_wide b190_ (by decide) (by decide)) (zhid (pvms_up (zshow hmz178_) h4z178_ q191_ (by decide) (by decide)))
                exact hlz178_ _ 0 M120_ o122_ f123_ (zr_wide (show 0 ≤ Int32.toInt 0 ∧ Int32.toInt 0 ≤ 0 from (by decide)) (by decide) (by decide)) (zhid (Nat.lt_succ_self _))
              · have b192_ : (-2147483648) ≤ Int32.toInt n3 ∧ Int32.toInt n3 ≤ (-1) := zr_nle_r (-1) c113_ b111_ (show 0 ≤ Int32.toInt 0 ∧ Int32.toInt 0 ≤ 0 from (by decide)) (by decide)
                refine pw_blk hT 1 (S' := (43, [some (pvR 124), some (pvI n1), some (pvI n2), some (pvI n3), none], [pvI (-14)], M)) rfl ⟨trivial, trivial⟩ ?_
                exact pw_ret hT rfl (r := some (pvI (-14))) (M' := M) ⟨rfl, rfl⟩ ⟨⟨_, rfl, (zr_wide (show (-14) ≤ Int32.toInt (-14) ∧ Int32.toInt (-14) ≤ (-14) from (by decide)) (by decide) (by decide)), (by rw [if_neg c6_, if_neg c10_, if_neg c20_, if_neg c24_, if_neg c29_, if_pos c110_, if_neg c113_])⟩, hok, pvfr_0⟩
            · have b193_ : 61 ≤ Int32.toInt n3 ∧ Int32.toInt n3 ≤ 2147483647 := zr_nle_l 61 c110_ (zbnd n3) (show 60 ≤ Int32.toInt 60 ∧ Int32.toInt 60 ≤ 60 from (by decide)) (by decide)
              refine pw_blk hT 1 (S' := (32, [some (pvR 124), some (pvI n1), some (pvI n2), some (pvI n3), none], [pvI (-2)], M)) rfl ⟨trivial, trivial⟩ ?_
              exact pw_ret hT rfl (r := some (pvI (-2))) (M' := M) ⟨rfl, rfl⟩ ⟨⟨_, rfl, (zr_wide (show (-2) ≤ Int32.toInt (-2) ∧ Int32.toInt (-2) ≤ (-2) from (by decide)) (by decide) (by decide)), (by rw [if_neg c6_, if_neg c10_, if_neg c20_, if_neg c24_, if_neg c29_, if_neg c110_])⟩, hok, pvfr_0⟩
def fpL_eX10_undo_124 : List (Nat × Nat × Nat) := [(0, 124, 1), (0, 124, 2), (0, 124, 16), (0, 124, 3), (0, 124, 4), (0, 124, 38), (0, 124, 5), (0, 124, 41), (0, 124, 44), (0, 124, 6), (0, 124, 7), (0, 125, 0), (0, 126, 0), (0, 127, 0), (0, 128, 0), (0, 129, 0), (0, 130, 0), (0, 131, 0), (0, 145, 0), (0, 147, 0), (0, 148, 0), (0, 149, 0), (0, 150, 0)]
def fp_eX10_undo_124 (q k : Nat) : Bool := pvfp fpL_eX10_undo_124 q k
set_option maxHeartbeats 4000000 in
set_option maxRecDepth 10000 in
theorem se_X10_undo_124 (M : pvM) (hok : pvOk M) (d : Nat) : PW 94 d (0, [some (pvR 124), none], [], M) (fun r X => (∃ x : Int32, r = some (pvI x) ∧ ((-3) ≤ Int32.toInt x ∧ Int32.toInt x ≤ 7) ∧ x = (if (M.1 124 46) = 0 then (-3) else (M.1 124 48))) ∧ pvOk X ∧ pvFr fp_eX10_undo_124 M X ∧ (pvWF M → pvWF X) ∧ (Int32.toInt (M.1 124 51) ≤ 99 → Int32.toInt (M.1 124 3) ≤ 99 → Int32.toInt (X.1 124 3) ≤ 99) ∧ X.1 124 0 = (if (M.1 124 46) = 0 then (M.1 124 0) else (M.1 124 48)) ∧ X.1 124 3 = (if (M.1 124 46) = 0 then (M.1 124 3) else (M.1 124 51)) ∧ X.1 124 4 = (if (M.1 124 46) = 0 then (M.1 124 4) else (M.1 124 52)) ∧ X.1 124 40 = (if (M.1 124 46) = 0 then (M.1 124 40) else (M.1 124 56)) ∧ X.1 124 43 = (if (M.1 124 46) = 0 then (M.1 124 43) else (M.1 124 57))) := by
  have hT : pvdom 94 = pvD_94 := rfl
  have b1_ : 0 ≤ Int32.toInt (M.1 124 46) ∧ Int32.toInt (M.1 124 46) ≤ 1 := pvok_r hok 124 46 rfl
  refine pw_blk hT 2 (S' := (4, [some (pvR 124), none], [pvI (M.1 124 46)], M)) rfl ⟨trivial, rfl, trivial⟩ ?_
  refine pw_ifn hT (c := (M.1 124 46) = 0) rfl rfl (fun c2_ => ?_) (fun c2_ => ?_)
  · have b3_ : 1 ≤ Int32.toInt (M.1 124 46) ∧ Int32.toInt (M.1 124 46) ≤ 1 := (by have u0 := b1_; have u1 := (not_congr (zi_eq _ _)).mp c2_; have u2 := (show 0 ≤ Int32.toInt 0 ∧ Int32.toInt 0 ≤ 0 from (by decide)); omega)
    have b4_ : (-1) ≤ Int32.toInt (M.1 124 47) ∧ Int32.toInt (M.1 124 47) ≤ 5 := pvok_r hok 124 47 rfl
    refine pw_blkw hT 4 (pc := 18) (lo := [some (pvR 124), none]) (st := []) (M := pvu M 124 15 (M.1 124 47)) rfl ⟨trivial, trivial, rfl, rfl, trivial⟩ (fun M5_ e6_ => ?_)
    have o7_ : pvOk M5_ := pvok_u2 e6_ hok rfl b4_
    have f8_ : pvFr fp_eX10_undo_124 M M5_ := pvfr_u e6_ pvfr_0 rfl
    have b9_ : 0 ≤ Int32.toInt (M5_.1 124 48) ∧ Int32.toInt (M5_.1 124 48) ≤ 7 := pvok_r o7_ 124 48 rfl
    refine pw_blkw hT 4 (pc := 26) (lo := [some (pvR 124), none]) (st := []) (M := pvu M5_ 124 0 (M5_.1 124 48)) rfl ⟨trivial, trivial, rfl, rfl, trivial⟩ (fun M10_ e11_ => ?_)
    have o12_ : pvOk M10_ := pvok_u2 e11_ o7_ rfl b9_
    have f13_ : pvFr fp_eX10_undo_124 M M10_ := pvfr_u e11_ f8_ rfl
    have b14_ : 0 ≤ Int32.toInt (M10_.1 124 49) ∧ Int32.toInt (M10_.1 124 49) ≤ 9999 := pvok_r o12_ 124 49 rfl
    refine pw_blkw hT 4 (pc := 34) (lo := [some (pvR 124), none]) (st := []) (M := pvu M10_ 124 1 (M10_.1 124 49)) rfl ⟨trivial, trivial, rfl, rfl, trivial⟩ (fun M15_ e16_ => ?_)
    have o17_ : pvOk M15_ := pvok_u2 e16_ o12_ rfl b14_
    have f18_ : pvFr fp_eX10_undo_124 M M15_ := pvfr_u e16_ f13_ rfl
    have b19_ : 0 ≤ Int32.toInt (M15_.1 124 50) ∧ Int32.toInt (M15_.1 124 50) ≤ 999999 := pvok_r o17_ 124 50 rfl
    refine pw_blkw hT 4 (pc := 42) (lo := [some (pvR 124), none]) (st := []) (M := pvu M15_ 124 2 (M15_.1 124 50)) rfl ⟨trivial, trivial, rfl, rfl, trivial⟩ (fun M20_ e21_ => ?_)
    have o22_ : pvOk M20_ := pvok_u2 e21_ o17_ rfl b19_
    have f23_ : pvFr fp_eX10_undo_124 M M20_ := pvfr_u e21_ f18_ rfl
    have b24_ : 0 ≤ Int32.toInt (M20_.1 124 51) ∧ Int32.toInt (M20_.1 124 51) ≤ 108 := pvok_r o22_ 124 51 rfl
    refine pw_blkw hT 4 (pc := 50) (lo := [some (pvR 124), none]) (st := []) (M := pvu M20_ 124 3 (M20_.1 124 51)) rfl ⟨trivial, trivial, rfl, rfl, trivial⟩ (fun M25_ e26_ => ?_)
    have o27_ : pvOk M25_ := pvok_u2 e26_ o22_ rfl b24_
    have f28_ : pvFr fp_eX10_undo_124 M M25_ := pvfr_u e26_ f23_ rfl
    have b29_ : 0 ≤ Int32.toInt (M25_.1 124 52) ∧ Int32.toInt (M25_.1 124 52) ≤ 4 := pvok_r o27_ 124 52 rfl
    refine pw_blkw hT 4 (pc := 58) (lo := [some (pvR 124), none]) (st := []) (M := pvu M25_ 124 4 (M25_.1 124 52)) rfl ⟨trivial, trivial, rfl, rfl, trivial⟩ (fun M30_ e31_ => ?_)
    have o32_ : pvOk M30_ := pvok_u2 e31_ o27_ rfl b29_
    have f33_ : pvFr fp_eX10_undo_124 M M30_ := pvfr_u e31_ f28_ rfl
    have b34_ : 0 ≤ Int32.toInt (M30_.1 124 53) ∧ Int32.toInt (M30_.1 124 53) ≤ 3 := pvok_r o32_ 124 53 rfl
    refine pw_blkw hT 4 (pc := 66) (lo := [some (pvR 124), none]) (st := []) (M := pvu M30_ 124 5 (M30_.1 124 53)) rfl ⟨trivial, trivial, rfl, rfl, trivial⟩ (fun M35_ e36_ => ?_)
    have o37_ : pvOk M35_ := pvok_u2 e36_ o32_ rfl b34_
    have f38_ : pvFr fp_eX10_undo_124 M M35_ := pvfr_u e36_ f33_ rfl
    have b39_ : 0 ≤ Int32.toInt (M35_.1 124 54) ∧ Int32.toInt (M35_.1 124 54) ≤ 4 := pvok_r o37_ 124 54 rfl
    refine pw_blkw hT 4 (pc := 74) (lo := [some (pvR 124), none]) (st := []) (M := pvu M35_ 124 6 (M35_.1 124 54)) rfl ⟨trivial, trivial, rfl, rfl, trivial⟩ (fun M40_ e41_ => ?_)
    have o42_ : pvOk M40_ := pvok_u2 e41_ o37_ rfl b39_
    have f43_ : pvFr fp_eX10_undo_124 M M40_ := pvfr_u e41_ f38_ rfl
    have b44_ : 0 ≤ Int32.toInt (M40_.1 124 55) ∧ Int32.toInt (M40_.1 124 55) ≤ 7 := pvok_r o42_ 124 55 rfl
    refine pw_blkw hT 4 (pc := 82) (lo := [some (pvR 124), none]) (st := []) (M := pvu M40_ 124 37 (M40_.1 124 55)) rfl ⟨trivial, trivial, rfl, rfl, trivial⟩ (fun M45_ e46_ => ?_)
    have o47_ : pvOk M45_ := pvok_u2 e46_ o42_ rfl b44_
    have f48_ : pvFr fp_eX10_undo_124 M M45_ := pvfr_u e46_ f43_ rfl
    have b49_ : 0 ≤ Int32.toInt (M45_.1 124 56) ∧ Int32.toInt (M45_.1 124 56) ≤ 6 := pvok_r o47_ 124 56 rfl
    refine pw_blkw hT 4 (pc := 90) (lo := [some (pvR 124), none]) (st := []) (M := pvu M45_ 124 40 (M45_.1 124 56)) rfl ⟨trivial, trivial, rfl, rfl, trivial⟩ (fun M50_ e51_ => ?_)
    have o52_ : pvOk M50_ := pvok_u2 e51_ o47_ rfl b49_
    have f53_ : pvFr fp_eX10_undo_124 M M50_ := pvfr_u e51_ f48_ rfl
    have b54_ : 0 ≤ Int32.toInt (M50_.1 124 57) ∧ Int32.toInt (M50_.1 124 57) ≤ 8 := pvok_r o52_ 124 57 rfl
    refine pw_blkw hT 4 (pc := 98) (lo := [some (pvR 124), none]) (st := []) (M := pvu M50_ 124 43 (M50_.1 124 57)) rfl ⟨trivial, trivial, rfl, rfl, trivial⟩ (fun M55_ e56_ => ?_)
    have o57_ : pvOk M55_ := pvok_u2 e56_ o52_ rfl b54_
    have f58_ : pvFr fp_eX10_undo_124 M M55_ := pvfr_u e56_ f53_ rfl
    refine pw_blk hT 2 (S' := (100, [some (pvR 124), some (pvI 0)], [], M55_)) rfl ⟨trivial, trivial, trivial⟩ ?_
    have e59_ : (M55_.1 124 46) = (M.1 124 46) := (((((((((((pvu_n e56_ 124 46 (Or.inr (by decide))).trans (pvu_n e51_ 124 46 (Or.inr (by decide)))).trans (pvu_n e46_ 124 46 (Or.inr (by decide)))).trans (pvu_n e41_ 124 46 (Or.inr (by decide)))).trans (pvu_n e36_ 124 46 (Or.inr (by decide)))).trans (pvu_n e31_ 124 46 (Or.inr (by decide)))).trans (pvu_n e26_ 124 46 (Or.inr (by decide)))).trans (pvu_n e21_ 124 46 (Or.inr (by decide)))).trans (pvu_n e16_ 124 46 (Or.inr (by decide)))).trans (pvu_n e11_ 124 46 (Or.inr (by decide)))).trans (pvu_n e6_ 124 46 (Or.inr (by decide))))
    have b60_ : 1 ≤ Int32.toInt (M55_.1 124 46) ∧ Int32.toInt (M55_.1 124 46) ≤ 1 := (by rw [e59_]; exact b3_)
    have hlz5978_ : ∀ (nz5978_ : Nat) (i1z5978_ : Int32) (Mz5978_ : pvM), (pvOk Mz5978_) → (pvFr fp_eX10_undo_124 M Mz5978_) → (Mz5978_.1 124 46 = M55_.1 124 46) → (0 ≤ Int32.toInt i1z5978_ ∧ Int32.toInt i1z5978_ ≤ 7) → (Int32.toInt (Mz5978_.1 124 15) = Int32.toInt (M.1 124 47)) → (Int32.toInt (Mz5978_.1 124 3) = Int32.toInt (M.1 124 51)) → (Mz5978_.1 124 0 = (M.1 124 48)) → (Mz5978_.1 124 3 = (M.1 124 51)) → (Mz5978_.1 124 4 = (M.1 124 52)) → (Mz5978_.1 124 40 = (M.1 124 56)) → (Mz5978_.1 124 43 = (M.1 124 57)) → (zhide ((8 - Int32.toInt i1z5978_).toNat < nz5978_)) → PW 94 d (100, [some (pvR 124), some (pvI i1z5978_)], [], Mz5978_) (fun r X => (∃ x : Int32, r = some (pvI x) ∧ ((-3) ≤ Int32.toInt x ∧ Int32.toInt x ≤ 7) ∧ x = (if (M.1 124 46) = 0 then (-3) else (M.1 124 48))) ∧ pvOk X ∧ pvFr fp_eX10_undo_124 M X ∧ (pvWF M → pvWF X) ∧ (Int32.toInt (M.1 124 51) ≤ 99 → Int32.toInt (M.1 124 3) ≤ 99 → Int32.toInt (X.1 124 3) ≤ 99) ∧ X.1 124 0 = (if (M.1 124 46) = 0 then (M.1 124 0) else (M.1 124 48)) ∧ X.1 124 3 = (if (M.1 124 46) = 0 then (M.1 124 3) else (M.1 124 51)) ∧ X.1 124 4 = (if (M.1 124 46) = 0 then (M.1 124 4) else (M.1 124 52)) ∧ X.1 124 40 = (if (M.1 124 46) = 0 then (M.1 124 40) else (M.1 124 56)) ∧ X.1 124 43 = (if (M.1 124 46) = 0 then (M.1 124 43) else (M.1 124 57))) := by
      intro nz5978_
      induction nz5978_ with
      | zero => intro i1z5978_ Mz5978_ oz5978_ fz5978_ k124_46z5978_ h1z5978_ j0z5978_ j1z5978_ j2z5978_ j3z5978_ j4z5978_ j5z5978_ j6z5978_ hmz5978_; exact absurd (zshow hmz5978_) (Nat.not_lt_zero _)
      | succ nz5978_ ihz5978_ =>
        intro i1z5978_ Mz5978_ oz5978_ fz5978_ k124_46z5978_ h1z5978_ j0z5978_ j1z5978_ j2z5978_ j3z5978_ j4z5978_ j5z5978_ j6z5978_ hmz5978_
        have b5979_ : (-1) ≤ Int32.toInt (Mz5978_.1 124 15) ∧ Int32.toInt (Mz5978_.1 124 15) ≤ 5 := pvok_r oz5978_ 124 15 rfl
        have b5980_ : 0 ≤ Int32.toInt (Mz5978_.1 124 3) ∧ Int32.toInt (Mz5978_.1 124 3) ≤ 108 := pvok_r oz5978_ 124 3 rfl
        refine pw_blk hT 2 (S' := (103, [some (pvR 124), some (pvI i1z5978_)], [pvI 7, pvI i1z5978_], Mz5978_)) rfl ⟨trivial, trivial, trivial⟩ ?_
        refine pw_ic hT (c := 7 ≤ i1z5978_) rfl rfl (fun c5981_ => ?_) (fun c5981_ => ?_)
        · have b5982_ : 7 ≤ Int32.toInt i1z5978_ ∧ Int32.toInt i1z5978_ ≤ 7 := zr_le_r 7 c5981_ h1z5978_ (show 7 ≤ Int32.toInt 7 ∧ Int32.toInt 7 ≤ 7 from (by decide)) (by decide)
          refine pw_blk hT 2 (S' := (198, [some (pvR 124), some (pvI 0)], [], Mz5978_)) rfl ⟨trivial, trivial, trivial⟩ ?_
          have e5983_ : (Mz5978_.1 124 46) = (M55_.1 124 46) := (k124_46z5978_)
          have b5984_ : 1 ≤ Int32.toInt (Mz5978_.1 124 46) ∧ Int32.toInt (Mz5978_.1 124 46) ≤ 1 := (by rw [e5983_]; exact b60_)
          have hlz7417_ : ∀ (nz7417_ : Nat) (i1z7417_ : Int32) (Mz7417_ : pvM), (pvOk Mz7417_) → (pvFr fp_eX10_undo_124 M Mz7417_) → (Mz7417_.1 124 46 = Mz5978_.1 124 46) → (0 ≤ Int32.toInt i1z7417_ ∧ Int32.toInt i1z7417_ ≤ 28) → (Int32.toInt (Mz7417_.1 124 15) = Int32.toInt (M.1 124 47)) → (Int32.toInt (Mz7417_.1 124 3) = Int32.toInt (M.1 124 51)) → (Mz7417_.1 124 0 = (M.1 124 48)) → (Mz7417_.1 124 3 = (M.1 124 51)) → (Mz7417_.1 124 4 = (M.1 124 52)) → (Mz7417_.1 124 40 = (M.1 124 56)) → (Mz7417_.1 124 43 = (M.1 124 57)) → (zhide ((29 - Int32.toInt i1z7417_).toNat < nz7417_)) → PW 94 d (198, [some (pvR 124), some (pvI i1z7417_)], [], Mz7417_) (fun r X => (∃ x : Int32, r = some (pvI x) ∧ ((-3) ≤ Int32.toInt x ∧ Int32.toInt x ≤ 7) ∧ x = (if (M.1 124 46) = 0 then (-3) else (M.1 124 48))) ∧ pvOk X ∧ pvFr fp_eX10_undo_124 M X ∧ (pvWF M → pvWF X) ∧ (Int32.toInt (M.1 124 51) ≤ 99 → Int32.toInt (M.1 124 3) ≤ 99 → Int32.toInt (X.1 124 3) ≤ 99) ∧ X.1 124 0 = (if (M.1 124 46) = 0 then (M.1 124 0) else (M.1 124 48)) ∧ X.1 124 3 = (if (M.1 124 46) = 0 then (M.1 124 3) else (M.1 124 51)) ∧ X.1 124 4 = (if (M.1 124 46) = 0 then (M.1 124 4) else (M.1 124 52)) ∧ X.1 124 40 = (if (M.1 124 46) = 0 then (M.1 124 40) else (M.1 124 56)) ∧ X.1 124 43 = (if (M.1 124 46) = 0 then (M.1 124 43) else (M.1 124 57))) := by
            intro nz7417_
            induction nz7417_ with
            | zero => intro i1z7417_ Mz7417_ oz7417_ fz7417_ k124_46z7417_ h1z7417_ j0z7417_ j1z7417_ j2z7417_ j3z7417_ j4z7417_ j5z7417_ j6z7417_ hmz7417_; exact absurd (zshow hmz7417_) (Nat.not_lt_zero _)
            | succ nz7417_ ihz7417_ =>
              intro i1z7417_ Mz7417_ oz7417_ fz7417_ k124_46z7417_ h1z7417_ j0z7417_ j1z7417_ j2z7417_ j3z7417_ j4z7417_ j5z7417_ j6z7417_ hmz7417_
              have b7418_ : (-1) ≤ Int32.toInt (Mz7417_.1 124 15) ∧ Int32.toInt (Mz7417_.1 124 15) ≤ 5 := pvok_r oz7417_ 124 15 rfl
              have b7419_ : 0 ≤ Int32.toInt (Mz7417_.1 124 3) ∧ Int32.toInt (Mz7417_.1 124 3) ≤ 108 := pvok_r oz7417_ 124 3 rfl
              refine pw_blk hT 2 (S' := (201, [some (pvR 124), some (pvI i1z7417_)], [pvI 28, pvI i1z7417_], Mz7417_)) rfl ⟨trivial, trivial, trivial⟩ ?_
              refine pw_ic hT (c := 28 ≤ i1z7417_) rfl rfl (fun c7420_ => ?_) (fun c7420_ => ?_)
              · have b7421_ : 28 ≤ Int32.toInt i1z7417_ ∧ Int32.toInt i1z7417_ ≤ 28 := zr_le_r 28 c7420_ h1z7417_ (show 28 ≤ Int32.toInt 28 ∧ Int32.toInt 28 ≤ 28 from (by decide)) (by decide)
                refine pw_blk hT 2 (S' := (224, [some (pvR 124), some (pvI 0)], [], Mz7417_)) rfl ⟨trivial, trivial, trivial⟩ ?_
                have e7422_ : (Mz7417_.1 124 46) = (Mz5978_.1 124 46) := (k124_46z7417_)
                have b7423_ : 1 ≤ Int32.toInt (Mz7417_.1 124 46) ∧ Int32.toInt (Mz7417_.1 124 46) ≤ 1 := (by rw [e7422_]; exact b5984_)
                have hlz7766_ : ∀ (nz7766_ : Nat) (i1z7766_ : Int32) (Mz7766_ : pvM), (pvOk Mz7766_) → (pvFr fp_eX10_undo_124 M Mz7766_) → (Mz7766_.1 124 46 = Mz7417_.1 124 46) → (0 ≤ Int32.toInt i1z7766_ ∧ Int32.toInt i1z7766_ ≤ 6) → (Int32.toInt (Mz7766_.1 124 15) = Int32.toInt (M.1 124 47)) → (Int32.toInt (Mz7766_.1 124 3) = Int32.toInt (M.1 124 51)) → (Mz7766_.1 124 0 = (M.1 124 48)) → (Mz7766_.1 124 3 = (M.1 124 51)) → (Mz7766_.1 124 4 = (M.1 124 52)) → (Mz7766_.1 124 40 = (M.1 124 56)) → (Mz7766_.1 124 43 = (M.1 124 57)) → (zhide ((7 - Int32.toInt i1z7766_).toNat < nz7766_)) → PW 94 d (224, [some (pvR 124), some (pvI i1z7766_)], [], Mz7766_) (fun r X => (∃ x : Int32, r = some (pvI x) ∧ ((-3) ≤ Int32.toInt x ∧ Int32.toInt x ≤ 7) ∧ x = (if (M.1 124 46) = 0 then (-3) else (M.1 124 48))) ∧ pvOk X ∧ pvFr fp_eX10_undo_124 M X ∧ (pvWF M → pvWF X) ∧ (Int32.toInt (M.1 124 51) ≤ 99 → Int32.toInt (M.1 124 3) ≤ 99 → Int32.toInt (X.1 124 3) ≤ 99) ∧ X.1 124 0 = (if (M.1 124 46) = 0 then (M.1 124 0) else (M.1 124 48)) ∧ X.1 124 3 = (if (M.1 124 46) = 0 then (M.1 124 3) else (M.1 124 51)) ∧ X.1 124 4 = (if (M.1 124 46) = 0 then (M.1 124 4) else (M.1 124 52)) ∧ X.1 124 40 = (if (M.1 124 46) = 0 then (M.1 124 40) else (M.1 124 56)) ∧ X.1 124 43 = (if (M.1 124 46) = 0 then (M.1 124 43) else (M.1 124 57))) := by
                  intro nz7766_
                  induction nz7766_ with
                  | zero => intro i1z7766_ Mz7766_ oz7766_ fz7766_ k124_46z7766_ h1z7766_ j0z7766_ j1z7766_ j2z7766_ j3z7766_ j4z7766_ j5z7766_ j6z7766_ hmz7766_; exact absurd (zshow hmz7766_) (Nat.not_lt_zero _)
                  | succ nz7766_ ihz7766_ =>
                    intro i1z7766_ Mz7766_ oz7766_ fz7766_ k124_46z7766_ h1z7766_ j0z7766_ j1z7766_ j2z7766_ j3z7766_ j4z7766_ j5z7766_ j6z7766_ hmz7766_
                    have b7767_ : (-1) ≤ Int32.toInt (Mz7766_.1 124 15) ∧ Int32.toInt (Mz7766_.1 124 15) ≤ 5 := pvok_r oz7766_ 124 15 rfl
                    have b7768_ : 0 ≤ Int32.toInt (Mz7766_.1 124 3) ∧ Int32.toInt (Mz7766_.1 124 3) ≤ 108 := pvok_r oz7766_ 124 3 rfl
                    refine pw_blk hT 2 (S' := (227, [some (pvR 124), some (pvI i1z7766_)], [pvI 6, pvI i1z7766_], Mz7766_)) rfl ⟨trivial, trivial, trivial⟩ ?_
                    refine pw_ic hT (c := 6 ≤ i1z7766_) rfl rfl (fun c7769_ => ?_) (fun c7769_ => ?_)
                    · have b7770_ : 6 ≤ Int32.toInt i1z7766_ ∧ Int32.toInt i1z7766_ ≤ 6 := zr_le_r 6 c7769_ h1z7766_ (show 6 ≤ Int32.toInt 6 ∧ Int32.toInt 6 ≤ 6 from (by decide)) (by decide)
                      refine pw_blk hT 2 (S' := (262, [some (pvR 124), some (pvI 0)], [], Mz7766_)) rfl ⟨trivial, trivial, trivial⟩ ?_
                      have e7771_ : (Mz7766_.1 124 46) = (Mz7417_.1 124 46) := (k124_46z7766_)
                      have b7772_ : 1 ≤ Int32.toInt (Mz7766_.1 124 46) ∧ Int32.toInt (Mz7766_.1 124 46) ≤ 1 := (by rw [e7771_]; exact b7423_)
                      have hlz7838_ : ∀ (nz7838_ : Nat) (i1z7838_ : Int32) (Mz7838_ : pvM), (pvOk Mz7838_) → (pvFr fp_eX10_undo_124 M Mz7838_) → (Mz7838_.1 124 46 = Mz7766_.1 124 46) → (0 ≤ Int32.toInt i1z7838_ ∧ Int32.toInt i1z7838_ ≤ 8) → (Int32.toInt (Mz7838_.1 124 15) = Int32.toInt (M.1 124 47)) → (Int32.toInt (Mz7838_.1 124 3) = Int32.toInt (M.1 124 51)) → (Mz7838_.1 124 0 = (M.1 124 48)) → (Mz7838_.1 124 3 = (M.1 124 51)) → (Mz7838_.1 124 4 = (M.1 124 52)) → (Mz7838_.1 124 40 = (M.1 124 56)) → (Mz7838_.1 124 43 = (M.1 124 57)) → (zhide ((9 - Int32.toInt i1z7838_).toNat < nz7838_)) → PW 94 d (262, [some (pvR 124), some (pvI i1z7838_)], [], Mz7838_) (fun r X => (∃ x : Int32, r = some (pvI x) ∧ ((-3) ≤ Int32.toInt x ∧ Int32.toInt x ≤ 7) ∧ x = (if (M.1 124 46) = 0 then (-3) else (M.1 124 48))) ∧ pvOk X ∧ pvFr fp_eX10_undo_124 M X ∧ (pvWF M → pvWF X) ∧ (Int32.toInt (M.1 124 51) ≤ 99 → Int32.toInt (M.1 124 3) ≤ 99 → Int32.toInt (X.1 124 3) ≤ 99) ∧ X.1 124 0 = (if (M.1 124 46) = 0 then (M.1 124 0) else (M.1 124 48)) ∧ X.1 124 3 = (if (M.1 124 46) = 0 then (M.1 124 3) else (M.1 124 51)) ∧ X.1 124 4 = (if (M.1 124 46) = 0 then (M.1 124 4) else (M.1 124 52)) ∧ X.1 124 40 = (if (M.1 124 46) = 0 then (M.1 124 40) else (M.1 124 56)) ∧ X.1 124 43 = (if (M.1 124 46) = 0 then (M.1 124 43) else (M.1 124 57))) := by
                        intro nz7838_
                        induction nz7838_ with
                        | zero => intro i1z7838_ Mz7838_ oz7838_ fz7838_ k124_46z7838_ h1z7838_ j0z7838_ j1z7838_ j2z7838_ j3z7838_ j4z7838_ j5z7838_ j6z7838_ hmz7838_; exact absurd (zshow hmz7838_) (Nat.not_lt_zero _)
                        | succ nz7838_ ihz7838_ =>
                          intro i1z7838_ Mz7838_ oz7838_ fz7838_ k124_46z7838_ h1z7838_ j0z7838_ j1z7838_ j2z7838_ j3z7838_ j4z7838_ j5z7838_ j6z7838_ hmz7838_
                          have b7839_ : (-1) ≤ Int32.toInt (Mz7838_.1 124 15) ∧ Int32.toInt (Mz7838_.1 124 15) ≤ 5 := pvok_r oz7838_ 124 15 rfl
                          have b7840_ : 0 ≤ Int32.toInt (Mz7838_.1 124 3) ∧ Int32.toInt (Mz7838_.1 124 3) ≤ 108 := pvok_r oz7838_ 124 3 rfl
                          refine pw_blk hT 2 (S' := (265, [some (pvR 124), some (pvI i1z7838_)], [pvI 8, pvI i1z7838_], Mz7838_)) rfl ⟨trivial, trivial, trivial⟩ ?_
                          refine pw_ic hT (c := 8 ≤ i1z7838_) rfl rfl (fun c7841_ => ?_) (fun c7841_ => ?_)
                          · have b7842_ : 8 ≤ Int32.toInt i1z7838_ ∧ Int32.toInt i1z7838_ ≤ 8 := zr_le_r 8 c7841_ h1z7838_ (show 8 ≤ Int32.toInt 8 ∧ Int32.toInt 8 ≤ 8 from (by decide)) (by decide)
                            have b7843_ : 0 ≤ Int32.toInt (Mz7838_.1 124 0) ∧ Int32.toInt (Mz7838_.1 124 0) ≤ 7 := pvok_r oz7838_ 124 0 rfl
                            refine pw_blk hT 2 (S' := (302, [some (pvR 124), some (pvI i1z7838_)], [pvI (Mz7838_.1 124 0)], Mz7838_)) rfl ⟨trivial, rfl, trivial⟩ ?_
                            exact pw_ret hT rfl (r := some (pvI (Mz7838_.1 124 0))) (M' := Mz7838_) ⟨rfl, rfl⟩ ⟨⟨_, rfl, (zr_wide b7843_ (by decide) (by decide)), (by rw [if_neg c2_]; exact (show (Mz7838_.1 124 0) = (M.1 124 48) from by rw [j2z7838_]))⟩, oz7838_, fz7838_, ⟨fun hz => ⟨by have z3 := hz.1; have z4 := hz.2.1; have w0 : Int32.toInt (Mz7838_.1 124 14) = Int32.toInt (M.1 124 14) := congrArg Int32.toInt (fz7838_ 124 14 rfl); omega, by have z3 := hz.1; have z4 := hz.2.1; have w0 : Int32.toInt (Mz7838_.1 124 14) = Int32.toInt (M.1 124 14) := congrArg Int32.toInt (fz7838_ 124 14 rfl); have v0 : Int32.toInt (Mz7838_.1 124 47) = Int32.toInt (M.1 124 47) := congrArg Int32.toInt (fz7838_ 124 47 rfl); omega, fun a ha => pvWh_r (pvfr_row (L := fpL_eX10_undo_124) fz7838_ rfl) (pvfr_row (L := fpL_eX10_undo_124) fz7838_ rfl) (pvfr_row (L := fpL_eX10_undo_124) fz7838_ rfl) (pvfr_row (L := fpL_eX10_undo_124) fz7838_ rfl) (pvfr_row (L := fpL_eX10_undo_124) fz7838_ rfl) (hz.2.2 a (by have w0 : Int32.toInt (Mz7838_.1 124 14) = Int32.toInt (M.1 124 14) := congrArg Int32.toInt (fz7838_ 124 14 rfl); omega))⟩, fun hc hc2 => by omega⟩, (by rw [if_neg c2_]; exact j2z7838_), (by rw [if_neg c2_]; exact j3z7838_), (by rw [if_neg c2_]; exact j4z7838_), (by rw [if_neg c2_]; exact j5z7838_), (by rw [if_neg c2_]; exact j6z7838_)⟩
                          · have b7844_ : 0 ≤ Int32.toInt i1z7838_ ∧ Int32.toInt i1z7838_ ≤ 7 := zr_nle_r 7 c7841_ h1z7838_ (show 8 ≤ Int32.toInt 8 ∧ Int32.toInt 8 ≤ 8 from (by decide)) (by decide)
                            have b7845_ : 0 ≤ Int32.toInt (Mz7838_.1 160 (Int32.toNatClampNeg i1z7838_)) ∧ Int32.toInt (Mz7838_.1 160 (Int32.toNatClampNeg i1z7838_)) ≤ 6 := pvok_r oz7838_ 160 (Int32.toNatClampNeg i1z7838_) rfl
                            refine pw_blkw hT 8 (pc := 280) (lo := [some (pvR 124), some (pvI i1z7838_)]) (st := []) (M := pvu Mz7838_ 149 (Int32.toNatClampNeg i1z7838_) (Mz7838_.1 160 (Int32.toNatClampNeg i1z7838_))) rfl ⟨trivial, rfl, trivial, trivial, rfl, trivial, ⟨rfl, (zr_in (n := 8) b7844_ (by decide) (by decide))⟩, ⟨rfl, (zr_in (n := 8) b7844_ (by decide) (by decide))⟩, trivial⟩ (fun M7846_ e7847_ => ?_)
                            have o7848_ : pvOk M7846_ := pvok_u2 e7847_ oz7838_ rfl b7845_
                            have f7849_ : pvFr fp_eX10_undo_124 M M7846_ := pvfr_u e7847_ fz7838_ rfl
                            have b7850_ : 0 ≤ Int32.toInt (M7846_.1 161 (Int32.toNatClampNeg i1z7838_)) ∧ Int32.toInt (M7846_.1 161 (Int32.toNatClampNeg i1z7838_)) ≤ 9999 := pvok_r o7848_ 161 (Int32.toNatClampNeg i1z7838_) rfl
                            refine pw_blkw hT 8 (pc := 292) (lo := [some (pvR 124), some (pvI i1z7838_)]) (st := []) (M := pvu M7846_ 150 (Int32.toNatClampNeg i1z7838_) (M7846_.1 161 (Int32.toNatClampNeg i1z7838_))) rfl ⟨trivial, rfl, trivial, trivial, rfl, trivial, ⟨rfl, (zr_in (n := 8) b7844_ (by decide) (by decide))⟩, ⟨rfl, (zr_in (n := 8) b7844_ (by decide) (by decide))⟩, trivial⟩ (fun M7851_ e7852_ => ?_)
                            have o7853_ : pvOk M7851_ := pvok_u2 e7852_ o7848_ rfl b7850_
                            have f7854_ : pvFr fp_eX10_undo_124 M M7851_ := pvfr_u e7852_ f7849_ rfl
                            obtain ⟨q7856_, b7855_⟩ : (Int32.toInt (i1z7838_ + 1) = Int32.toInt i1z7838_ + 1) ∧ (1 ≤ Int32.toInt (i1z7838_ + 1) ∧ Int32.toInt (i1z7838_ + 1) ≤ 8) := zadd_k i1z7838_ 1 1 1 8 b7844_ (by decide) (by decide) (by decide) (by decide) (by decide)
                            refine pw_blk hT 2 (S' := (262, [some (pvR 124), some (pvI (i1z7838_ + 1))], [], M7851_)) rfl ⟨trivial, trivial, trivial⟩ ?_
                            have j7857_ : Int32.toInt (M7851_.1 124 15) = Int32.toInt (M.1 124 47) := (by have y01 : Int32.toInt (M7851_.1 124 15) = Int32.toInt (Mz7838_.1 124 15) := congrArg Int32.toInt ((pvu_n e7852_ 124 15 (Or.inl (by decide))).trans (pvu_n e7847_ 124 15 (Or.inl (by decide)))); omega)
                            have j7858_ : Int32.toInt (M7851_.1 124 3) = Int32.toInt (M.1 124 51) := (by have y01 : Int32.toInt (M7851_.1 124 3) = Int32.toInt (Mz7838_.1 124 3) := congrArg Int32.toInt ((pvu_n e7852_ 124 3 (Or.inl (by decide))).trans (pvu_n e7847_ 124 3 (Or.inl (by decide)))); omega)
                            have j7859_ : M7851_.1 124 0 = (M.1 124 48) := (((pvu_n e7852_ 124 0 (Or.inl (by decide))).trans (pvu_n e7847_ 124 0 (Or.inl (by decide)))).trans (j2z7838_))
                            have j7860_ : M7851_.1 124 3 = (M.1 124 51) := (((pvu_n e7852_ 124 3 (Or.inl (by decide))).trans (pvu_n e7847_ 124 3 (Or.inl (by decide)))).trans (j3z7838_))
                            have j7861_ : M7851_.1 124 4 = (M.1 124 52) := (((pvu_n e7852_ 124 4 (Or.inl (by decide))).trans (pvu_n e7847_ 124 4 (Or.inl (by decide)))).trans (j4z7838_))
                            have j7862_ : M7851_.1 124 40 = (M.1 124 56) := (((pvu_n e7852_ 124 40 (Or.inl (by decide))).trans (pvu_n e7847_ 124 40 (Or.inl (by decide)))).trans (j5z7838_))
                            have j7863_ : M7851_.1 124 43 = (M.1 124 57) := (((pvu_n e7852_ 124 43 (Or.inl (by decide))).trans (pvu_n e7847_ 124 43 (Or.inl (by decide)))).trans (j6z7838_))
                            exact ihz7838_ (i1z7838_ + 1) M7851_ o7853_ f7854_ (((pvu_n e7852_ 124 46 (Or.inl (by decide))).trans (pvu_n e7847_ 124 46 (Or.inl (by decide)))).trans (k124_46z7838_)) (zr_wide b7855_ (by decide) (by decide)) j7857_ j7858_ j7859_ j7860_ j7861_ j7862_ j7863_ (zhid (by have hm0 := zshow hmz7838_; have y01 : Int32.toInt (M7851_.1 124 15) = Int32.toInt (Mz7838_.1 124 15) := congrArg Int32.toInt ((pvu_n e7852_ 124 15 (Or.inl (by decide))).trans (pvu_n e7847_ 124 15 (Or.inl (by decide)))); have y11 : Int32.toInt (M7851_.1 124 3) = Int32.toInt (Mz7838_.1 124 3) := congrArg Int32.toInt ((pvu_n e7852_ 124 3 (Or.inl (by decide))).trans (pvu_n e7847_ 124 3 (Or.inl (by decide)))); omega))
                      have u7864_ : Int32.toInt 0 = 0 := by decide
                      have j7865_ : Int32.toInt (Mz7766_.1 124 15) = Int32.toInt (M.1 124 47) := (by omega)
                      have j7866_ : Int32.toInt (Mz7766_.1 124 3) = Int32.toInt (M.1 124 51) := (by omega)
                      have j7867_ : Mz7766_.1 124 0 = (M.1 124 48) := j2z7766_
                      have j7868_ : Mz7766_.1 124 3 = (M.1 124 51) := j3z7766_
                      have j7869_ : Mz7766_.1 124 4 = (M.1 124 52) := j4z7766_
                      have j7870_ : Mz7766_.1 124 40 = (M.1 124 56) := j5z7766_
                      have j7871_ : Mz7766_.1 124 43 = (M.1 124 57) := j6z7766_
                      exact hlz7838_ _ 0 Mz7766_ oz7766_ fz7766_ rfl (zr_wide (show 0 ≤ Int32.toInt 0 ∧ Int32.toInt 0 ≤ 0 from (by decide)) (by decide) (by decide)) j7865_ j7866_ j7867_ j7868_ j7869_ j7870_ j7871_ (zhid (Nat.lt_succ_self _))
                    · have b7872_ : 0 ≤ Int32.toInt i1z7766_ ∧ Int32.toInt i1z7766_ ≤ 5 := zr_nle_r 5 c7769_ h1z7766_ (show 6 ≤ Int32.toInt 6 ∧ Int32.toInt 6 ≤ 6 from (by decide)) (by decide)
                      have b7873_ : 0 ≤ Int32.toInt (Mz7766_.1 158 (Int32.toNatClampNeg i1z7766_)) ∧ Int32.toInt (Mz7766_.1 158 (Int32.toNatClampNeg i1z7766_)) ≤ 6 := pvok_r oz7766_ 158 (Int32.toNatClampNeg i1z7766_) rfl
                      refine pw_blkw hT 8 (pc := 242) (lo := [some (pvR 124), some (pvI i1z7766_)]) (st := []) (M := pvu Mz7766_ 147 (Int32.toNatClampNeg i1z7766_) (Mz7766_.1 158 (Int32.toNatClampNeg i1z7766_))) rfl ⟨trivial, rfl, trivial, trivial, rfl, trivial, ⟨rfl, (zr_in (n := 6) b7872_ (by decide) (by decide))⟩, ⟨rfl, (zr_in (n := 6) b7872_ (by decide) (by decide))⟩, trivial⟩ (fun M7874_ e7875_ => ?_)
                      have o7876_ : pvOk M7874_ := pvok_u2 e7875_ oz7766_ rfl b7873_
                      have f7877_ : pvFr fp_eX10_undo_124 M M7874_ := pvfr_u e7875_ fz7766_ rfl
                      have b7878_ : 0 ≤ Int32.toInt (M7874_.1 159 (Int32.toNatClampNeg i1z7766_)) ∧ Int32.toInt (M7874_.1 159 (Int32.toNatClampNeg i1z7766_)) ≤ 9999 := pvok_r o7876_ 159 (Int32.toNatClampNeg i1z7766_) rfl
                      refine pw_blkw hT 8 (pc := 254) (lo := [some (pvR 124), some (pvI i1z7766_)]) (st := []) (M := pvu M7874_ 148 (Int32.toNatClampNeg i1z7766_) (M7874_.1 159 (Int32.toNatClampNeg i1z7766_))) rfl ⟨trivial, rfl, trivial, trivial, rfl, trivial, ⟨rfl, (zr_in (n := 6) b7872_ (by decide) (by decide))⟩, ⟨rfl, (zr_in (n := 6) b7872_ (by decide) (by decide))⟩, trivial⟩ (fun M7879_ e7880_ => ?_)
                      have o7881_ : pvOk M7879_ := pvok_u2 e7880_ o7876_ rfl b7878_
                      have f7882_ : pvFr fp_eX10_undo_124 M M7879_ := pvfr_u e7880_ f7877_ rfl
                      obtain ⟨q7884_, b7883_⟩ : (Int32.toInt (i1z7766_ + 1) = Int32.toInt i1z7766_ + 1) ∧ (1 ≤ Int32.toInt (i1z7766_ + 1) ∧ Int32.toInt (i1z7766_ + 1) ≤ 6) := zadd_k i1z7766_ 1 1 1 6 b7872_ (by decide) (by decide) (by decide) (by decide) (by decide)
                      refine pw_blk hT 2 (S' := (224, [some (pvR 124), some (pvI (i1z7766_ + 1))], [], M7879_)) rfl ⟨trivial, trivial, trivial⟩ ?_
                      have j7885_ : Int32.toInt (M7879_.1 124 15) = Int32.toInt (M.1 124 47) := (by have y01 : Int32.toInt (M7879_.1 124 15) = Int32.toInt (Mz7766_.1 124 15) := congrArg Int32.toInt ((pvu_n e7880_ 124 15 (Or.inl (by decide))).trans (pvu_n e7875_ 124 15 (Or.inl (by decide)))); omega)
                      have j7886_ : Int32.toInt (M7879_.1 124 3) = Int32.toInt (M.1 124 51) := (by have y01 : Int32.toInt (M7879_.1 124 3) = Int32.toInt (Mz7766_.1 124 3) := congrArg Int32.toInt ((pvu_n e7880_ 124 3 (Or.inl (by decide))).trans (pvu_n e7875_ 124 3 (Or.inl (by decide)))); omega)
                      have j7887_ : M7879_.1 124 0 = (M.1 124 48) := (((pvu_n e7880_ 124 0 (Or.inl (by decide))).trans (pvu_n e7875_ 124 0 (Or.inl (by decide)))).trans (j2z7766_))
                      have j7888_ : M7879_.1 124 3 = (M.1 124 51) := (((pvu_n e7880_ 124 3 (Or.inl (by decide))).trans (pvu_n e7875_ 124 3 (Or.inl (by decide)))).trans (j3z7766_))
                      have j7889_ : M7879_.1 124 4 = (M.1 124 52) := (((pvu_n e7880_ 124 4 (Or.inl (by decide))).trans (pvu_n e7875_ 124 4 (Or.inl (by decide)))).trans (j4z7766_))
                      have j7890_ : M7879_.1 124 40 = (M.1 124 56) := (((pvu_n e7880_ 124 40 (Or.inl (by decide))).trans (pvu_n e7875_ 124 40 (Or.inl (by decide)))).trans (j5z7766_))
                      have j7891_ : M7879_.1 124 43 = (M.1 124 57) := (((pvu_n e7880_ 124 43 (Or.inl (by decide))).trans (pvu_n e7875_ 124 43 (Or.inl (by decide)))).trans (j6z7766_))
                      exact ihz7766_ (i1z7766_ + 1) M7879_ o7881_ f7882_ (((pvu_n e7880_ 124 46 (Or.inl (by decide))).trans (pvu_n e7875_ 124 46 (Or.inl (by decide)))).trans (k124_46z7766_)) (zr_wide b7883_ (by decide) (by decide)) j7885_ j7886_ j7887_ j7888_ j7889_ j7890_ j7891_ (zhid (by have hm0 := zshow hmz7766_; have y01 : Int32.toInt (M7879_.1 124 15) = Int32.toInt (Mz7766_.1 124 15) := congrArg Int32.toInt ((pvu_n e7880_ 124 15 (Or.inl (by decide))).trans (pvu_n e7875_ 124 15 (Or.inl (by decide)))); have y11 : Int32.toInt (M7879_.1 124 3) = Int32.toInt (Mz7766_.1 124 3) := congrArg Int32.toInt ((pvu_n e7880_ 124 3 (Or.inl (by decide))).trans (pvu_n e7875_ 124 3 (Or.inl (by decide)))); omega))
                have u7892_ : Int32.toInt 0 = 0 := by decide
                have j7893_ : Int32.toInt (Mz7417_.1 124 15) = Int32.toInt (M.1 124 47) := (by omega)
                have j7894_ : Int32.toInt (Mz7417_.1 124 3) = Int32.toInt (M.1 124 51) := (by omega)
                have j7895_ : Mz7417_.1 124 0 = (M.1 124 48) := j2z7417_
                have j7896_ : Mz7417_.1 124 3 = (M.1 124 51) := j3z7417_
                have j7897_ : Mz7417_.1 124 4 = (M.1 124 52) := j4z7417_
                have j7898_ : Mz7417_.1 124 40 = (M.1 124 56) := j5z7417_
                have j7899_ : Mz7417_.1 124 43 = (M.1 124 57) := j6z7417_
                exact hlz7766_ _ 0 Mz7417_ oz7417_ fz7417_ rfl (zr_wide (show 0 ≤ Int32.toInt 0 ∧ Int32.toInt 0 ≤ 0 from (by decide)) (by decide) (by decide)) j7893_ j7894_ j7895_ j7896_ j7897_ j7898_ j7899_ (zhid (Nat.lt_succ_self _))
              · have b7900_ : 0 ≤ Int32.toInt i1z7417_ ∧ Int32.toInt i1z7417_ ≤ 27 := zr_nle_r 27 c7420_ h1z7417_ (show 28 ≤ Int32.toInt 28 ∧ Int32.toInt 28 ≤ 28 from (by decide)) (by decide)
                have b7901_ : 0 ≤ Int32.toInt (Mz7417_.1 156 (Int32.toNatClampNeg i1z7417_)) ∧ Int32.toInt (Mz7417_.1 156 (Int32.toNatClampNeg i1z7417_)) ≤ 9 := pvok_r oz7417_ 156 (Int32.toNatClampNeg i1z7417_) rfl
                refine pw_blkw hT 8 (pc := 216) (lo := [some (pvR 124), some (pvI i1z7417_)]) (st := []) (M := pvu Mz7417_ 130 (Int32.toNatClampNeg i1z7417_) (Mz7417_.1 156 (Int32.toNatClampNeg i1z7417_))) rfl ⟨trivial, rfl, trivial, trivial, rfl, trivial, ⟨rfl, (zr_in (n := 28) b7900_ (by decide) (by decide))⟩, ⟨rfl, (zr_in (n := 28) b7900_ (by decide) (by decide))⟩, trivial⟩ (fun M7902_ e7903_ => ?_)
                have o7904_ : pvOk M7902_ := pvok_u2 e7903_ oz7417_ rfl b7901_
                have f7905_ : pvFr fp_eX10_undo_124 M M7902_ := pvfr_u e7903_ fz7417_ rfl
                obtain ⟨q7907_, b7906_⟩ : (Int32.toInt (i1z7417_ + 1) = Int32.toInt i1z7417_ + 1) ∧ (1 ≤ Int32.toInt (i1z7417_ + 1) ∧ Int32.toInt (i1z7417_ + 1) ≤ 28) := zadd_k i1z7417_ 1 1 1 28 b7900_ (by decide) (by decide) (by decide) (by decide) (by decide)
                refine pw_blk hT 2 (S' := (198, [some (pvR 124), some (pvI (i1z7417_ + 1))], [], M7902_)) rfl ⟨trivial, trivial, trivial⟩ ?_
                have j7908_ : Int32.toInt (M7902_.1 124 15) = Int32.toInt (M.1 124 47) := (by have y01 : Int32.toInt (M7902_.1 124 15) = Int32.toInt (Mz7417_.1 124 15) := congrArg Int32.toInt (pvu_n e7903_ 124 15 (Or.inl (by decide))); omega)
                have j7909_ : Int32.toInt (M7902_.1 124 3) = Int32.toInt (M.1 124 51) := (by have y01 : Int32.toInt (M7902_.1 124 3) = Int32.toInt (Mz7417_.1 124 3) := congrArg Int32.toInt (pvu_n e7903_ 124 3 (Or.inl (by decide))); omega)
                have j7910_ : M7902_.1 124 0 = (M.1 124 48) := ((pvu_n e7903_ 124 0 (Or.inl (by decide))).trans (j2z7417_))
                have j7911_ : M7902_.1 124 3 = (M.1 124 51) := ((pvu_n e7903_ 124 3 (Or.inl (by decide))).trans (j3z7417_))
                have j7912_ : M7902_.1 124 4 = (M.1 124 52) := ((pvu_n e7903_ 124 4 (Or.inl (by decide))).trans (j4z7417_))
                have j7913_ : M7902_.1 124 40 = (M.1 124 56) := ((pvu_n e7903_ 124 40 (Or.inl (by decide))).trans (j5z7417_))
                have j7914_ : M7902_.1 124 43 = (M.1 124 57) := ((pvu_n e7903_ 124 43 (Or.inl (by decide))).trans (j6z7417_))
                exact ihz7417_ (i1z7417_ + 1) M7902_ o7904_ f7905_ ((pvu_n e7903_ 124 46 (Or.inl (by decide))).trans (k124_46z7417_)) (zr_wide b7906_ (by decide) (by decide)) j7908_ j7909_ j7910_ j7911_ j7912_ j7913_ j7914_ (zhid (by have hm0 := zshow hmz7417_; have y01 : Int32.toInt (M7902_.1 124 15) = Int32.toInt (Mz7417_.1 124 15) := congrArg Int32.toInt (pvu_n e7903_ 124 15 (Or.inl (by decide))); have y11 : Int32.toInt (M7902_.1 124 3) = Int32.toInt (Mz7417_.1 124 3) := congrArg Int32.toInt (pvu_n e7903_ 124 3 (Or.inl (by decide))); omega))
          have u7915_ : Int32.toInt 0 = 0 := by decide
          have j7916_ : Int32.toInt (Mz5978_.1 124 15) = Int32.toInt (M.1 124 47) := (by omega)
          have j7917_ : Int32.toInt (Mz5978_.1 124 3) = Int32.toInt (M.1 124 51) := (by omega)
          have j7918_ : Mz5978_.1 124 0 = (M.1 124 48) := j2z5978_
          have j7919_ : Mz5978_.1 124 3 = (M.1 124 51) := j3z5978_
          have j7920_ : Mz5978_.1 124 4 = (M.1 124 52) := j4z5978_
          have j7921_ : Mz5978_.1 124 40 = (M.1 124 56) := j5z5978_
          have j7922_ : Mz5978_.1 124 43 = (M.1 124 57) := j6z5978_
          exact hlz7417_ _ 0 Mz5978_ oz5978_ fz5978_ rfl (zr_wide (show 0 ≤ Int32.toInt 0 ∧ Int32.toInt 0 ≤ 0 from (by decide)) (by decide) (by decide)) j7916_ j7917_ j7918_ j7919_ j7920_ j7921_ j7922_ (zhid (Nat.lt_succ_self _))
        · have b7923_ : 0 ≤ Int32.toInt i1z5978_ ∧ Int32.toInt i1z5978_ ≤ 6 := zr_nle_r 6 c5981_ h1z5978_ (show 7 ≤ Int32.toInt 7 ∧ Int32.toInt 7 ≤ 7 from (by decide)) (by decide)
          have b7924_ : 0 ≤ Int32.toInt (Mz5978_.1 151 (Int32.toNatClampNeg i1z5978_)) ∧ Int32.toInt (Mz5978_.1 151 (Int32.toNatClampNeg i1z5978_)) ≤ 6 := pvok_r oz5978_ 151 (Int32.toNatClampNeg i1z5978_) rfl
          refine pw_blkw hT 8 (pc := 118) (lo := [some (pvR 124), some (pvI i1z5978_)]) (st := []) (M := pvu Mz5978_ 125 (Int32.toNatClampNeg i1z5978_) (Mz5978_.1 151 (Int32.toNatClampNeg i1z5978_))) rfl ⟨trivial, rfl, trivial, trivial, rfl, trivial, ⟨rfl, (zr_in (n := 7) b7923_ (by decide) (by decide))⟩, ⟨rfl, (zr_in (n := 7) b7923_ (by decide) (by decide))⟩, trivial⟩ (fun M7925_ e7926_ => ?_)
          have o7927_ : pvOk M7925_ := pvok_u2 e7926_ oz5978_ rfl b7924_
          have f7928_ : pvFr fp_eX10_undo_124 M M7925_ := pvfr_u e7926_ fz5978_ rfl
          have b7929_ : 0 ≤ Int32.toInt (M7925_.1 152 (Int32.toNatClampNeg i1z5978_)) ∧ Int32.toInt (M7925_.1 152 (Int32.toNatClampNeg i1z5978_)) ≤ 9 := pvok_r o7927_ 152 (Int32.toNatClampNeg i1z5978_) rfl
          refine pw_blkw hT 8 (pc := 130) (lo := [some (pvR 124), some (pvI i1z5978_)]) (st := []) (M := pvu M7925_ 126 (Int32.toNatClampNeg i1z5978_) (M7925_.1 152 (Int32.toNatClampNeg i1z5978_))) rfl ⟨trivial, rfl, trivial, trivial, rfl, trivial, ⟨rfl, (zr_in (n := 7) b7923_ (by decide) (by decide))⟩, ⟨rfl, (zr_in (n := 7) b7923_ (by decide) (by decide))⟩, trivial⟩ (fun M7930_ e7931_ => ?_)
          have o7932_ : pvOk M7930_ := pvok_u2 e7931_ o7927_ rfl b7929_
          have f7933_ : pvFr fp_eX10_undo_124 M M7930_ := pvfr_u e7931_ f7928_ rfl
          have b7934_ : 0 ≤ Int32.toInt (M7930_.1 153 (Int32.toNatClampNeg i1z5978_)) ∧ Int32.toInt (M7930_.1 153 (Int32.toNatClampNeg i1z5978_)) ≤ 3 := pvok_r o7932_ 153 (Int32.toNatClampNeg i1z5978_) rfl
          refine pw_blkw hT 8 (pc := 142) (lo := [some (pvR 124), some (pvI i1z5978_)]) (st := []) (M := pvu M7930_ 127 (Int32.toNatClampNeg i1z5978_) (M7930_.1 153 (Int32.toNatClampNeg i1z5978_))) rfl ⟨trivial, rfl, trivial, trivial, rfl, trivial, ⟨rfl, (zr_in (n := 7) b7923_ (by decide) (by decide))⟩, ⟨rfl, (zr_in (n := 7) b7923_ (by decide) (by decide))⟩, trivial⟩ (fun M7935_ e7936_ => ?_)
          have o7937_ : pvOk M7935_ := pvok_u2 e7936_ o7932_ rfl b7934_
          have f7938_ : pvFr fp_eX10_undo_124 M M7935_ := pvfr_u e7936_ f7933_ rfl
          have b7939_ : 0 ≤ Int32.toInt (M7935_.1 154 (Int32.toNatClampNeg i1z5978_)) ∧ Int32.toInt (M7935_.1 154 (Int32.toNatClampNeg i1z5978_)) ≤ 4 := pvok_r o7937_ 154 (Int32.toNatClampNeg i1z5978_) rfl
          refine pw_blkw hT 8 (pc := 154) (lo := [some (pvR 124), some (pvI i1z5978_)]) (st := []) (M := pvu M7935_ 128 (Int32.toNatClampNeg i1z5978_) (M7935_.1 154 (Int32.toNatClampNeg i1z5978_))) rfl ⟨trivial, rfl, trivial, trivial, rfl, trivial, ⟨rfl, (zr_in (n := 7) b7923_ (by decide) (by decide))⟩, ⟨rfl, (zr_in (n := 7) b7923_ (by decide) (by decide))⟩, trivial⟩ (fun M7940_ e7941_ => ?_)
          have o7942_ : pvOk M7940_ := pvok_u2 e7941_ o7937_ rfl b7939_
          have f7943_ : pvFr fp_eX10_undo_124 M M7940_ := pvfr_u e7941_ f7938_ rfl
          have b7944_ : 0 ≤ Int32.toInt (M7940_.1 155 (Int32.toNatClampNeg i1z5978_)) ∧ Int32.toInt (M7940_.1 155 (Int32.toNatClampNeg i1z5978_)) ≤ 9 := pvok_r o7942_ 155 (Int32.toNatClampNeg i1z5978_) rfl
          refine pw_blkw hT 8 (pc := 166) (lo := [some (pvR 124), some (pvI i1z5978_)]) (st := []) (M := pvu M7940_ 129 (Int32.toNatClampNeg i1z5978_) (M7940_.1 155 (Int32.toNatClampNeg i1z5978_))) rfl ⟨trivial, rfl, trivial, trivial, rfl, trivial, ⟨rfl, (zr_in (n := 7) b7923_ (by decide) (by decide))⟩, ⟨rfl, (zr_in (n := 7) b7923_ (by decide) (by decide))⟩, trivial⟩ (fun M7945_ e7946_ => ?_)
          have o7947_ : pvOk M7945_ := pvok_u2 e7946_ o7942_ rfl b7944_
          have f7948_ : pvFr fp_eX10_undo_124 M M7945_ := pvfr_u e7946_ f7943_ rfl
          have b7949_ : 0 ≤ Int32.toInt (M7945_.1 162 (Int32.toNatClampNeg i1z5978_)) ∧ Int32.toInt (M7945_.1 162 (Int32.toNatClampNeg i1z5978_)) ≤ 1 := pvok_r o7947_ 162 (Int32.toNatClampNeg i1z5978_) rfl
          refine pw_blkw hT 8 (pc := 178) (lo := [some (pvR 124), some (pvI i1z5978_)]) (st := []) (M := pvu M7945_ 131 (Int32.toNatClampNeg i1z5978_) (vp_nar .boolean (M7945_.1 162 (Int32.toNatClampNeg i1z5978_)))) rfl ⟨trivial, rfl, trivial, trivial, rfl, trivial, ⟨rfl, (zr_in (n := 7) b7923_ (by decide) (by decide))⟩, ⟨rfl, (zr_in (n := 7) b7923_ (by decide) (by decide))⟩, trivial⟩ (fun M7950_ e7951_ => ?_)
          have o7952_ : pvOk M7950_ := pvok_u2 e7951_ o7947_ rfl (zboolr (M7945_.1 162 (Int32.toNatClampNeg i1z5978_)))
          have f7953_ : pvFr fp_eX10_undo_124 M M7950_ := pvfr_u e7951_ f7948_ rfl
          have b7954_ : 0 ≤ Int32.toInt (M7950_.1 157 (Int32.toNatClampNeg i1z5978_)) ∧ Int32.toInt (M7950_.1 157 (Int32.toNatClampNeg i1z5978_)) ≤ 6 := pvok_r o7952_ 157 (Int32.toNatClampNeg i1z5978_) rfl
          refine pw_blkw hT 8 (pc := 190) (lo := [some (pvR 124), some (pvI i1z5978_)]) (st := []) (M := pvu M7950_ 145 (Int32.toNatClampNeg i1z5978_) (M7950_.1 157 (Int32.toNatClampNeg i1z5978_))) rfl ⟨trivial, rfl, trivial, trivial, rfl, trivial, ⟨rfl, (zr_in (n := 7) b7923_ (by decide) (by decide))⟩, ⟨rfl, (zr_in (n := 7) b7923_ (by decide) (by decide))⟩, trivial⟩ (fun M7955_ e7956_ => ?_)
          have o7957_ : pvOk M7955_ := pvok_u2 e7956_ o7952_ rfl b7954_
          have f7958_ : pvFr fp_eX10_undo_124 M M7955_ := pvfr_u e7956_ f7953_ rfl
          obtain ⟨q7960_, b7959_⟩ : (Int32.toInt (i1z5978_ + 1) = Int32.toInt i1z5978_ + 1) ∧ (1 ≤ Int32.toInt (i1z5978_ + 1) ∧ Int32.toInt (i1z5978_ + 1) ≤ 7) := zadd_k i1z5978_ 1 1 1 7 b7923_ (by decide) (by decide) (by decide) (by decide) (by decide)
          refine pw_blk hT 2 (S' := (100, [some (pvR 124), some (pvI (i1z5978_ + 1))], [], M7955_)) rfl ⟨trivial, trivial, trivial⟩ ?_
          have j7961_ : Int32.toInt (M7955_.1 124 15) = Int32.toInt (M.1 124 47) := (by have y01 : Int32.toInt (M7955_.1 124 15) = Int32.toInt (Mz5978_.1 124 15) := congrArg Int32.toInt (((((((pvu_n e7956_ 124 15 (Or.inl (by decide))).trans (pvu_n e7951_ 124 15 (Or.inl (by decide)))).trans (pvu_n e7946_ 124 15 (Or.inl (by decide)))).trans (pvu_n e7941_ 124 15 (Or.inl (by decide)))).trans (pvu_n e7936_ 124 15 (Or.inl (by decide)))).trans (pvu_n e7931_ 124 15 (Or.inl (by decide)))).trans (pvu_n e7926_ 124 15 (Or.inl (by decide)))); omega)
          have j7962_ : Int32.toInt (M7955_.1 124 3) = Int32.toInt (M.1 124 51) := (by have y01 : Int32.toInt (M7955_.1 124 3) = Int32.toInt (Mz5978_.1 124 3) := congrArg Int32.toInt (((((((pvu_n e7956_ 124 3 (Or.inl (by decide))).trans (pvu_n e7951_ 124 3 (Or.inl (by decide)))).trans (pvu_n e7946_ 124 3 (Or.inl (by decide)))).trans (pvu_n e7941_ 124 3 (Or.inl (by decide)))).trans (pvu_n e7936_ 124 3 (Or.inl (by decide)))).trans (pvu_n e7931_ 124 3 (Or.inl (by decide)))).trans (pvu_n e7926_ 124 3 (Or.inl (by decide)))); omega)
          have j7963_ : M7955_.1 124 0 = (M.1 124 48) := ((((((((pvu_n e7956_ 124 0 (Or.inl (by decide))).trans (pvu_n e7951_ 124 0 (Or.inl (by decide)))).trans (pvu_n e7946_ 124 0 (Or.inl (by decide)))).trans (pvu_n e7941_ 124 0 (Or.inl (by decide)))).trans (pvu_n e7936_ 124 0 (Or.inl (by decide)))).trans (pvu_n e7931_ 124 0 (Or.inl (by decide)))).trans (pvu_n e7926_ 124 0 (Or.inl (by decide)))).trans (j2z5978_))
          have j7964_ : M7955_.1 124 3 = (M.1 124 51) := ((((((((pvu_n e7956_ 124 3 (Or.inl (by decide))).trans (pvu_n e7951_ 124 3 (Or.inl (by decide)))).trans (pvu_n e7946_ 124 3 (Or.inl (by decide)))).trans (pvu_n e7941_ 124 3 (Or.inl (by decide)))).trans (pvu_n e7936_ 124 3 (Or.inl (by decide)))).trans (pvu_n e7931_ 124 3 (Or.inl (by decide)))).trans (pvu_n e7926_ 124 3 (Or.inl (by decide)))).trans (j3z5978_))
          have j7965_ : M7955_.1 124 4 = (M.1 124 52) := ((((((((pvu_n e7956_ 124 4 (Or.inl (by decide))).trans (pvu_n e7951_ 124 4 (Or.inl (by decide)))).trans (pvu_n e7946_ 124 4 (Or.inl (by decide)))).trans (pvu_n e7941_ 124 4 (Or.inl (by decide)))).trans (pvu_n e7936_ 124 4 (Or.inl (by decide)))).trans (pvu_n e7931_ 124 4 (Or.inl (by decide)))).trans (pvu_n e7926_ 124 4 (Or.inl (by decide)))).trans (j4z5978_))
          have j7966_ : M7955_.1 124 40 = (M.1 124 56) := ((((((((pvu_n e7956_ 124 40 (Or.inl (by decide))).trans (pvu_n e7951_ 124 40 (Or.inl (by decide)))).trans (pvu_n e7946_ 124 40 (Or.inl (by decide)))).trans (pvu_n e7941_ 124 40 (Or.inl (by decide)))).trans (pvu_n e7936_ 124 40 (Or.inl (by decide)))).trans (pvu_n e7931_ 124 40 (Or.inl (by decide)))).trans (pvu_n e7926_ 124 40 (Or.inl (by decide)))).trans (j5z5978_))
          have j7967_ : M7955_.1 124 43 = (M.1 124 57) := ((((((((pvu_n e7956_ 124 43 (Or.inl (by decide))).trans (pvu_n e7951_ 124 43 (Or.inl (by decide)))).trans (pvu_n e7946_ 124 43 (Or.inl (by decide)))).trans (pvu_n e7941_ 124 43 (Or.inl (by decide)))).trans (pvu_n e7936_ 124 43 (Or.inl (by decide)))).trans (pvu_n e7931_ 124 43 (Or.inl (by decide)))).trans (pvu_n e7926_ 124 43 (Or.inl (by decide)))).trans (j6z5978_))
          exact ihz5978_ (i1z5978_ + 1) M7955_ o7957_ f7958_ ((((((((pvu_n e7956_ 124 46 (Or.inl (by decide))).trans (pvu_n e7951_ 124 46 (Or.inl (by decide)))).trans (pvu_n e7946_ 124 46 (Or.inl (by decide)))).trans (pvu_n e7941_ 124 46 (Or.inl (by decide)))).trans (pvu_n e7936_ 124 46 (Or.inl (by decide)))).trans (pvu_n e7931_ 124 46 (Or.inl (by decide)))).trans (pvu_n e7926_ 124 46 (Or.inl (by decide)))).trans (k124_46z5978_)) (zr_wide b7959_ (by decide) (by decide)) j7961_ j7962_ j7963_ j7964_ j7965_ j7966_ j7967_ (zhid (by have hm0 := zshow hmz5978_; have y01 : Int32.toInt (M7955_.1 124 15) = Int32.toInt (Mz5978_.1 124 15) := congrArg Int32.toInt (((((((pvu_n e7956_ 124 15 (Or.inl (by decide))).trans (pvu_n e7951_ 124 15 (Or.inl (by decide)))).trans (pvu_n e7946_ 124 15 (Or.inl (by decide)))).trans (pvu_n e7941_ 124 15 (Or.inl (by decide)))).trans (pvu_n e7936_ 124 15 (Or.inl (by decide)))).trans (pvu_n e7931_ 124 15 (Or.inl (by decide)))).trans (pvu_n e7926_ 124 15 (Or.inl (by decide)))); have y11 : Int32.toInt (M7955_.1 124 3) = Int32.toInt (Mz5978_.1 124 3) := congrArg Int32.toInt (((((((pvu_n e7956_ 124 3 (Or.inl (by decide))).trans (pvu_n e7951_ 124 3 (Or.inl (by decide)))).trans (pvu_n e7946_ 124 3 (Or.inl (by decide)))).trans (pvu_n e7941_ 124 3 (Or.inl (by decide)))).trans (pvu_n e7936_ 124 3 (Or.inl (by decide)))).trans (pvu_n e7931_ 124 3 (Or.inl (by decide)))).trans (pvu_n e7926_ 124 3 (Or.inl (by decide)))); omega))
    have u7968_ : Int32.toInt 0 = 0 := by decide
    have j7969_ : Int32.toInt (M55_.1 124 15) = Int32.toInt (M.1 124 47) := (by have z1 : Int32.toInt (M55_.1 124 15) = Int32.toInt (M.1 124 47) := congrArg Int32.toInt (((((((((((pvu_n e56_ 124 15 (Or.inr (by decide))).trans (pvu_n e51_ 124 15 (Or.inr (by decide)))).trans (pvu_n e46_ 124 15 (Or.inr (by decide)))).trans (pvu_n e41_ 124 15 (Or.inr (by decide)))).trans (pvu_n e36_ 124 15 (Or.inr (by decide)))).trans (pvu_n e31_ 124 15 (Or.inr (by decide)))).trans (pvu_n e26_ 124 15 (Or.inr (by decide)))).trans (pvu_n e21_ 124 15 (Or.inr (by decide)))).trans (pvu_n e16_ 124 15 (Or.inr (by decide)))).trans (pvu_n e11_ 124 15 (Or.inr (by decide)))).trans (pvu_s e6_)); omega)
    have j7970_ : Int32.toInt (M55_.1 124 3) = Int32.toInt (M.1 124 51) := (by have z1 : Int32.toInt (M55_.1 124 3) = Int32.toInt (M20_.1 124 51) := congrArg Int32.toInt (((((((pvu_n e56_ 124 3 (Or.inr (by decide))).trans (pvu_n e51_ 124 3 (Or.inr (by decide)))).trans (pvu_n e46_ 124 3 (Or.inr (by decide)))).trans (pvu_n e41_ 124 3 (Or.inr (by decide)))).trans (pvu_n e36_ 124 3 (Or.inr (by decide)))).trans (pvu_n e31_ 124 3 (Or.inr (by decide)))).trans (pvu_s e26_)); have z2 : Int32.toInt (M20_.1 124 51) = Int32.toInt (M.1 124 51) := congrArg Int32.toInt ((((pvu_n e21_ 124 51 (Or.inr (by decide))).trans (pvu_n e16_ 124 51 (Or.inr (by decide)))).trans (pvu_n e11_ 124 51 (Or.inr (by decide)))).trans (pvu_n e6_ 124 51 (Or.inr (by decide)))); omega)
    have j7971_ : M55_.1 124 0 = (M.1 124 48) := (((((((((((pvu_n e56_ 124 0 (Or.inr (by decide))).trans (pvu_n e51_ 124 0 (Or.inr (by decide)))).trans (pvu_n e46_ 124 0 (Or.inr (by decide)))).trans (pvu_n e41_ 124 0 (Or.inr (by decide)))).trans (pvu_n e36_ 124 0 (Or.inr (by decide)))).trans (pvu_n e31_ 124 0 (Or.inr (by decide)))).trans (pvu_n e26_ 124 0 (Or.inr (by decide)))).trans (pvu_n e21_ 124 0 (Or.inr (by decide)))).trans (pvu_n e16_ 124 0 (Or.inr (by decide)))).trans (pvu_s e11_)).trans (pvu_n e6_ 124 48 (Or.inr (by decide))))
    have j7972_ : M55_.1 124 3 = (M.1 124 51) := ((((((((pvu_n e56_ 124 3 (Or.inr (by decide))).trans (pvu_n e51_ 124 3 (Or.inr (by decide)))).trans (pvu_n e46_ 124 3 (Or.inr (by decide)))).trans (pvu_n e41_ 124 3 (Or.inr (by decide)))).trans (pvu_n e36_ 124 3 (Or.inr (by decide)))).trans (pvu_n e31_ 124 3 (Or.inr (by decide)))).trans (pvu_s e26_)).trans ((((pvu_n e21_ 124 51 (Or.inr (by decide))).trans (pvu_n e16_ 124 51 (Or.inr (by decide)))).trans (pvu_n e11_ 124 51 (Or.inr (by decide)))).trans (pvu_n e6_ 124 51 (Or.inr (by decide)))))
    have j7973_ : M55_.1 124 4 = (M.1 124 52) := (((((((pvu_n e56_ 124 4 (Or.inr (by decide))).trans (pvu_n e51_ 124 4 (Or.inr (by decide)))).trans (pvu_n e46_ 124 4 (Or.inr (by decide)))).trans (pvu_n e41_ 124 4 (Or.inr (by decide)))).trans (pvu_n e36_ 124 4 (Or.inr (by decide)))).trans (pvu_s e31_)).trans (((((pvu_n e26_ 124 52 (Or.inr (by decide))).trans (pvu_n e21_ 124 52 (Or.inr (by decide)))).trans (pvu_n e16_ 124 52 (Or.inr (by decide)))).trans (pvu_n e11_ 124 52 (Or.inr (by decide)))).trans (pvu_n e6_ 124 52 (Or.inr (by decide)))))
    have j7974_ : M55_.1 124 40 = (M.1 124 56) := (((pvu_n e56_ 124 40 (Or.inr (by decide))).trans (pvu_s e51_)).trans (((((((((pvu_n e46_ 124 56 (Or.inr (by decide))).trans (pvu_n e41_ 124 56 (Or.inr (by decide)))).trans (pvu_n e36_ 124 56 (Or.inr (by decide)))).trans (pvu_n e31_ 124 56 (Or.inr (by decide)))).trans (pvu_n e26_ 124 56 (Or.inr (by decide)))).trans (pvu_n e21_ 124 56 (Or.inr (by decide)))).trans (pvu_n e16_ 124 56 (Or.inr (by decide)))).trans (pvu_n e11_ 124 56 (Or.inr (by decide)))).trans (pvu_n e6_ 124 56 (Or.inr (by decide)))))
    have j7975_ : M55_.1 124 43 = (M.1 124 57) := ((pvu_s e56_).trans ((((((((((pvu_n e51_ 124 57 (Or.inr (by decide))).trans (pvu_n e46_ 124 57 (Or.inr (by decide)))).trans (pvu_n e41_ 124 57 (Or.inr (by decide)))).trans (pvu_n e36_ 124 57 (Or.inr (by decide)))).trans (pvu_n e31_ 124 57 (Or.inr (by decide)))).trans (pvu_n e26_ 124 57 (Or.inr (by decide)))).trans (pvu_n e21_ 124 57 (Or.inr (by decide)))).trans (pvu_n e16_ 124 57 (Or.inr (by decide)))).trans (pvu_n e11_ 124 57 (Or.inr (by decide)))).trans (pvu_n e6_ 124 57 (Or.inr (by decide)))))
    exact hlz5978_ _ 0 M55_ o57_ f58_ rfl (zr_wide (show 0 ≤ Int32.toInt 0 ∧ Int32.toInt 0 ≤ 0 from (by decide)) (by decide) (by decide)) j7969_ j7970_ j7971_ j7972_ j7973_ j7974_ j7975_ (zhid (Nat.lt_succ_self _))
  · have b7976_ : 0 ≤ Int32.toInt (M.1 124 46) ∧ Int32.toInt (M.1 124 46) ≤ 0 := (by have u0 := b1_; have u1 := (zi_eq _ _).mp c2_; have u2 := (show 0 ≤ Int32.toInt 0 ∧ Int32.toInt 0 ≤ 0 from (by decide)); omega)
    refine pw_blk hT 1 (S' := (9, [some (pvR 124), none], [pvI (-3)], M)) rfl ⟨trivial, trivial⟩ ?_
    exact pw_ret hT rfl (r := some (pvI (-3))) (M' := M) ⟨rfl, rfl⟩ ⟨⟨_, rfl, (zr_wide (show (-3) ≤ Int32.toInt (-3) ∧ Int32.toInt (-3) ≤ (-3) from (by decide)) (by decide) (by decide)), (by rw [if_pos c2_])⟩, hok, pvfr_0, ⟨fun hz => ⟨by have z3 := hz.1; have z4 := hz.2.1; omega, by have z3 := hz.1; have z4 := hz.2.1; omega, fun a ha => pvWh_r rfl rfl rfl rfl rfl (hz.2.2 a (by omega))⟩, fun hc hc2 => by omega⟩, (by rw [if_pos c2_]; exact rfl), (by rw [if_pos c2_]; exact rfl), (by rw [if_pos c2_]; exact rfl), (by rw [if_pos c2_]; exact rfl), (by rw [if_pos c2_]; exact rfl)⟩
def fpL_eX10_window_124_x_x_x_x_x : List (Nat × Nat × Nat) := [(0, 124, 1), (0, 125, 0), (0, 126, 0), (0, 127, 0), (0, 128, 0), (0, 129, 0), (0, 130, 0), (0, 131, 0)]
def fp_eX10_window_124_x_x_x_x_x (q k : Nat) : Bool := pvfp fpL_eX10_window_124_x_x_x_x_x q k
set_option maxHeartbeats 4000000 in
set_option maxRecDepth 10000 in
theorem se_X10_window_124_x_x_x_x_x (M : pvM) (hok : pvOk M) (n1 : Int32) (n2 : Int32) (n3 : Int32) (n4 : Int32) (n5 : Int32) (d : Nat) : PW 97 d (0, [some (pvR 124), some (pvI n1), some (pvI n2), some (pvI n3), some (pvI n4), some (pvI n5), none], [], M) (fun r X => (∃ x : Int32, r = some (pvI x) ∧ ((-4) ≤ Int32.toInt x ∧ Int32.toInt x ≤ 6) ∧ x = (if n1 < 0 then (-1) else (if 6 < n1 then (-1) else (if n2 < 0 then (-2) else (if 9 < n2 then (-2) else (if n3 < 0 then (-2) else (if 3 < n3 then (-2) else (if n4 < 0 then (-2) else (if 4 < n4 then (-2) else (if n5 < 1 then (-2) else (if 9 < n5 then (-2) else (if (M.1 124 0) = 7 then (-4) else (((M.1 124 0) + 1) - 1))))))))))))) ∧ pvOk X ∧ pvFr fp_eX10_window_124_x_x_x_x_x M X ∧ X.1 124 0 = (if n1 < 0 then (M.1 124 0) else (if 6 < n1 then (M.1 124 0) else (if n2 < 0 then (M.1 124 0) else (if 9 < n2 then (M.1 124 0) else (if n3 < 0 then (M.1 124 0) else (if 3 < n3 then (M.1 124 0) else (if n4 < 0 then (M.1 124 0) else (if 4 < n4 then (M.1 124 0) else (if n5 < 1 then (M.1 124 0) else (if 9 < n5 then (M.1 124 0) else (if (M.1 124 0) = 7 then (M.1 124 0) else ((M.1 124 0) + 1))))))))))))) := by
  have hT : pvdom 97 = pvD_97 := rfl
  refine pw_blk hT 4 (S' := (5, [some (pvR 124), some (pvI n1), some (pvI n2), some (pvI n3), some (pvI n4), some (pvI n5), none], [pvI 6, pvI 0, pvI n1, pvR 124], M)) rfl ⟨trivial, trivial, trivial, trivial, trivial⟩ ?_
  refine pw_callT hT (as := [pvR 124, pvI n1, pvI 0, pvI 6]) (lo1 := [some (pvR 124), some (pvI n1), some (pvI 0), some (pvI 6)]) (d1 := d) (rest := []) rfl rfl rfl rfl rfl (fun _ => rfl) (Nat.zero_le _) rfl rfl rfl (sf_X10_in_124_x_x_x M hok n1 0 6 d) ?_
  by_cases c6_ : n1 < 0
  · refine pw_eqI (if_pos c6_) ?_
    have b7_ : (-2147483648) ≤ Int32.toInt n1 ∧ Int32.toInt n1 ≤ (-1) := zr_lt_l (-1) c6_ (zbnd n1) (show 0 ≤ Int32.toInt 0 ∧ Int32.toInt 0 ≤ 0 from (by decide)) (by decide)
    show PW 97 d (8, [some (pvR 124), some (pvI n1), some (pvI n2), some (pvI n3), some (pvI n4), some (pvI n5), none], [pvI 0], M) _
    refine pw_ifn hT (c := 0 = 0) rfl rfl (fun c8_ => absurd (by decide) c8_) (fun c8_ => ?_)
    refine pw_blk hT 1 (S' := (12, [some (pvR 124), some (pvI n1), some (pvI n2), some (pvI n3), some (pvI n4), some (pvI n5), none], [pvI (-1)], M)) rfl ⟨trivial, trivial⟩ ?_
    exact pw_ret hT rfl (r := some (pvI (-1))) (M' := M) ⟨rfl, rfl⟩ ⟨⟨_, rfl, (zr_wide (show (-1) ≤ Int32.toInt (-1) ∧ Int32.toInt (-1) ≤ (-1) from (by decide)) (by decide) (by decide)), (by rw [if_pos c6_])⟩, hok, pvfr_0, (by rw [if_pos c6_]; exact rfl)⟩
  · refine pw_eqI (if_neg c6_) ?_
    have b9_ : 0 ≤ Int32.toInt n1 ∧ Int32.toInt n1 ≤ 2147483647 := zr_nlt_l 0 c6_ (zbnd n1) (show 0 ≤ Int32.toInt 0 ∧ Int32.toInt 0 ≤ 0 from (by decide)) (by decide)
    by_cases c10_ : 6 < n1
    · refine pw_eqI (if_pos c10_) ?_
      have b11_ : 7 ≤ Int32.toInt n1 ∧ Int32.toInt n1 ≤ 2147483647 := zr_lt_r 7 c10_ b9_ (show 6 ≤ Int32.toInt 6 ∧ Int32.toInt 6 ≤ 6 from (by decide)) (by decide)
      show PW 97 d (8, [some (pvR 124), some (pvI n1), some (pvI n2), some (pvI n3), some (pvI n4), some (pvI n5), none], [pvI 0], M) _
      refine pw_ifn hT (c := 0 = 0) rfl rfl (fun c12_ => absurd (by decide) c12_) (fun c12_ => ?_)
      refine pw_blk hT 1 (S' := (12, [some (pvR 124), some (pvI n1), some (pvI n2), some (pvI n3), some (pvI n4), some (pvI n5), none], [pvI (-1)], M)) rfl ⟨trivial, trivial⟩ ?_
      exact pw_ret hT rfl (r := some (pvI (-1))) (M' := M) ⟨rfl, rfl⟩ ⟨⟨_, rfl, (zr_wide (show (-1) ≤ Int32.toInt (-1) ∧ Int32.toInt (-1) ≤ (-1) from (by decide)) (by decide) (by decide)), (by rw [if_neg c6_, if_pos c10_])⟩, hok, pvfr_0, (by rw [if_neg c6_, if_pos c10_]; exact rfl)⟩
    · refine pw_eqI (if_neg c10_) ?_
      have b13_ : 0 ≤ Int32.toInt n1 ∧ Int32.toInt n1 ≤ 6 := zr_nlt_r 6 c10_ b9_ (show 6 ≤ Int32.toInt 6 ∧ Int32.toInt 6 ≤ 6 from (by decide)) (by decide)
      show PW 97 d (8, [some (pvR 124), some (pvI n1), some (pvI n2), some (pvI n3), some (pvI n4), some (pvI n5), none], [pvI 1], M) _
      refine pw_ifn hT (c := 1 = 0) rfl rfl (fun c14_ => ?_) (fun c14_ => absurd c14_ (by decide))
      refine pw_blk hT 4 (S' := (18, [some (pvR 124), some (pvI n1), some (pvI n2), some (pvI n3), some (pvI n4), some (pvI n5), none], [pvI 9, pvI 0, pvI n2, pvR 124], M)) rfl ⟨trivial, trivial, trivial, trivial, trivial⟩ ?_
      refine pw_callT hT (as := [pvR 124, pvI n2, pvI 0, pvI 9]) (lo1 := [some (pvR 124), some (pvI n2), some (pvI 0), some (pvI 9)]) (d1 := d) (rest := []) rfl rfl rfl rfl rfl (fun _ => rfl) (Nat.zero_le _) rfl rfl rfl (sf_X10_in_124_x_x_x M hok n2 0 9 d) ?_
      by_cases c20_ : n2 < 0
      · refine pw_eqI (if_pos c20_) ?_
        have b21_ : (-2147483648) ≤ Int32.toInt n2 ∧ Int32.toInt n2 ≤ (-1) := zr_lt_l (-1) c20_ (zbnd n2) (show 0 ≤ Int32.toInt 0 ∧ Int32.toInt 0 ≤ 0 from (by decide)) (by decide)
        show PW 97 d (21, [some (pvR 124), some (pvI n1), some (pvI n2), some (pvI n3), some (pvI n4), some (pvI n5), none], [pvI 0], M) _
        refine pw_if hT (c := 0 = 0) rfl rfl (fun c22_ => ?_) (fun c22_ => absurd (by decide) c22_)
        refine pw_blk hT 1 (S' := (48, [some (pvR 124), some (pvI n1), some (pvI n2), some (pvI n3), some (pvI n4), some (pvI n5), none], [pvI (-2)], M)) rfl ⟨trivial, trivial⟩ ?_
        exact pw_ret hT rfl (r := some (pvI (-2))) (M' := M) ⟨rfl, rfl⟩ ⟨⟨_, rfl, (zr_wide (show (-2) ≤ Int32.toInt (-2) ∧ Int32.toInt (-2) ≤ (-2) from (by decide)) (by decide) (by decide)), (by rw [if_neg c6_, if_neg c10_, if_pos c20_])⟩, hok, pvfr_0, (by rw [if_neg c6_, if_neg c10_, if_pos c20_]; exact rfl)⟩
      · refine pw_eqI (if_neg c20_) ?_
        have b23_ : 0 ≤ Int32.toInt n2 ∧ Int32.toInt n2 ≤ 2147483647 := zr_nlt_l 0 c20_ (zbnd n2) (show 0 ≤ Int32.toInt 0 ∧ Int32.toInt 0 ≤ 0 from (by decide)) (by decide)
        by_cases c24_ : 9 < n2
        · refine pw_eqI (if_pos c24_) ?_
          have b25_ : 10 ≤ Int32.toInt n2 ∧ Int32.toInt n2 ≤ 2147483647 := zr_lt_r 10 c24_ b23_ (show 9 ≤ Int32.toInt 9 ∧ Int32.toInt 9 ≤ 9 from (by decide)) (by decide)
          show PW 97 d (21, [some (pvR 124), some (pvI n1), some (pvI n2), some (pvI n3), some (pvI n4), some (pvI n5), none], [pvI 0], M) _
          refine pw_if hT (c := 0 = 0) rfl rfl (fun c26_ => ?_) (fun c26_ => absurd (by decide) c26_)
          refine pw_blk hT 1 (S' := (48, [some (pvR 124), some (pvI n1), some (pvI n2), some (pvI n3), some (pvI n4), some (pvI n5), none], [pvI (-2)], M)) rfl ⟨trivial, trivial⟩ ?_
          exact pw_ret hT rfl (r := some (pvI (-2))) (M' := M) ⟨rfl, rfl⟩ ⟨⟨_, rfl, (zr_wide (show (-2) ≤ Int32.toInt (-2) ∧ Int32.toInt (-2) ≤ (-2) from (by decide)) (by decide) (by decide)), (by rw [if_neg c6_, if_neg c10_, if_neg c20_, if_pos c24_])⟩, hok, pvfr_0, (by rw [if_neg c6_, if_neg c10_, if_neg c20_, if_pos c24_]; exact rfl)⟩
        · refine pw_eqI (if_neg c24_) ?_
          have b27_ : 0 ≤ Int32.toInt n2 ∧ Int32.toInt n2 ≤ 9 := zr_nlt_r 9 c24_ b23_ (show 9 ≤ Int32.toInt 9 ∧ Int32.toInt 9 ≤ 9 from (by decide)) (by decide)
          show PW 97 d (21, [some (pvR 124), some (pvI n1), some (pvI n2), some (pvI n3), some (pvI n4), some (pvI n5), none], [pvI 1], M) _
          refine pw_if hT (c := 1 = 0) rfl rfl (fun c28_ => absurd c28_ (by decide)) (fun c28_ => ?_)
          refine pw_blk hT 3 (S' := (28, [some (pvR 124), some (pvI n1), some (pvI n2), some (pvI n3), some (pvI n4), some (pvI n5), none], [pvI n4, pvI n3, pvR 124], M)) rfl ⟨trivial, trivial, trivial, trivial⟩ ?_
          refine pw_callT hT (as := [pvR 124, pvI n3, pvI n4]) (lo1 := [some (pvR 124), some (pvI n3), some (pvI n4)]) (d1 := d) (rest := []) rfl rfl rfl rfl rfl (fun _ => rfl) (Nat.zero_le _) rfl rfl rfl (sf_X10_isPlace_124_x_x M hok n3 n4 d) ?_
          by_cases c34_ : n3 < 0
          · refine pw_eqI (if_pos c34_) ?_
            have b35_ : (-2147483648) ≤ Int32.toInt n3 ∧ Int32.toInt n3 ≤ (-1) := zr_lt_l (-1) c34_ (zbnd n3) (show 0 ≤ Int32.toInt 0 ∧ Int32.toInt 0 ≤ 0 from (by decide)) (by decide)
            show PW 97 d (31, [some (pvR 124), some (pvI n1), some (pvI n2), some (pvI n3), some (pvI n4), some (pvI n5), none], [pvI 0], M) _
            refine pw_if hT (c := 0 = 0) rfl rfl (fun c36_ => ?_) (fun c36_ => absurd (by decide) c36_)
            refine pw_blk hT 1 (S' := (48, [some (pvR 124), some (pvI n1), some (pvI n2), some (pvI n3), some (pvI n4), some (pvI n5), none], [pvI (-2)], M)) rfl ⟨trivial, trivial⟩ ?_
            exact pw_ret hT rfl (r := some (pvI (-2))) (M' := M) ⟨rfl, rfl⟩ ⟨⟨_, rfl, (zr_wide (show (-2) ≤ Int32.toInt (-2) ∧ Int32.toInt (-2) ≤ (-2) from (by decide)) (by decide) (by decide)), (by rw [if_neg c6_, if_neg c10_, if_neg c20_, if_neg c24_, if_pos c34_])⟩, hok, pvfr_0, (by rw [if_neg c6_, if_neg c10_, if_neg c20_, if_neg c24_, if_pos c34_]; exact rfl)⟩
          · refine pw_eqI (if_neg c34_) ?_
            have b37_ : 0 ≤ Int32.toInt n3 ∧ Int32.toInt n3 ≤ 2147483647 := zr_nlt_l 0 c34_ (zbnd n3) (show 0 ≤ Int32.toInt 0 ∧ Int32.toInt 0 ≤ 0 from (by decide)) (by decide)
            by_cases c38_ : 3 < n3
            · refine pw_eqI (if_pos c38_) ?_
              have b39_ : 4 ≤ Int32.toInt n3 ∧ Int32.toInt n3 ≤ 2147483647 := zr_lt_r 4 c38_ b37_ (show 3 ≤ Int32.toInt 3 ∧ Int32.toInt 3 ≤ 3 from (by decide)) (by decide)
              show PW 97 d (31, [some (pvR 124), some (pvI n1), some (pvI n2), some (pvI n3), some (pvI n4), some (pvI n5), none], [pvI 0], M) _
              refine pw_if hT (c := 0 = 0) rfl rfl (fun c40_ => ?_) (fun c40_ => absurd (by decide) c40_)
              refine pw_blk hT 1 (S' := (48, [some (pvR 124), some (pvI n1), some (pvI n2), some (pvI n3), some (pvI n4), some (pvI n5), none], [pvI (-2)], M)) rfl ⟨trivial, trivial⟩ ?_
              exact pw_ret hT rfl (r := some (pvI (-2))) (M' := M) ⟨rfl, rfl⟩ ⟨⟨_, rfl, (zr_wide (show (-2) ≤ Int32.toInt (-2) ∧ Int32.toInt (-2) ≤ (-2) from (by decide)) (by decide) (by decide)), (by rw [if_neg c6_, if_neg c10_, if_neg c20_, if_neg c24_, if_neg c34_, if_pos c38_])⟩, hok, pvfr_0, (by rw [if_neg c6_, if_neg c10_, if_neg c20_, if_neg c24_, if_neg c34_, if_pos c38_]; exact rfl)⟩
            · refine pw_eqI (if_neg c38_) ?_
              have b41_ : 0 ≤ Int32.toInt n3 ∧ Int32.toInt n3 ≤ 3 := zr_nlt_r 3 c38_ b37_ (show 3 ≤ Int32.toInt 3 ∧ Int32.toInt 3 ≤ 3 from (by decide)) (by decide)
              by_cases c42_ : n4 < 0
              · refine pw_eqI (if_pos c42_) ?_
                have b43_ : (-2147483648) ≤ Int32.toInt n4 ∧ Int32.toInt n4 ≤ (-1) := zr_lt_l (-1) c42_ (zbnd n4) (show 0 ≤ Int32.toInt 0 ∧ Int32.toInt 0 ≤ 0 from (by decide)) (by decide)
                show PW 97 d (31, [some (pvR 124), some (pvI n1), some (pvI n2), some (pvI n3), some (pvI n4), some (pvI n5), none], [pvI 0], M) _
                refine pw_if hT (c := 0 = 0) rfl rfl (fun c44_ => ?_) (fun c44_ => absurd (by decide) c44_)
                refine pw_blk hT 1 (S' := (48, [some (pvR 124), some (pvI n1), some (pvI n2), some (pvI n3), some (pvI n4), some (pvI n5), none], [pvI (-2)], M)) rfl ⟨trivial, trivial⟩ ?_
                exact pw_ret hT rfl (r := some (pvI (-2))) (M' := M) ⟨rfl, rfl⟩ ⟨⟨_, rfl, (zr_wide (show (-2) ≤ Int32.toInt (-2) ∧ Int32.toInt (-2) ≤ (-2) from (by decide)) (by decide) (by decide)), (by rw [if_neg c6_, if_neg c10_, if_neg c20_, if_neg c24_, if_neg c34_, if_neg c38_, if_pos c42_])⟩, hok, pvfr_0, (by rw [if_neg c6_, if_neg c10_, if_neg c20_, if_neg c24_, if_neg c34_, if_neg c38_, if_pos c42_]; exact rfl)⟩
              · refine pw_eqI (if_neg c42_) ?_
                have b45_ : 0 ≤ Int32.toInt n4 ∧ Int32.toInt n4 ≤ 2147483647 := zr_nlt_l 0 c42_ (zbnd n4) (show 0 ≤ Int32.toInt 0 ∧ Int32.toInt 0 ≤ 0 from (by decide)) (by decide)
                by_cases c46_ : 4 < n4
                · refine pw_eqI (if_pos c46_) ?_
                  have b47_ : 5 ≤ Int32.toInt n4 ∧ Int32.toInt n4 ≤ 2147483647 := zr_lt_r 5 c46_ b45_ (show 4 ≤ Int32.toInt 4 ∧ Int32.toInt 4 ≤ 4 from (by decide)) (by decide)
                  show PW 97 d (31, [some (pvR 124), some (pvI n1), some (pvI n2), some (pvI n3), some (pvI n4), some (pvI n5), none], [pvI 0], M) _
                  refine pw_if hT (c := 0 = 0) rfl rfl (fun c48_ => ?_) (fun c48_ => absurd (by decide) c48_)
                  refine pw_blk hT 1 (S' := (48, [some (pvR 124), some (pvI n1), some (pvI n2), some (pvI n3), some (pvI n4), some (pvI n5), none], [pvI (-2)], M)) rfl ⟨trivial, trivial⟩ ?_
                  exact pw_ret hT rfl (r := some (pvI (-2))) (M' := M) ⟨rfl, rfl⟩ ⟨⟨_, rfl, (zr_wide (show (-2) ≤ Int32.toInt (-2) ∧ Int32.toInt (-2) ≤ (-2) from (by decide)) (by decide) (by decide)), (by rw [if_neg c6_, if_neg c10_, if_neg c20_, if_neg c24_, if_neg c34_, if_neg c38_, if_neg c42_, if_pos c46_])⟩, hok, pvfr_0, (by rw [if_neg c6_, if_neg c10_, if_neg c20_, if_neg c24_, if_neg c34_, if_neg c38_, if_neg c42_, if_pos c46_]; exact rfl)⟩
                · refine pw_eqI (if_neg c46_) ?_
                  have b49_ : 0 ≤ Int32.toInt n4 ∧ Int32.toInt n4 ≤ 4 := zr_nlt_r 4 c46_ b45_ (show 4 ≤ Int32.toInt 4 ∧ Int32.toInt 4 ≤ 4 from (by decide)) (by decide)
                  show PW 97 d (31, [some (pvR 124), some (pvI n1), some (pvI n2), some (pvI n3), some (pvI n4), some (pvI n5), none], [pvI 1], M) _
                  refine pw_if hT (c := 1 = 0) rfl rfl (fun c50_ => absurd c50_ (by decide)) (fun c50_ => ?_)
                  refine pw_blk hT 4 (S' := (40, [some (pvR 124), some (pvI n1), some (pvI n2), some (pvI n3), some (pvI n4), some (pvI n5), none], [pvI 9, pvI 1, pvI n5, pvR 124], M)) rfl ⟨trivial, trivial, trivial, trivial, trivial⟩ ?_
                  refine pw_callT hT (as := [pvR 124, pvI n5, pvI 1, pvI 9]) (lo1 := [some (pvR 124), some (pvI n5), some (pvI 1), some (pvI 9)]) (d1 := d) (rest := []) rfl rfl rfl rfl rfl (fun _ => rfl) (Nat.zero_le _) rfl rfl rfl (sf_X10_in_124_x_x_x M hok n5 1 9 d) ?_
                  by_cases c56_ : n5 < 1
                  · refine pw_eqI (if_pos c56_) ?_
                    have b57_ : (-2147483648) ≤ Int32.toInt n5 ∧ Int32.toInt n5 ≤ 0 := zr_lt_l 0 c56_ (zbnd n5) (show 1 ≤ Int32.toInt 1 ∧ Int32.toInt 1 ≤ 1 from (by decide)) (by decide)
                    show PW 97 d (43, [some (pvR 124), some (pvI n1), some (pvI n2), some (pvI n3), some (pvI n4), some (pvI n5), none], [pvI 0], M) _
                    refine pw_ifn hT (c := 0 = 0) rfl rfl (fun c58_ => absurd (by decide) c58_) (fun c58_ => ?_)
                    refine pw_blk hT 1 (S' := (48, [some (pvR 124), some (pvI n1), some (pvI n2), some (pvI n3), some (pvI n4), some (pvI n5), none], [pvI (-2)], M)) rfl ⟨trivial, trivial⟩ ?_
                    exact pw_ret hT rfl (r := some (pvI (-2))) (M' := M) ⟨rfl, rfl⟩ ⟨⟨_, rfl, (zr_wide (show (-2) ≤ Int32.toInt (-2) ∧ Int32.toInt (-2) ≤ (-2) from (by decide)) (by decide) (by decide)), (by rw [if_neg c6_, if_neg c10_, if_neg c20_, if_neg c24_, if_neg c34_, if_neg c38_, if_neg c42_, if_neg c46_, if_pos c56_])⟩, hok, pvfr_0, (by rw [if_neg c6_, if_neg c10_, if_neg c20_, if_neg c24_, if_neg c34_, if_neg c38_, if_neg c42_, if_neg c46_, if_pos c56_]; exact rfl)⟩
                  · refine pw_eqI (if_neg c56_) ?_
                    have b59_ : 1 ≤ Int32.toInt n5 ∧ Int32.toInt n5 ≤ 2147483647 := zr_nlt_l 1 c56_ (zbnd n5) (show 1 ≤ Int32.toInt 1 ∧ Int32.toInt 1 ≤ 1 from (by decide)) (by decide)
                    by_cases c60_ : 9 < n5
                    · refine pw_eqI (if_pos c60_) ?_
                      have b61_ : 10 ≤ Int32.toInt n5 ∧ Int32.toInt n5 ≤ 2147483647 := zr_lt_r 10 c60_ b59_ (show 9 ≤ Int32.toInt 9 ∧ Int32.toInt 9 ≤ 9 from (by decide)) (by decide)
                      show PW 97 d (43, [some (pvR 124), some (pvI n1), some (pvI n2), some (pvI n3), some (pvI n4), some (pvI n5), none], [pvI 0], M) _
                      refine pw_ifn hT (c := 0 = 0) rfl rfl (fun c62_ => absurd (by decide) c62_) (fun c62_ => ?_)
                      refine pw_blk hT 1 (S' := (48, [some (pvR 124), some (pvI n1), some (pvI n2), some (pvI n3), some (pvI n4), some (pvI n5), none], [pvI (-2)], M)) rfl ⟨trivial, trivial⟩ ?_
                      exact pw_ret hT rfl (r := some (pvI (-2))) (M' := M) ⟨rfl, rfl⟩ ⟨⟨_, rfl, (zr_wide (show (-2) ≤ Int32.toInt (-2) ∧ Int32.toInt (-2) ≤ (-2) from (by decide)) (by decide) (by decide)), (by rw [if_neg c6_, if_neg c10_, if_neg c20_, if_neg c24_, if_neg c34_, if_neg c38_, if_neg c42_, if_neg c46_, if_neg c56_, if_pos c60_])⟩, hok, pvfr_0, (by rw [if_neg c6_, if_neg c10_, if_neg c20_, if_neg c24_, if_neg c34_, if_neg c38_, if_neg c42_, if_neg c46_, if_neg c56_, if_pos c60_]; exact rfl)⟩
                    · refine pw_eqI (if_neg c60_) ?_
                      have b63_ : 1 ≤ Int32.toInt n5 ∧ Int32.toInt n5 ≤ 9 := zr_nlt_r 9 c60_ b59_ (show 9 ≤ Int32.toInt 9 ∧ Int32.toInt 9 ≤ 9 from (by decide)) (by decide)
                      show PW 97 d (43, [some (pvR 124), some (pvI n1), some (pvI n2), some (pvI n3), some (pvI n4), some (pvI n5), none], [pvI 1], M) _
                      refine pw_ifn hT (c := 1 = 0) rfl rfl (fun c64_ => ?_) (fun c64_ => absurd c64_ (by decide))
                      have b65_ : 0 ≤ Int32.toInt (M.1 124 0) ∧ Int32.toInt (M.1 124 0) ≤ 7 := pvok_r hok 124 0 rfl
                      refine pw_blk hT 3 (S' := (55, [some (pvR 124), some (pvI n1), some (pvI n2), some (pvI n3), some (pvI n4), some (pvI n5), none], [pvI 7, pvI (M.1 124 0)], M)) rfl ⟨trivial, rfl, trivial, trivial⟩ ?_
                      refine pw_icn hT (c := (M.1 124 0) = 7) rfl rfl (fun c66_ => ?_) (fun c66_ => ?_)
                      · have b67_ : 0 ≤ Int32.toInt (M.1 124 0) ∧ Int32.toInt (M.1 124 0) ≤ 6 := (by have u0 := b65_; have u1 := (not_congr (zi_eq _ _)).mp c66_; have u2 := (show 7 ≤ Int32.toInt 7 ∧ Int32.toInt 7 ≤ 7 from (by decide)); omega)
                        refine pw_blkw hT 6 (pc := 71) (lo := [some (pvR 124), some (pvI n1), some (pvI n2), some (pvI n3), some (pvI n4), some (pvI n5), none]) (st := []) (M := pvu M 125 (Int32.toNatClampNeg (M.1 124 0)) n1) rfl ⟨trivial, rfl, trivial, rfl, trivial, ⟨rfl, (zr_in (n := 7) b67_ (by decide) (by decide))⟩, trivial⟩ (fun M68_ e69_ => ?_)
                        have o70_ : pvOk M68_ := pvok_u2 e69_ hok rfl b13_
                        have f71_ : pvFr fp_eX10_window_124_x_x_x_x_x M M68_ := pvfr_u e69_ pvfr_0 rfl
                        have e72_ : (M68_.1 124 0) = (M.1 124 0) := (pvu_n e69_ 124 0 (Or.inl (by decide)))
                        have b73_ : 0 ≤ Int32.toInt (M68_.1 124 0) ∧ Int32.toInt (M68_.1 124 0) ≤ 6 := (by rw [e72_]; exact b67_)
                        refine pw_blkw hT 6 (pc := 81) (lo := [some (pvR 124), some (pvI n1), some (pvI n2), some (pvI n3), some (pvI n4), some (pvI n5), none]) (st := []) (M := pvu M68_ 126 (Int32.toNatClampNeg (M68_.1 124 0)) n2) rfl ⟨trivial, rfl, trivial, rfl, trivial, ⟨rfl, (zr_in (n := 7) b73_ (by decide) (by decide))⟩, trivial⟩ (fun M74_ e75_ => ?_)
                        have o76_ : pvOk M74_ := pvok_u2 e75_ o70_ rfl b27_
                        have f77_ : pvFr fp_eX10_window_124_x_x_x_x_x M M74_ := pvfr_u e75_ f71_ rfl
                        have e78_ : (M74_.1 124 0) = (M68_.1 124 0) := (pvu_n e75_ 124 0 (Or.inl (by decide)))
                        have b79_ : 0 ≤ Int32.toInt (M74_.1 124 0) ∧ Int32.toInt (M74_.1 124 0) ≤ 6 := (by rw [e78_]; exact b73_)
                        refine pw_blkw hT 6 (pc := 91) (lo := [some (pvR 124), some (pvI n1), some (pvI n2), some (pvI n3), some (pvI n4), some (pvI n5), none]) (st := []) (M := pvu M74_ 127 (Int32.toNatClampNeg (M74_.1 124 0)) n3) rfl ⟨trivial, rfl, trivial, rfl, trivial, ⟨rfl, (zr_in (n := 7) b79_ (by decide) (by decide))⟩, trivial⟩ (fun M80_ e81_ => ?_)
                        have o82_ : pvOk M80_ := pvok_u2 e81_ o76_ rfl b41_
                        have f83_ : pvFr fp_eX10_window_124_x_x_x_x_x M M80_ := pvfr_u e81_ f77_ rfl
                        have e84_ : (M80_.1 124 0) = (M74_.1 124 0) := (pvu_n e81_ 124 0 (Or.inl (by decide)))
                        have b85_ : 0 ≤ Int32.toInt (M80_.1 124 0) ∧ Int32.toInt (M80_.1 124 0) ≤ 6 := (by rw [e84_]; exact b79_)
                        refine pw_blkw hT 6 (pc := 102) (lo := [some (pvR 124), some (pvI n1), some (pvI n2), some (pvI n3), some (pvI n4), some (pvI n5), none]) (st := []) (M := pvu M80_ 128 (Int32.toNatClampNeg (M80_.1 124 0)) n4) rfl ⟨trivial, rfl, trivial, rfl, trivial, ⟨rfl, (zr_in (n := 7) b85_ (by decide) (by decide))⟩, trivial⟩ (fun M86_ e87_ => ?_)
                        have o88_ : pvOk M86_ := pvok_u2 e87_ o82_ rfl b49_
                        have f89_ : pvFr fp_eX10_window_124_x_x_x_x_x M M86_ := pvfr_u e87_ f83_ rfl
                        have e90_ : (M86_.1 124 0) = (M80_.1 124 0) := (pvu_n e87_ 124 0 (Or.inl (by decide)))
                        have b91_ : 0 ≤ Int32.toInt (M86_.1 124 0) ∧ Int32.toInt (M86_.1 124 0) ≤ 6 := (by rw [e90_]; exact b85_)
                        refine pw_blkw hT 6 (pc := 113) (lo := [some (pvR 124), some (pvI n1), some (pvI n2), some (pvI n3), some (pvI n4), some (pvI n5), none]) (st := []) (M := pvu M86_ 129 (Int32.toNatClampNeg (M86_.1 124 0)) n5) rfl ⟨trivial, rfl, trivial, rfl, trivial, ⟨rfl, (zr_in (n := 7) b91_ (by decide) (by decide))⟩, trivial⟩ (fun M92_ e93_ => ?_)
                        have o94_ : pvOk M92_ := pvok_u2 e93_ o88_ rfl (zr_wide b63_ (by decide) (by decide))
                        have f95_ : pvFr fp_eX10_window_124_x_x_x_x_x M M92_ := pvfr_u e93_ f89_ rfl
                        have e96_ : (M92_.1 124 0) = (M86_.1 124 0) := (pvu_n e93_ 124 0 (Or.inl (by decide)))
                        have b97_ : 0 ≤ Int32.toInt (M92_.1 124 0) ∧ Int32.toInt (M92_.1 124 0) ≤ 6 := (by rw [e96_]; exact b91_)
                        refine pw_blkw hT 6 (pc := 123) (lo := [some (pvR 124), some (pvI n1), some (pvI n2), some (pvI n3), some (pvI n4), some (pvI n5), none]) (st := []) (M := pvu M92_ 131 (Int32.toNatClampNeg (M92_.1 124 0)) (vp_nar .boolean 0)) rfl ⟨trivial, rfl, trivial, rfl, trivial, ⟨rfl, (zr_in (n := 7) b97_ (by decide) (by decide))⟩, trivial⟩ (fun M98_ e99_ => ?_)
                        have o100_ : pvOk M98_ := pvok_u2 e99_ o94_ rfl (zboolr 0)
                        have f101_ : pvFr fp_eX10_window_124_x_x_x_x_x M M98_ := pvfr_u e99_ f95_ rfl
                        refine pw_blk hT 2 (S' := (126, [some (pvR 124), some (pvI n1), some (pvI n2), some (pvI n3), some (pvI n4), some (pvI n5), some (pvI 0)], [], M98_)) rfl ⟨trivial, trivial, trivial⟩ ?_
                        have e102_ : (M98_.1 124 0) = (M92_.1 124 0) := (pvu_n e99_ 124 0 (Or.inl (by decide)))
                        have b103_ : 0 ≤ Int32.toInt (M98_.1 124 0) ∧ Int32.toInt (M98_.1 124 0) ≤ 6 := (by rw [e102_]; exact b97_)
                        have hlz196_ : ∀ (nz196_ : Nat) (i6z196_ : Int32) (Mz196_ : pvM), (pvOk Mz196_) → (pvFr fp_eX10_window_124_x_x_x_x_x M Mz196_) → (Mz196_.1 124 0 = M98_.1 124 0) → (0 ≤ Int32.toInt i6z196_ ∧ Int32.toInt i6z196_ ≤ 4) → (Mz196_.1 124 0 = (M.1 124 0)) → (zhide ((5 - Int32.toInt i6z196_).toNat < nz196_)) → PW 97 d (126, [some (pvR 124), some (pvI n1), some (pvI n2), some (pvI n3), some (pvI n4), some (pvI n5), some (pvI i6z196_)], [], Mz196_) (fun r X => (∃ x : Int32, r = some (pvI x) ∧ ((-4) ≤ Int32.toInt x ∧ Int32.toInt x ≤ 6) ∧ x = (if n1 < 0 then (-1) else (if 6 < n1 then (-1) else (if n2 < 0 then (-2) else (if 9 < n2 then (-2) else (if n3 < 0 then (-2) else (if 3 < n3 then (-2) else (if n4 < 0 then (-2) else (if 4 < n4 then (-2) else (if n5 < 1 then (-2) else (if 9 < n5 then (-2) else (if (M.1 124 0) = 7 then (-4) else (((M.1 124 0) + 1) - 1))))))))))))) ∧ pvOk X ∧ pvFr fp_eX10_window_124_x_x_x_x_x M X ∧ X.1 124 0 = (if n1 < 0 then (M.1 124 0) else (if 6 < n1 then (M.1 124 0) else (if n2 < 0 then (M.1 124 0) else (if 9 < n2 then (M.1 124 0) else (if n3 < 0 then (M.1 124 0) else (if 3 < n3 then (M.1 124 0) else (if n4 < 0 then (M.1 124 0) else (if 4 < n4 then (M.1 124 0) else (if n5 < 1 then (M.1 124 0) else (if 9 < n5 then (M.1 124 0) else (if (M.1 124 0) = 7 then (M.1 124 0) else ((M.1 124 0) + 1))))))))))))) := by
                          intro nz196_
                          induction nz196_ with
                          | zero => intro i6z196_ Mz196_ oz196_ fz196_ k124_0z196_ h6z196_ j0z196_ hmz196_; exact absurd (zshow hmz196_) (Nat.not_lt_zero _)
                          | succ nz196_ ihz196_ =>
                            intro i6z196_ Mz196_ oz196_ fz196_ k124_0z196_ h6z196_ j0z196_ hmz196_
                            refine pw_blk hT 2 (S' := (129, [some (pvR 124), some (pvI n1), some (pvI n2), some (pvI n3), some (pvI n4), some (pvI n5), some (pvI i6z196_)], [pvI 4, pvI i6z196_], Mz196_)) rfl ⟨trivial, trivial, trivial⟩ ?_
                            refine pw_ic hT (c := 4 ≤ i6z196_) rfl rfl (fun c197_ => ?_) (fun c197_ => ?_)
                            · have b198_ : 4 ≤ Int32.toInt i6z196_ ∧ Int32.toInt i6z196_ ≤ 4 := zr_le_r 4 c197_ h6z196_ (show 4 ≤ Int32.toInt 4 ∧ Int32.toInt 4 ≤ 4 from (by decide)) (by decide)
                              have e199_ : (Mz196_.1 124 0) = (M98_.1 124 0) := (k124_0z196_)
                              have b200_ : 0 ≤ Int32.toInt (Mz196_.1 124 0) ∧ Int32.toInt (Mz196_.1 124 0) ≤ 6 := (by rw [e199_]; exact b103_)
                              obtain ⟨q202_, b201_⟩ : (Int32.toInt ((Mz196_.1 124 0) + 1) = Int32.toInt (Mz196_.1 124 0) + 1) ∧ (1 ≤ Int32.toInt ((Mz196_.1 124 0) + 1) ∧ Int32.toInt ((Mz196_.1 124 0) + 1) ≤ 7) := zadd_k (Mz196_.1 124 0) 1 1 1 7 b200_ (by decide) (by decide) (by decide) (by decide) (by decide)
                              refine pw_blkw hT 6 (pc := 163) (lo := [some (pvR 124), some (pvI n1), some (pvI n2), some (pvI n3), some (pvI n4), some (pvI n5), some (pvI i6z196_)]) (st := []) (M := pvu Mz196_ 124 0 ((Mz196_.1 124 0) + 1)) rfl ⟨trivial, trivial, rfl, trivial, trivial, rfl, trivial⟩ (fun M203_ e204_ => ?_)
                              have o205_ : pvOk M203_ := pvok_u2 e204_ oz196_ rfl (zr_wide b201_ (by decide) (by decide))
                              have f206_ : pvFr fp_eX10_window_124_x_x_x_x_x M M203_ := pvfr_u e204_ fz196_ rfl
                              have e207_ : (M203_.1 124 0) = ((Mz196_.1 124 0) + 1) := (pvu_s e204_)
                              have b208_ : 1 ≤ Int32.toInt (M203_.1 124 0) ∧ Int32.toInt (M203_.1 124 0) ≤ 7 := (by rw [e207_]; exact b201_)
                              obtain ⟨q210_, b209_⟩ : (Int32.toInt ((M203_.1 124 0) - 1) = Int32.toInt (M203_.1 124 0) - 1) ∧ (0 ≤ Int32.toInt ((M203_.1 124 0) - 1) ∧ Int32.toInt ((M203_.1 124 0) - 1) ≤ 6) := zsub_k (M203_.1 124 0) 1 1 0 6 b208_ (by decide) (by decide) (by decide) (by decide) (by decide)
                              refine pw_blk hT 4 (S' := (169, [some (pvR 124), some (pvI n1), some (pvI n2), some (pvI n3), some (pvI n4), some (pvI n5), some (pvI i6z196_)], [pvI ((M203_.1 124 0) - 1)], M203_)) rfl ⟨trivial, rfl, trivial, trivial, trivial⟩ ?_
                              exact pw_ret hT rfl (r := some (pvI ((M203_.1 124 0) - 1))) (M' := M203_) ⟨rfl, rfl⟩ ⟨⟨_, rfl, (zr_wide b209_ (by decide) (by decide)), (by rw [if_neg c6_, if_neg c10_, if_neg c20_, if_neg c24_, if_neg c34_, if_neg c38_, if_neg c42_, if_neg c46_, if_neg c56_, if_neg c60_, if_neg c66_]; exact (show ((M203_.1 124 0) - 1) = (((M.1 124 0) + 1) - 1) from by rw [((pvu_s e204_).trans (show ((Mz196_.1 124 0) + 1) = ((M.1 124 0) + 1) from by rw [j0z196_]))]))⟩, o205_, f206_, (by rw [if_neg c6_, if_neg c10_, if_neg c20_, if_neg c24_, if_neg c34_, if_neg c38_, if_neg c42_, if_neg c46_, if_neg c56_, if_neg c60_, if_neg c66_]; exact ((pvu_s e204_).trans (show ((Mz196_.1 124 0) + 1) = ((M.1 124 0) + 1) from by rw [j0z196_])))⟩
                            · have b211_ : 0 ≤ Int32.toInt i6z196_ ∧ Int32.toInt i6z196_ ≤ 3 := zr_nle_r 3 c197_ h6z196_ (show 4 ≤ Int32.toInt 4 ∧ Int32.toInt 4 ≤ 4 from (by decide)) (by decide)
                              have e212_ : (Mz196_.1 124 0) = (M98_.1 124 0) := (k124_0z196_)
                              have b213_ : 0 ≤ Int32.toInt (Mz196_.1 124 0) ∧ Int32.toInt (Mz196_.1 124 0) ≤ 6 := (by rw [e212_]; exact b103_)
                              have q214_ : Int32.toInt (4 * (Mz196_.1 124 0)) = 4 * Int32.toInt (Mz196_.1 124 0) := by have u0 : Int32.toInt 4 = 4 := (by decide); have u1 := b213_; have u2 := zmul 4 (Mz196_.1 124 0) (by rw [u0]; omega) (by rw [u0]; omega); rw [u0] at u2; omega
                              have b215_ : 0 ≤ Int32.toInt (4 * (Mz196_.1 124 0)) ∧ Int32.toInt (4 * (Mz196_.1 124 0)) ≤ 24 := (by have u1 := b213_; omega)
                              obtain ⟨q217_, b216_⟩ : (Int32.toInt ((4 * (Mz196_.1 124 0)) + i6z196_) = Int32.toInt (4 * (Mz196_.1 124 0)) + Int32.toInt i6z196_) ∧ (0 ≤ Int32.toInt ((4 * (Mz196_.1 124 0)) + i6z196_) ∧ Int32.toInt ((4 * (Mz196_.1 124 0)) + i6z196_) ≤ 27) := zadd_r (4 * (Mz196_.1 124 0)) i6z196_ 0 27 b215_ b211_ (by decide) (by decide) (by decide) (by decide)
                              refine pw_blkw hT 10 (pc := 147) (lo := [some (pvR 124), some (pvI n1), some (pvI n2), some (pvI n3), some (pvI n4), some (pvI n5), some (pvI i6z196_)]) (st := []) (M := pvu Mz196_ 130 (Int32.toNatClampNeg ((4 * (Mz196_.1 124 0)) + i6z196_)) 0) rfl ⟨trivial, rfl, trivial, trivial, rfl, trivial, trivial, trivial, trivial, ⟨rfl, (zr_in (n := 28) b216_ (by decide) (by decide))⟩, trivial⟩ (fun M218_ e219_ => ?_)
                              have o220_ : pvOk M218_ := pvok_u2 e219_ oz196_ rfl (zr_wide (show 0 ≤ Int32.toInt 0 ∧ Int32.toInt 0 ≤ 0 from (by decide)) (by decide) (by decide))
                              have f221_ : pvFr fp_eX10_window_124_x_x_x_x_x M M218_ := pvfr_u e219_ fz196_ rfl
                              obtain ⟨q223_, b222_⟩ : (Int32.toInt (i6z196_ + 1) = Int32.toInt i6z196_ + 1) ∧ (1 ≤ Int32.toInt (i6z196_ + 1) ∧ Int32.toInt (i6z196_ + 1) ≤ 4) := zadd_k i6z196_ 1 1 1 4 b211_ (by decide) (by decide) (by decide) (by decide) (by decide)
                              refine pw_blk hT 2 (S' := (126, [some (pvR 124), some (pvI n1), some (pvI n2), some (pvI n3), some (pvI n4), some (pvI n5), some (pvI (i6z196_ + 1))], [], M218_)) rfl ⟨trivial, trivial, trivial⟩ ?_
                              have j224_ : M218_.1 124 0 = (M.1 124 0) := ((pvu_n e219_ 124 0 (Or.inl (by decide))).trans (j0z196_))
                              exact ihz196_ (i6z196_ + 1) M218_ o220_ f221_ ((pvu_n e219_ 124 0 (Or.inl (by decide))).trans (k124_0z196_)) (zr_wide b222_ (by decide) (by decide)) j224_ (zhid (pvms_up (zshow hmz196_) h6z196_ q223_ (by decide) (by decide)))
                        have u225_ : Int32.toInt 0 = 0 := by decide
                        have j226_ : M98_.1 124 0 = (M.1 124 0) := ((((((pvu_n e99_ 124 0 (Or.inl (by decide))).trans (pvu_n e93_ 124 0 (Or.inl (by decide)))).trans (pvu_n e87_ 124 0 (Or.inl (by decide)))).trans (pvu_n e81_ 124 0 (Or.inl (by decide)))).trans (pvu_n e75_ 124 0 (Or.inl (by decide)))).trans (pvu_n e69_ 124 0 (Or.inl (by decide))))
                        exact hlz196_ _ 0 M98_ o100_ f101_ rfl (zr_wide (show 0 ≤ Int32.toInt 0 ∧ Int32.toInt 0 ≤ 0 from (by decide)) (by decide) (by decide)) j226_ (zhid (Nat.lt_succ_self _))
                      · have b227_ : 7 ≤ Int32.toInt (M.1 124 0) ∧ Int32.toInt (M.1 124 0) ≤ 7 := (by have u0 := b65_; have u1 := (zi_eq _ _).mp c66_; have u2 := (show 7 ≤ Int32.toInt 7 ∧ Int32.toInt 7 ≤ 7 from (by decide)); omega)
                        refine pw_blk hT 1 (S' := (60, [some (pvR 124), some (pvI n1), some (pvI n2), some (pvI n3), some (pvI n4), some (pvI n5), none], [pvI (-4)], M)) rfl ⟨trivial, trivial⟩ ?_
                        exact pw_ret hT rfl (r := some (pvI (-4))) (M' := M) ⟨rfl, rfl⟩ ⟨⟨_, rfl, (zr_wide (show (-4) ≤ Int32.toInt (-4) ∧ Int32.toInt (-4) ≤ (-4) from (by decide)) (by decide) (by decide)), (by rw [if_neg c6_, if_neg c10_, if_neg c20_, if_neg c24_, if_neg c34_, if_neg c38_, if_neg c42_, if_neg c46_, if_neg c56_, if_neg c60_, if_pos c66_])⟩, hok, pvfr_0, (by rw [if_neg c6_, if_neg c10_, if_neg c20_, if_neg c24_, if_neg c34_, if_neg c38_, if_neg c42_, if_neg c46_, if_neg c56_, if_neg c60_, if_pos c66_]; exact rfl)⟩
def fpL_eX6_append_100_x_x : List (Nat × Nat × Nat) := [(0, 100, 1), (0, 108, 0), (0, 116, 0)]
def fp_eX6_append_100_x_x (q k : Nat) : Bool := pvfp fpL_eX6_append_100_x_x q k
set_option maxHeartbeats 4000000 in
set_option maxRecDepth 10000 in
theorem se_X6_append_100_x_x (M : pvM) (hok : pvOk M) (n1 : Int32) (n2 : Int32) (hn1 : 0 ≤ Int32.toInt n1 ∧ Int32.toInt n1 ≤ 6) (hn2 : 0 ≤ Int32.toInt n2 ∧ Int32.toInt n2 ≤ 9999) (d : Nat) : PW 151 d (0, [some (pvR 100), some (pvI n1), some (pvI n2)], [], M) (fun r X => (∃ x : Int32, r = some (pvI x) ∧ (1 ≤ Int32.toInt x ∧ Int32.toInt x ≤ 7) ∧ x = (if (M.1 100 0) < (Int32.ofNat 7) then ((M.1 100 0) + 1) else (M.1 100 0))) ∧ pvOk X ∧ pvFr fp_eX6_append_100_x_x M X ∧ X.1 100 0 = (if (M.1 100 0) < (Int32.ofNat 7) then ((M.1 100 0) + 1) else (M.1 100 0))) := by
  have hT : pvdom 151 = pvD_151 := rfl
  refine pw_blk hT 1 (S' := (1, [some (pvR 100), some (pvI n1), some (pvI n2)], [pvR 100], M)) rfl ⟨trivial, trivial⟩ ?_
  refine pw_callT hT (as := [pvR 100]) (lo1 := [some (pvR 100)]) (d1 := d) (rest := []) rfl rfl rfl rfl rfl (fun _ => rfl) (Nat.zero_le _) rfl rfl rfl (sf_X6_isFull_100 M hok d) ?_
  have b6_ : 0 ≤ Int32.toInt (M.1 100 0) ∧ Int32.toInt (M.1 100 0) ≤ 7 := pvok_r hok 100 0 rfl
  by_cases c7_ : (M.1 100 0) < (Int32.ofNat 7)
  · refine pw_eqI (if_pos c7_) ?_
    have b8_ : 0 ≤ Int32.toInt (M.1 100 0) ∧ Int32.toInt (M.1 100 0) ≤ 6 := zr_lt_l 6 c7_ b6_ (show 7 ≤ Int32.toInt (Int32.ofNat 7) ∧ Int32.toInt (Int32.ofNat 7) ≤ 7 from (by decide)) (by decide)
    show PW 151 d (4, [some (pvR 100), some (pvI n1), some (pvI n2)], [pvI 0], M) _
    refine pw_if hT (c := 0 = 0) rfl rfl (fun c9_ => ?_) (fun c9_ => absurd (by decide) c9_)
    refine pw_blkw hT 6 (pc := 22) (lo := [some (pvR 100), some (pvI n1), some (pvI n2)]) (st := []) (M := pvu M 108 (Int32.toNatClampNeg (M.1 100 0)) n1) rfl ⟨trivial, rfl, trivial, rfl, trivial, ⟨rfl, (zr_in (n := 7) b8_ (by decide) (by decide))⟩, trivial⟩ (fun M10_ e11_ => ?_)
    have o12_ : pvOk M10_ := pvok_u2 e11_ hok rfl hn1
    have f13_ : pvFr fp_eX6_append_100_x_x M M10_ := pvfr_u e11_ pvfr_0 rfl
    have e14_ : (M10_.1 100 0) = (M.1 100 0) := (pvu_n e11_ 100 0 (Or.inl (by decide)))
    have b15_ : 0 ≤ Int32.toInt (M10_.1 100 0) ∧ Int32.toInt (M10_.1 100 0) ≤ 6 := (by rw [e14_]; exact b8_)
    refine pw_blkw hT 6 (pc := 32) (lo := [some (pvR 100), some (pvI n1), some (pvI n2)]) (st := []) (M := pvu M10_ 116 (Int32.toNatClampNeg (M10_.1 100 0)) n2) rfl ⟨trivial, rfl, trivial, rfl, trivial, ⟨rfl, (zr_in (n := 7) b15_ (by decide) (by decide))⟩, trivial⟩ (fun M16_ e17_ => ?_)
    have o18_ : pvOk M16_ := pvok_u2 e17_ o12_ rfl hn2
    have f19_ : pvFr fp_eX6_append_100_x_x M M16_ := pvfr_u e17_ f13_ rfl
    have e20_ : (M16_.1 100 0) = (M10_.1 100 0) := (pvu_n e17_ 100 0 (Or.inl (by decide)))
    have b21_ : 0 ≤ Int32.toInt (M16_.1 100 0) ∧ Int32.toInt (M16_.1 100 0) ≤ 6 := (by rw [e20_]; exact b15_)
    obtain ⟨q23_, b22_⟩ : (Int32.toInt ((M16_.1 100 0) + 1) = Int32.toInt (M16_.1 100 0) + 1) ∧ (1 ≤ Int32.toInt ((M16_.1 100 0) + 1) ∧ Int32.toInt ((M16_.1 100 0) + 1) ≤ 7) := zadd_k (M16_.1 100 0) 1 1 1 7 b21_ (by decide) (by decide) (by decide) (by decide) (by decide)
    refine pw_blkw hT 6 (pc := 42) (lo := [some (pvR 100), some (pvI n1), some (pvI n2)]) (st := []) (M := pvu M16_ 100 0 ((M16_.1 100 0) + 1)) rfl ⟨trivial, trivial, rfl, trivial, trivial, rfl, trivial⟩ (fun M24_ e25_ => ?_)
    have o26_ : pvOk M24_ := pvok_u2 e25_ o18_ rfl (zr_wide b22_ (by decide) (by decide))
    have f27_ : pvFr fp_eX6_append_100_x_x M M24_ := pvfr_u e25_ f19_ rfl
    have e28_ : (M24_.1 100 0) = ((M16_.1 100 0) + 1) := (pvu_s e25_)
    have b29_ : 1 ≤ Int32.toInt (M24_.1 100 0) ∧ Int32.toInt (M24_.1 100 0) ≤ 7 := (by rw [e28_]; exact b22_)
    refine pw_blk hT 2 (S' := (46, [some (pvR 100), some (pvI n1), some (pvI n2)], [pvI (M24_.1 100 0)], M24_)) rfl ⟨trivial, rfl, trivial⟩ ?_
    exact pw_ret hT rfl (r := some (pvI (M24_.1 100 0))) (M' := M24_) ⟨rfl, rfl⟩ ⟨⟨_, rfl, b29_, (by rw [if_pos c7_]; exact (show (M24_.1 100 0) = ((M.1 100 0) + 1) from by rw [((pvu_s e25_).trans (show ((M16_.1 100 0) + 1) = ((M.1 100 0) + 1) from by rw [((pvu_n e17_ 100 0 (Or.inl (by decide))).trans (pvu_n e11_ 100 0 (Or.inl (by decide))))]))]))⟩, o26_, f27_, (by rw [if_pos c7_]; exact ((pvu_s e25_).trans (show ((M16_.1 100 0) + 1) = ((M.1 100 0) + 1) from by rw [((pvu_n e17_ 100 0 (Or.inl (by decide))).trans (pvu_n e11_ 100 0 (Or.inl (by decide))))])))⟩
  · refine pw_eqI (if_neg c7_) ?_
    have b30_ : 7 ≤ Int32.toInt (M.1 100 0) ∧ Int32.toInt (M.1 100 0) ≤ 7 := zr_nlt_l 7 c7_ b6_ (show 7 ≤ Int32.toInt (Int32.ofNat 7) ∧ Int32.toInt (Int32.ofNat 7) ≤ 7 from (by decide)) (by decide)
    show PW 151 d (4, [some (pvR 100), some (pvI n1), some (pvI n2)], [pvI 1], M) _
    refine pw_if hT (c := 1 = 0) rfl rfl (fun c31_ => absurd c31_ (by decide)) (fun c31_ => ?_)
    refine pw_blk hT 2 (S' := (11, [some (pvR 100), some (pvI n1), some (pvI n2)], [pvI (M.1 100 0)], M)) rfl ⟨trivial, rfl, trivial⟩ ?_
    exact pw_ret hT rfl (r := some (pvI (M.1 100 0))) (M' := M) ⟨rfl, rfl⟩ ⟨⟨_, rfl, (zr_wide b30_ (by decide) (by decide)), (by rw [if_neg c7_])⟩, hok, pvfr_0, (by rw [if_neg c7_]; exact rfl)⟩
def fpL_eX6_clear_100 : List (Nat × Nat × Nat) := [(0, 100, 1)]
def fp_eX6_clear_100 (q k : Nat) : Bool := pvfp fpL_eX6_clear_100 q k
set_option maxHeartbeats 4000000 in
set_option maxRecDepth 10000 in
theorem se_X6_clear_100 (M : pvM) (hok : pvOk M) (d : Nat) : PW 153 d (0, [some (pvR 100)], [], M) (fun r X => (∃ x : Int32, r = some (pvI x) ∧ (0 ≤ Int32.toInt x ∧ Int32.toInt x ≤ 0) ∧ x = 0) ∧ pvOk X ∧ pvFr fp_eX6_clear_100 M X ∧ X.1 100 0 = 0) := by
  have hT : pvdom 153 = pvD_153 := rfl
  refine pw_blkw hT 3 (pc := 5) (lo := [some (pvR 100)]) (st := []) (M := pvu M 100 0 0) rfl ⟨trivial, trivial, rfl, trivial⟩ (fun M1_ e2_ => ?_)
  have o3_ : pvOk M1_ := pvok_u2 e2_ hok rfl (zr_wide (show 0 ≤ Int32.toInt 0 ∧ Int32.toInt 0 ≤ 0 from (by decide)) (by decide) (by decide))
  have f4_ : pvFr fp_eX6_clear_100 M M1_ := pvfr_u e2_ pvfr_0 rfl
  refine pw_blk hT 1 (S' := (6, [some (pvR 100)], [pvI 0], M1_)) rfl ⟨trivial, trivial⟩ ?_
  exact pw_ret hT rfl (r := some (pvI 0)) (M' := M1_) ⟨rfl, rfl⟩ ⟨⟨_, rfl, (show 0 ≤ Int32.toInt 0 ∧ Int32.toInt 0 ≤ 0 from (by decide)), rfl⟩, o3_, f4_, (pvu_s e2_)⟩
def fpL_eX6_clear_106 : List (Nat × Nat × Nat) := [(0, 106, 1)]
def fp_eX6_clear_106 (q k : Nat) : Bool := pvfp fpL_eX6_clear_106 q k
set_option maxHeartbeats 4000000 in
set_option maxRecDepth 10000 in
theorem se_X6_clear_106 (M : pvM) (hok : pvOk M) (d : Nat) : PW 153 d (0, [some (pvR 106)], [], M) (fun r X => (∃ x : Int32, r = some (pvI x) ∧ (0 ≤ Int32.toInt x ∧ Int32.toInt x ≤ 0) ∧ x = 0) ∧ pvOk X ∧ pvFr fp_eX6_clear_106 M X ∧ X.1 106 0 = 0) := by
  have hT : pvdom 153 = pvD_153 := rfl
  refine pw_blkw hT 3 (pc := 5) (lo := [some (pvR 106)]) (st := []) (M := pvu M 106 0 0) rfl ⟨trivial, trivial, rfl, trivial⟩ (fun M1_ e2_ => ?_)
  have o3_ : pvOk M1_ := pvok_u2 e2_ hok rfl (zr_wide (show 0 ≤ Int32.toInt 0 ∧ Int32.toInt 0 ≤ 0 from (by decide)) (by decide) (by decide))
  have f4_ : pvFr fp_eX6_clear_106 M M1_ := pvfr_u e2_ pvfr_0 rfl
  refine pw_blk hT 1 (S' := (6, [some (pvR 106)], [pvI 0], M1_)) rfl ⟨trivial, trivial⟩ ?_
  exact pw_ret hT rfl (r := some (pvI 0)) (M' := M1_) ⟨rfl, rfl⟩ ⟨⟨_, rfl, (show 0 ≤ Int32.toInt 0 ∧ Int32.toInt 0 ≤ 0 from (by decide)), rfl⟩, o3_, f4_, (pvu_s e2_)⟩
def fpL_eX6_clear_107 : List (Nat × Nat × Nat) := [(0, 107, 1)]
def fp_eX6_clear_107 (q k : Nat) : Bool := pvfp fpL_eX6_clear_107 q k
set_option maxHeartbeats 4000000 in
set_option maxRecDepth 10000 in
theorem se_X6_clear_107 (M : pvM) (hok : pvOk M) (d : Nat) : PW 153 d (0, [some (pvR 107)], [], M) (fun r X => (∃ x : Int32, r = some (pvI x) ∧ (0 ≤ Int32.toInt x ∧ Int32.toInt x ≤ 0) ∧ x = 0) ∧ pvOk X ∧ pvFr fp_eX6_clear_107 M X ∧ X.1 107 0 = 0) := by
  have hT : pvdom 153 = pvD_153 := rfl
  refine pw_blkw hT 3 (pc := 5) (lo := [some (pvR 107)]) (st := []) (M := pvu M 107 0 0) rfl ⟨trivial, trivial, rfl, trivial⟩ (fun M1_ e2_ => ?_)
  have o3_ : pvOk M1_ := pvok_u2 e2_ hok rfl (zr_wide (show 0 ≤ Int32.toInt 0 ∧ Int32.toInt 0 ≤ 0 from (by decide)) (by decide) (by decide))
  have f4_ : pvFr fp_eX6_clear_107 M M1_ := pvfr_u e2_ pvfr_0 rfl
  refine pw_blk hT 1 (S' := (6, [some (pvR 107)], [pvI 0], M1_)) rfl ⟨trivial, trivial⟩ ?_
  exact pw_ret hT rfl (r := some (pvI 0)) (M' := M1_) ⟨rfl, rfl⟩ ⟨⟨_, rfl, (show 0 ≤ Int32.toInt 0 ∧ Int32.toInt 0 ≤ 0 from (by decide)), rfl⟩, o3_, f4_, (pvu_s e2_)⟩
def fpL_eX6_append_107_x_x : List (Nat × Nat × Nat) := [(0, 107, 1), (0, 115, 0), (0, 123, 0)]
def fp_eX6_append_107_x_x (q k : Nat) : Bool := pvfp fpL_eX6_append_107_x_x q k
set_option maxHeartbeats 4000000 in
set_option maxRecDepth 10000 in
theorem se_X6_append_107_x_x (M : pvM) (hok : pvOk M) (n1 : Int32) (n2 : Int32) (hn1 : 0 ≤ Int32.toInt n1 ∧ Int32.toInt n1 ≤ 6) (hn2 : 0 ≤ Int32.toInt n2 ∧ Int32.toInt n2 ≤ 9999) (d : Nat) : PW 151 d (0, [some (pvR 107), some (pvI n1), some (pvI n2)], [], M) (fun r X => (∃ x : Int32, r = some (pvI x) ∧ (1 ≤ Int32.toInt x ∧ Int32.toInt x ≤ 7) ∧ x = (if (M.1 107 0) < (Int32.ofNat 7) then ((M.1 107 0) + 1) else (M.1 107 0))) ∧ pvOk X ∧ pvFr fp_eX6_append_107_x_x M X ∧ X.1 107 0 = (if (M.1 107 0) < (Int32.ofNat 7) then ((M.1 107 0) + 1) else (M.1 107 0))) := by
  have hT : pvdom 151 = pvD_151 := rfl
  refine pw_blk hT 1 (S' := (1, [some (pvR 107), some (pvI n1), some (pvI n2)], [pvR 107], M)) rfl ⟨trivial, trivial⟩ ?_
  refine pw_callT hT (as := [pvR 107]) (lo1 := [some (pvR 107)]) (d1 := d) (rest := []) rfl rfl rfl rfl rfl (fun _ => rfl) (Nat.zero_le _) rfl rfl rfl (sf_X6_isFull_107 M hok d) ?_
  have b6_ : 0 ≤ Int32.toInt (M.1 107 0) ∧ Int32.toInt (M.1 107 0) ≤ 7 := pvok_r hok 107 0 rfl
  by_cases c7_ : (M.1 107 0) < (Int32.ofNat 7)
  · refine pw_eqI (if_pos c7_) ?_
    have b8_ : 0 ≤ Int32.toInt (M.1 107 0) ∧ Int32.toInt (M.1 107 0) ≤ 6 := zr_lt_l 6 c7_ b6_ (show 7 ≤ Int32.toInt (Int32.ofNat 7) ∧ Int32.toInt (Int32.ofNat 7) ≤ 7 from (by decide)) (by decide)
    show PW 151 d (4, [some (pvR 107), some (pvI n1), some (pvI n2)], [pvI 0], M) _
    refine pw_if hT (c := 0 = 0) rfl rfl (fun c9_ => ?_) (fun c9_ => absurd (by decide) c9_)
    refine pw_blkw hT 6 (pc := 22) (lo := [some (pvR 107), some (pvI n1), some (pvI n2)]) (st := []) (M := pvu M 115 (Int32.toNatClampNeg (M.1 107 0)) n1) rfl ⟨trivial, rfl, trivial, rfl, trivial, ⟨rfl, (zr_in (n := 7) b8_ (by decide) (by decide))⟩, trivial⟩ (fun M10_ e11_ => ?_)
    have o12_ : pvOk M10_ := pvok_u2 e11_ hok rfl hn1
    have f13_ : pvFr fp_eX6_append_107_x_x M M10_ := pvfr_u e11_ pvfr_0 rfl
    have e14_ : (M10_.1 107 0) = (M.1 107 0) := (pvu_n e11_ 107 0 (Or.inl (by decide)))
    have b15_ : 0 ≤ Int32.toInt (M10_.1 107 0) ∧ Int32.toInt (M10_.1 107 0) ≤ 6 := (by rw [e14_]; exact b8_)
    refine pw_blkw hT 6 (pc := 32) (lo := [some (pvR 107), some (pvI n1), some (pvI n2)]) (st := []) (M := pvu M10_ 123 (Int32.toNatClampNeg (M10_.1 107 0)) n2) rfl ⟨trivial, rfl, trivial, rfl, trivial, ⟨rfl, (zr_in (n := 7) b15_ (by decide) (by decide))⟩, trivial⟩ (fun M16_ e17_ => ?_)
    have o18_ : pvOk M16_ := pvok_u2 e17_ o12_ rfl hn2
    have f19_ : pvFr fp_eX6_append_107_x_x M M16_ := pvfr_u e17_ f13_ rfl
    have e20_ : (M16_.1 107 0) = (M10_.1 107 0) := (pvu_n e17_ 107 0 (Or.inl (by decide)))
    have b21_ : 0 ≤ Int32.toInt (M16_.1 107 0) ∧ Int32.toInt (M16_.1 107 0) ≤ 6 := (by rw [e20_]; exact b15_)
    obtain ⟨q23_, b22_⟩ : (Int32.toInt ((M16_.1 107 0) + 1) = Int32.toInt (M16_.1 107 0) + 1) ∧ (1 ≤ Int32.toInt ((M16_.1 107 0) + 1) ∧ Int32.toInt ((M16_.1 107 0) + 1) ≤ 7) := zadd_k (M16_.1 107 0) 1 1 1 7 b21_ (by decide) (by decide) (by decide) (by decide) (by decide)
    refine pw_blkw hT 6 (pc := 42) (lo := [some (pvR 107), some (pvI n1), some (pvI n2)]) (st := []) (M := pvu M16_ 107 0 ((M16_.1 107 0) + 1)) rfl ⟨trivial, trivial, rfl, trivial, trivial, rfl, trivial⟩ (fun M24_ e25_ => ?_)
    have o26_ : pvOk M24_ := pvok_u2 e25_ o18_ rfl (zr_wide b22_ (by decide) (by decide))
    have f27_ : pvFr fp_eX6_append_107_x_x M M24_ := pvfr_u e25_ f19_ rfl
    have e28_ : (M24_.1 107 0) = ((M16_.1 107 0) + 1) := (pvu_s e25_)
    have b29_ : 1 ≤ Int32.toInt (M24_.1 107 0) ∧ Int32.toInt (M24_.1 107 0) ≤ 7 := (by rw [e28_]; exact b22_)
    refine pw_blk hT 2 (S' := (46, [some (pvR 107), some (pvI n1), some (pvI n2)], [pvI (M24_.1 107 0)], M24_)) rfl ⟨trivial, rfl, trivial⟩ ?_
    exact pw_ret hT rfl (r := some (pvI (M24_.1 107 0))) (M' := M24_) ⟨rfl, rfl⟩ ⟨⟨_, rfl, b29_, (by rw [if_pos c7_]; exact (show (M24_.1 107 0) = ((M.1 107 0) + 1) from by rw [((pvu_s e25_).trans (show ((M16_.1 107 0) + 1) = ((M.1 107 0) + 1) from by rw [((pvu_n e17_ 107 0 (Or.inl (by decide))).trans (pvu_n e11_ 107 0 (Or.inl (by decide))))]))]))⟩, o26_, f27_, (by rw [if_pos c7_]; exact ((pvu_s e25_).trans (show ((M16_.1 107 0) + 1) = ((M.1 107 0) + 1) from by rw [((pvu_n e17_ 107 0 (Or.inl (by decide))).trans (pvu_n e11_ 107 0 (Or.inl (by decide))))])))⟩
  · refine pw_eqI (if_neg c7_) ?_
    have b30_ : 7 ≤ Int32.toInt (M.1 107 0) ∧ Int32.toInt (M.1 107 0) ≤ 7 := zr_nlt_l 7 c7_ b6_ (show 7 ≤ Int32.toInt (Int32.ofNat 7) ∧ Int32.toInt (Int32.ofNat 7) ≤ 7 from (by decide)) (by decide)
    show PW 151 d (4, [some (pvR 107), some (pvI n1), some (pvI n2)], [pvI 1], M) _
    refine pw_if hT (c := 1 = 0) rfl rfl (fun c31_ => absurd c31_ (by decide)) (fun c31_ => ?_)
    refine pw_blk hT 2 (S' := (11, [some (pvR 107), some (pvI n1), some (pvI n2)], [pvI (M.1 107 0)], M)) rfl ⟨trivial, rfl, trivial⟩ ?_
    exact pw_ret hT rfl (r := some (pvI (M.1 107 0))) (M' := M) ⟨rfl, rfl⟩ ⟨⟨_, rfl, (zr_wide b30_ (by decide) (by decide)), (by rw [if_neg c7_])⟩, hok, pvfr_0, (by rw [if_neg c7_]; exact rfl)⟩
def fpL_eX6_becomeAs_107_106 : List (Nat × Nat × Nat) := [(0, 107, 1), (0, 115, 0), (0, 123, 0)]
def fp_eX6_becomeAs_107_106 (q k : Nat) : Bool := pvfp fpL_eX6_becomeAs_107_106 q k
theorem fp_eX6_becomeAs_107_106_fp_eX6_append_107_x_x (a b : Nat) (h : fp_eX6_append_107_x_x a b = true) : fp_eX6_becomeAs_107_106 a b = true := pvfp_sub (l1 := fpL_eX6_append_107_x_x) (l2 := fpL_eX6_becomeAs_107_106) (by decide) a b h
theorem fp_eX6_becomeAs_107_106_fp_eX6_clear_107 (a b : Nat) (h : fp_eX6_clear_107 a b = true) : fp_eX6_becomeAs_107_106 a b = true := pvfp_sub (l1 := fpL_eX6_clear_107) (l2 := fpL_eX6_becomeAs_107_106) (by decide) a b h
set_option maxHeartbeats 4000000 in
set_option maxRecDepth 10000 in
theorem se_X6_becomeAs_107_106 (M : pvM) (hok : pvOk M) (d : Nat) : PW 152 d (0, [some (pvR 107), some (pvR 106), none], [], M) (fun r X => r = none ∧ pvOk X ∧ pvFr fp_eX6_becomeAs_107_106 M X ∧ X.1 107 0 = (M.1 106 0)) := by
  have hT : pvdom 152 = pvD_152 := rfl
  refine pw_blk hT 1 (S' := (1, [some (pvR 107), some (pvR 106), none], [pvR 107], M)) rfl ⟨trivial, trivial⟩ ?_
  refine pw_callGd hT (as := [pvR 107]) (lo1 := [some (pvR 107)]) (d1 := d) (rest := []) rfl rfl rfl rfl rfl (fun _ => rfl) (Nat.zero_le _) rfl rfl rfl (se_X6_clear_107 M hok d) (fun x2_ M3_ b4_ o5_ g6_ d1_ => ?_)
  have f7_ : pvFr fp_eX6_becomeAs_107_106 M M3_ := pvfr_t g6_ pvfr_0 fp_eX6_becomeAs_107_106_fp_eX6_clear_107
  obtain ⟨b8_, d9_⟩ := b4_
  subst d9_
  refine pw_blk hT 3 (S' := (7, [some (pvR 107), some (pvR 106), some (pvI 0)], [], M3_)) rfl ⟨trivial, trivial, trivial, trivial⟩ ?_
  have hlz90_ : ∀ (nz90_ : Nat) (i2z90_ : Int32) (Mz90_ : pvM), (pvOk Mz90_) → (pvFr fp_eX6_becomeAs_107_106 M Mz90_) → (0 ≤ Int32.toInt i2z90_ ∧ Int32.toInt i2z90_ ≤ 7) → (Mz90_.1 107 0 = i2z90_) → (Int32.toInt i2z90_ ≤ Int32.toInt (Mz90_.1 106 0)) → (zhide ((8 - Int32.toInt i2z90_).toNat < nz90_)) → PW 152 d (7, [some (pvR 107), some (pvR 106), some (pvI i2z90_)], [], Mz90_) (fun r X => r = none ∧ pvOk X ∧ pvFr fp_eX6_becomeAs_107_106 M X ∧ X.1 107 0 = (M.1 106 0)) := by
    intro nz90_
    induction nz90_ with
    | zero => intro i2z90_ Mz90_ oz90_ fz90_ h2z90_ j0z90_ j1z90_ hmz90_; exact absurd (zshow hmz90_) (Nat.not_lt_zero _)
    | succ nz90_ ihz90_ =>
      intro i2z90_ Mz90_ oz90_ fz90_ h2z90_ j0z90_ j1z90_ hmz90_
      have b91_ : 0 ≤ Int32.toInt (Mz90_.1 106 0) ∧ Int32.toInt (Mz90_.1 106 0) ≤ 7 := pvok_r oz90_ 106 0 rfl
      refine pw_blk hT 3 (S' := (12, [some (pvR 107), some (pvR 106), some (pvI i2z90_)], [pvI (Mz90_.1 106 0), pvI i2z90_], Mz90_)) rfl ⟨trivial, trivial, rfl, trivial⟩ ?_
      refine pw_ic hT (c := (Mz90_.1 106 0) ≤ i2z90_) rfl rfl (fun c92_ => ?_) (fun c92_ => ?_)
      · have d93_ : Int32.toInt (Mz90_.1 106 0) ≤ Int32.toInt i2z90_ := (zi_le _ _).mp c92_
        exact pw_ret hT rfl (r := none) (M' := Mz90_) ⟨rfl, rfl⟩ ⟨rfl, oz90_, fz90_, (Int32.toInt_inj.mp (by have z3 : Mz90_.1 106 0 = M.1 106 0 := fz90_ 106 0 rfl; have z4 := congrArg Int32.toInt z3; have z5 := congrArg Int32.toInt j0z90_; omega))⟩
      · have b94_ : 1 ≤ Int32.toInt (Mz90_.1 106 0) ∧ Int32.toInt (Mz90_.1 106 0) ≤ 7 := zr_nle_l 1 c92_ b91_ h2z90_ (by decide)
        have b95_ : 0 ≤ Int32.toInt i2z90_ ∧ Int32.toInt i2z90_ ≤ 6 := zr_nle_r 6 c92_ h2z90_ b94_ (by decide)
        have d96_ : Int32.toInt (Mz90_.1 106 0) > Int32.toInt i2z90_ := Int.not_le.mp ((not_congr (zi_le _ _)).mp c92_)
        have b97_ : 0 ≤ Int32.toInt (Mz90_.1 114 (Int32.toNatClampNeg i2z90_)) ∧ Int32.toInt (Mz90_.1 114 (Int32.toNatClampNeg i2z90_)) ≤ 6 := pvok_r oz90_ 114 (Int32.toNatClampNeg i2z90_) rfl
        have b98_ : 0 ≤ Int32.toInt (Mz90_.1 122 (Int32.toNatClampNeg i2z90_)) ∧ Int32.toInt (Mz90_.1 122 (Int32.toNatClampNeg i2z90_)) ≤ 9999 := pvok_r oz90_ 122 (Int32.toNatClampNeg i2z90_) rfl
        refine pw_blk hT 9 (S' := (28, [some (pvR 107), some (pvR 106), some (pvI i2z90_)], [pvI (Mz90_.1 122 (Int32.toNatClampNeg i2z90_)), pvI (Mz90_.1 114 (Int32.toNatClampNeg i2z90_)), pvR 107], Mz90_)) rfl ⟨trivial, trivial, rfl, trivial, ⟨rfl, (zr_in (n := 7) b95_ (by decide) (by decide))⟩, trivial, rfl, trivial, ⟨rfl, (zr_in (n := 7) b95_ (by decide) (by decide))⟩, trivial⟩ ?_
        refine pw_callGd hT (as := [pvR 107, pvI (Mz90_.1 114 (Int32.toNatClampNeg i2z90_)), pvI (Mz90_.1 122 (Int32.toNatClampNeg i2z90_))]) (lo1 := [some (pvR 107), some (pvI (Mz90_.1 114 (Int32.toNatClampNeg i2z90_))), some (pvI (Mz90_.1 122 (Int32.toNatClampNeg i2z90_)))]) (d1 := d) (rest := []) rfl rfl rfl rfl rfl (fun _ => rfl) (Nat.zero_le _) rfl rfl rfl (se_X6_append_107_x_x Mz90_ oz90_ (Mz90_.1 114 (Int32.toNatClampNeg i2z90_)) (Mz90_.1 122 (Int32.toNatClampNeg i2z90_)) b97_ b98_ d) (fun x100_ M101_ b102_ o103_ g104_ d99_ => ?_)
        have f105_ : pvFr fp_eX6_becomeAs_107_106 M M101_ := pvfr_t g104_ fz90_ fp_eX6_becomeAs_107_106_fp_eX6_append_107_x_x
        obtain ⟨b106_, d107_⟩ := b102_
        subst d107_
        obtain ⟨q109_, b108_⟩ : (Int32.toInt (i2z90_ + 1) = Int32.toInt i2z90_ + 1) ∧ (1 ≤ Int32.toInt (i2z90_ + 1) ∧ Int32.toInt (i2z90_ + 1) ≤ 7) := zadd_k i2z90_ 1 1 1 7 b95_ (by decide) (by decide) (by decide) (by decide) (by decide)
        refine pw_blk hT 3 (S' := (7, [some (pvR 107), some (pvR 106), some (pvI (i2z90_ + 1))], [], M101_)) rfl ⟨trivial, trivial, trivial, trivial⟩ ?_
        have j110_ : M101_.1 107 0 = (i2z90_ + 1) := (by have z1 : Int32.toInt (Int32.ofNat 7) = 7 := (by decide); have z2 := pvok_r oz90_ 106 0 rfl; have z3 : Mz90_.1 106 0 = M.1 106 0 := fz90_ 106 0 rfl; have z4 := congrArg Int32.toInt z3; rw [d99_, j0z90_, if_pos ((zi_lt _ _).mpr (by omega))])
        have j111_ : Int32.toInt (i2z90_ + 1) ≤ Int32.toInt (M101_.1 106 0) := by omega
        exact ihz90_ (i2z90_ + 1) M101_ o103_ f105_ (zr_wide b108_ (by decide) (by decide)) j110_ j111_ (zhid (pvms_up (zshow hmz90_) h2z90_ q109_ (by decide) (by decide)))
  have u112_ : Int32.toInt 0 = 0 := by decide
  have j113_ : M3_.1 107 0 = 0 := d1_
  have j114_ : Int32.toInt 0 ≤ Int32.toInt (M3_.1 106 0) := by omega
  exact hlz90_ _ 0 M3_ o5_ f7_ (zr_wide (show 0 ≤ Int32.toInt 0 ∧ Int32.toInt 0 ≤ 0 from (by decide)) (by decide) (by decide)) j113_ j114_ (zhid (Nat.lt_succ_self _))
def fpL_eX6_append_106_x_x : List (Nat × Nat × Nat) := [(0, 106, 1), (0, 114, 0), (0, 122, 0)]
def fp_eX6_append_106_x_x (q k : Nat) : Bool := pvfp fpL_eX6_append_106_x_x q k
set_option maxHeartbeats 4000000 in
set_option maxRecDepth 10000 in
theorem se_X6_append_106_x_x (M : pvM) (hok : pvOk M) (n1 : Int32) (n2 : Int32) (hn1 : 0 ≤ Int32.toInt n1 ∧ Int32.toInt n1 ≤ 6) (hn2 : 0 ≤ Int32.toInt n2 ∧ Int32.toInt n2 ≤ 9999) (d : Nat) : PW 151 d (0, [some (pvR 106), some (pvI n1), some (pvI n2)], [], M) (fun r X => (∃ x : Int32, r = some (pvI x) ∧ (1 ≤ Int32.toInt x ∧ Int32.toInt x ≤ 7) ∧ x = (if (M.1 106 0) < (Int32.ofNat 7) then ((M.1 106 0) + 1) else (M.1 106 0))) ∧ pvOk X ∧ pvFr fp_eX6_append_106_x_x M X ∧ X.1 106 0 = (if (M.1 106 0) < (Int32.ofNat 7) then ((M.1 106 0) + 1) else (M.1 106 0))) := by
  have hT : pvdom 151 = pvD_151 := rfl
  refine pw_blk hT 1 (S' := (1, [some (pvR 106), some (pvI n1), some (pvI n2)], [pvR 106], M)) rfl ⟨trivial, trivial⟩ ?_
  refine pw_callT hT (as := [pvR 106]) (lo1 := [some (pvR 106)]) (d1 := d) (rest := []) rfl rfl rfl rfl rfl (fun _ => rfl) (Nat.zero_le _) rfl rfl rfl (sf_X6_isFull_106 M hok d) ?_
  have b6_ : 0 ≤ Int32.toInt (M.1 106 0) ∧ Int32.toInt (M.1 106 0) ≤ 7 := pvok_r hok 106 0 rfl
  by_cases c7_ : (M.1 106 0) < (Int32.ofNat 7)
  · refine pw_eqI (if_pos c7_) ?_
    have b8_ : 0 ≤ Int32.toInt (M.1 106 0) ∧ Int32.toInt (M.1 106 0) ≤ 6 := zr_lt_l 6 c7_ b6_ (show 7 ≤ Int32.toInt (Int32.ofNat 7) ∧ Int32.toInt (Int32.ofNat 7) ≤ 7 from (by decide)) (by decide)
    show PW 151 d (4, [some (pvR 106), some (pvI n1), some (pvI n2)], [pvI 0], M) _
    refine pw_if hT (c := 0 = 0) rfl rfl (fun c9_ => ?_) (fun c9_ => absurd (by decide) c9_)
    refine pw_blkw hT 6 (pc := 22) (lo := [some (pvR 106), some (pvI n1), some (pvI n2)]) (st := []) (M := pvu M 114 (Int32.toNatClampNeg (M.1 106 0)) n1) rfl ⟨trivial, rfl, trivial, rfl, trivial, ⟨rfl, (zr_in (n := 7) b8_ (by decide) (by decide))⟩, trivial⟩ (fun M10_ e11_ => ?_)
    have o12_ : pvOk M10_ := pvok_u2 e11_ hok rfl hn1
    have f13_ : pvFr fp_eX6_append_106_x_x M M10_ := pvfr_u e11_ pvfr_0 rfl
    have e14_ : (M10_.1 106 0) = (M.1 106 0) := (pvu_n e11_ 106 0 (Or.inl (by decide)))
    have b15_ : 0 ≤ Int32.toInt (M10_.1 106 0) ∧ Int32.toInt (M10_.1 106 0) ≤ 6 := (by rw [e14_]; exact b8_)
    refine pw_blkw hT 6 (pc := 32) (lo := [some (pvR 106), some (pvI n1), some (pvI n2)]) (st := []) (M := pvu M10_ 122 (Int32.toNatClampNeg (M10_.1 106 0)) n2) rfl ⟨trivial, rfl, trivial, rfl, trivial, ⟨rfl, (zr_in (n := 7) b15_ (by decide) (by decide))⟩, trivial⟩ (fun M16_ e17_ => ?_)
    have o18_ : pvOk M16_ := pvok_u2 e17_ o12_ rfl hn2
    have f19_ : pvFr fp_eX6_append_106_x_x M M16_ := pvfr_u e17_ f13_ rfl
    have e20_ : (M16_.1 106 0) = (M10_.1 106 0) := (pvu_n e17_ 106 0 (Or.inl (by decide)))
    have b21_ : 0 ≤ Int32.toInt (M16_.1 106 0) ∧ Int32.toInt (M16_.1 106 0) ≤ 6 := (by rw [e20_]; exact b15_)
    obtain ⟨q23_, b22_⟩ : (Int32.toInt ((M16_.1 106 0) + 1) = Int32.toInt (M16_.1 106 0) + 1) ∧ (1 ≤ Int32.toInt ((M16_.1 106 0) + 1) ∧ Int32.toInt ((M16_.1 106 0) + 1) ≤ 7) := zadd_k (M16_.1 106 0) 1 1 1 7 b21_ (by decide) (by decide) (by decide) (by decide) (by decide)
    refine pw_blkw hT 6 (pc := 42) (lo := [some (pvR 106), some (pvI n1), some (pvI n2)]) (st := []) (M := pvu M16_ 106 0 ((M16_.1 106 0) + 1)) rfl ⟨trivial, trivial, rfl, trivial, trivial, rfl, trivial⟩ (fun M24_ e25_ => ?_)
    have o26_ : pvOk M24_ := pvok_u2 e25_ o18_ rfl (zr_wide b22_ (by decide) (by decide))
    have f27_ : pvFr fp_eX6_append_106_x_x M M24_ := pvfr_u e25_ f19_ rfl
    have e28_ : (M24_.1 106 0) = ((M16_.1 106 0) + 1) := (pvu_s e25_)
    have b29_ : 1 ≤ Int32.toInt (M24_.1 106 0) ∧ Int32.toInt (M24_.1 106 0) ≤ 7 := (by rw [e28_]; exact b22_)
    refine pw_blk hT 2 (S' := (46, [some (pvR 106), some (pvI n1), some (pvI n2)], [pvI (M24_.1 106 0)], M24_)) rfl ⟨trivial, rfl, trivial⟩ ?_
    exact pw_ret hT rfl (r := some (pvI (M24_.1 106 0))) (M' := M24_) ⟨rfl, rfl⟩ ⟨⟨_, rfl, b29_, (by rw [if_pos c7_]; exact (show (M24_.1 106 0) = ((M.1 106 0) + 1) from by rw [((pvu_s e25_).trans (show ((M16_.1 106 0) + 1) = ((M.1 106 0) + 1) from by rw [((pvu_n e17_ 106 0 (Or.inl (by decide))).trans (pvu_n e11_ 106 0 (Or.inl (by decide))))]))]))⟩, o26_, f27_, (by rw [if_pos c7_]; exact ((pvu_s e25_).trans (show ((M16_.1 106 0) + 1) = ((M.1 106 0) + 1) from by rw [((pvu_n e17_ 106 0 (Or.inl (by decide))).trans (pvu_n e11_ 106 0 (Or.inl (by decide))))])))⟩
  · refine pw_eqI (if_neg c7_) ?_
    have b30_ : 7 ≤ Int32.toInt (M.1 106 0) ∧ Int32.toInt (M.1 106 0) ≤ 7 := zr_nlt_l 7 c7_ b6_ (show 7 ≤ Int32.toInt (Int32.ofNat 7) ∧ Int32.toInt (Int32.ofNat 7) ≤ 7 from (by decide)) (by decide)
    show PW 151 d (4, [some (pvR 106), some (pvI n1), some (pvI n2)], [pvI 1], M) _
    refine pw_if hT (c := 1 = 0) rfl rfl (fun c31_ => absurd c31_ (by decide)) (fun c31_ => ?_)
    refine pw_blk hT 2 (S' := (11, [some (pvR 106), some (pvI n1), some (pvI n2)], [pvI (M.1 106 0)], M)) rfl ⟨trivial, rfl, trivial⟩ ?_
    exact pw_ret hT rfl (r := some (pvI (M.1 106 0))) (M' := M) ⟨rfl, rfl⟩ ⟨⟨_, rfl, (zr_wide b30_ (by decide) (by decide)), (by rw [if_neg c7_])⟩, hok, pvfr_0, (by rw [if_neg c7_]; exact rfl)⟩
def fpL_eX6_append_104_x_x : List (Nat × Nat × Nat) := [(0, 104, 1), (0, 112, 0), (0, 120, 0)]
def fp_eX6_append_104_x_x (q k : Nat) : Bool := pvfp fpL_eX6_append_104_x_x q k
set_option maxHeartbeats 4000000 in
set_option maxRecDepth 10000 in
theorem se_X6_append_104_x_x (M : pvM) (hok : pvOk M) (n1 : Int32) (n2 : Int32) (hn1 : 0 ≤ Int32.toInt n1 ∧ Int32.toInt n1 ≤ 6) (hn2 : 0 ≤ Int32.toInt n2 ∧ Int32.toInt n2 ≤ 9999) (d : Nat) : PW 151 d (0, [some (pvR 104), some (pvI n1), some (pvI n2)], [], M) (fun r X => (∃ x : Int32, r = some (pvI x) ∧ (1 ≤ Int32.toInt x ∧ Int32.toInt x ≤ 8) ∧ x = (if (M.1 104 0) < (Int32.ofNat 8) then ((M.1 104 0) + 1) else (M.1 104 0))) ∧ pvOk X ∧ pvFr fp_eX6_append_104_x_x M X ∧ X.1 104 0 = (if (M.1 104 0) < (Int32.ofNat 8) then ((M.1 104 0) + 1) else (M.1 104 0))) := by
  have hT : pvdom 151 = pvD_151 := rfl
  refine pw_blk hT 1 (S' := (1, [some (pvR 104), some (pvI n1), some (pvI n2)], [pvR 104], M)) rfl ⟨trivial, trivial⟩ ?_
  refine pw_callT hT (as := [pvR 104]) (lo1 := [some (pvR 104)]) (d1 := d) (rest := []) rfl rfl rfl rfl rfl (fun _ => rfl) (Nat.zero_le _) rfl rfl rfl (sf_X6_isFull_104 M hok d) ?_
  have b6_ : 0 ≤ Int32.toInt (M.1 104 0) ∧ Int32.toInt (M.1 104 0) ≤ 8 := pvok_r hok 104 0 rfl
  by_cases c7_ : (M.1 104 0) < (Int32.ofNat 8)
  · refine pw_eqI (if_pos c7_) ?_
    have b8_ : 0 ≤ Int32.toInt (M.1 104 0) ∧ Int32.toInt (M.1 104 0) ≤ 7 := zr_lt_l 7 c7_ b6_ (show 8 ≤ Int32.toInt (Int32.ofNat 8) ∧ Int32.toInt (Int32.ofNat 8) ≤ 8 from (by decide)) (by decide)
    show PW 151 d (4, [some (pvR 104), some (pvI n1), some (pvI n2)], [pvI 0], M) _
    refine pw_if hT (c := 0 = 0) rfl rfl (fun c9_ => ?_) (fun c9_ => absurd (by decide) c9_)
    refine pw_blkw hT 6 (pc := 22) (lo := [some (pvR 104), some (pvI n1), some (pvI n2)]) (st := []) (M := pvu M 112 (Int32.toNatClampNeg (M.1 104 0)) n1) rfl ⟨trivial, rfl, trivial, rfl, trivial, ⟨rfl, (zr_in (n := 8) b8_ (by decide) (by decide))⟩, trivial⟩ (fun M10_ e11_ => ?_)
    have o12_ : pvOk M10_ := pvok_u2 e11_ hok rfl hn1
    have f13_ : pvFr fp_eX6_append_104_x_x M M10_ := pvfr_u e11_ pvfr_0 rfl
    have e14_ : (M10_.1 104 0) = (M.1 104 0) := (pvu_n e11_ 104 0 (Or.inl (by decide)))
    have b15_ : 0 ≤ Int32.toInt (M10_.1 104 0) ∧ Int32.toInt (M10_.1 104 0) ≤ 7 := (by rw [e14_]; exact b8_)
    refine pw_blkw hT 6 (pc := 32) (lo := [some (pvR 104), some (pvI n1), some (pvI n2)]) (st := []) (M := pvu M10_ 120 (Int32.toNatClampNeg (M10_.1 104 0)) n2) rfl ⟨trivial, rfl, trivial, rfl, trivial, ⟨rfl, (zr_in (n := 8) b15_ (by decide) (by decide))⟩, trivial⟩ (fun M16_ e17_ => ?_)
    have o18_ : pvOk M16_ := pvok_u2 e17_ o12_ rfl hn2
    have f19_ : pvFr fp_eX6_append_104_x_x M M16_ := pvfr_u e17_ f13_ rfl
    have e20_ : (M16_.1 104 0) = (M10_.1 104 0) := (pvu_n e17_ 104 0 (Or.inl (by decide)))
    have b21_ : 0 ≤ Int32.toInt (M16_.1 104 0) ∧ Int32.toInt (M16_.1 104 0) ≤ 7 := (by rw [e20_]; exact b15_)
    obtain ⟨q23_, b22_⟩ : (Int32.toInt ((M16_.1 104 0) + 1) = Int32.toInt (M16_.1 104 0) + 1) ∧ (1 ≤ Int32.toInt ((M16_.1 104 0) + 1) ∧ Int32.toInt ((M16_.1 104 0) + 1) ≤ 8) := zadd_k (M16_.1 104 0) 1 1 1 8 b21_ (by decide) (by decide) (by decide) (by decide) (by decide)
    refine pw_blkw hT 6 (pc := 42) (lo := [some (pvR 104), some (pvI n1), some (pvI n2)]) (st := []) (M := pvu M16_ 104 0 ((M16_.1 104 0) + 1)) rfl ⟨trivial, trivial, rfl, trivial, trivial, rfl, trivial⟩ (fun M24_ e25_ => ?_)
    have o26_ : pvOk M24_ := pvok_u2 e25_ o18_ rfl (zr_wide b22_ (by decide) (by decide))
    have f27_ : pvFr fp_eX6_append_104_x_x M M24_ := pvfr_u e25_ f19_ rfl
    have e28_ : (M24_.1 104 0) = ((M16_.1 104 0) + 1) := (pvu_s e25_)
    have b29_ : 1 ≤ Int32.toInt (M24_.1 104 0) ∧ Int32.toInt (M24_.1 104 0) ≤ 8 := (by rw [e28_]; exact b22_)
    refine pw_blk hT 2 (S' := (46, [some (pvR 104), some (pvI n1), some (pvI n2)], [pvI (M24_.1 104 0)], M24_)) rfl ⟨trivial, rfl, trivial⟩ ?_
    exact pw_ret hT rfl (r := some (pvI (M24_.1 104 0))) (M' := M24_) ⟨rfl, rfl⟩ ⟨⟨_, rfl, b29_, (by rw [if_pos c7_]; exact (show (M24_.1 104 0) = ((M.1 104 0) + 1) from by rw [((pvu_s e25_).trans (show ((M16_.1 104 0) + 1) = ((M.1 104 0) + 1) from by rw [((pvu_n e17_ 104 0 (Or.inl (by decide))).trans (pvu_n e11_ 104 0 (Or.inl (by decide))))]))]))⟩, o26_, f27_, (by rw [if_pos c7_]; exact ((pvu_s e25_).trans (show ((M16_.1 104 0) + 1) = ((M.1 104 0) + 1) from by rw [((pvu_n e17_ 104 0 (Or.inl (by decide))).trans (pvu_n e11_ 104 0 (Or.inl (by decide))))])))⟩
  · refine pw_eqI (if_neg c7_) ?_
    have b30_ : 8 ≤ Int32.toInt (M.1 104 0) ∧ Int32.toInt (M.1 104 0) ≤ 8 := zr_nlt_l 8 c7_ b6_ (show 8 ≤ Int32.toInt (Int32.ofNat 8) ∧ Int32.toInt (Int32.ofNat 8) ≤ 8 from (by decide)) (by decide)
    show PW 151 d (4, [some (pvR 104), some (pvI n1), some (pvI n2)], [pvI 1], M) _
    refine pw_if hT (c := 1 = 0) rfl rfl (fun c31_ => absurd c31_ (by decide)) (fun c31_ => ?_)
    refine pw_blk hT 2 (S' := (11, [some (pvR 104), some (pvI n1), some (pvI n2)], [pvI (M.1 104 0)], M)) rfl ⟨trivial, rfl, trivial⟩ ?_
    exact pw_ret hT rfl (r := some (pvI (M.1 104 0))) (M' := M) ⟨rfl, rfl⟩ ⟨⟨_, rfl, (zr_wide b30_ (by decide) (by decide)), (by rw [if_neg c7_])⟩, hok, pvfr_0, (by rw [if_neg c7_]; exact rfl)⟩
def fpL_eX6_clear_104 : List (Nat × Nat × Nat) := [(0, 104, 1)]
def fp_eX6_clear_104 (q k : Nat) : Bool := pvfp fpL_eX6_clear_104 q k
set_option maxHeartbeats 4000000 in
set_option maxRecDepth 10000 in
theorem se_X6_clear_104 (M : pvM) (hok : pvOk M) (d : Nat) : PW 153 d (0, [some (pvR 104)], [], M) (fun r X => (∃ x : Int32, r = some (pvI x) ∧ (0 ≤ Int32.toInt x ∧ Int32.toInt x ≤ 0) ∧ x = 0) ∧ pvOk X ∧ pvFr fp_eX6_clear_104 M X ∧ X.1 104 0 = 0) := by
  have hT : pvdom 153 = pvD_153 := rfl
  refine pw_blkw hT 3 (pc := 5) (lo := [some (pvR 104)]) (st := []) (M := pvu M 104 0 0) rfl ⟨trivial, trivial, rfl, trivial⟩ (fun M1_ e2_ => ?_)
  have o3_ : pvOk M1_ := pvok_u2 e2_ hok rfl (zr_wide (show 0 ≤ Int32.toInt 0 ∧ Int32.toInt 0 ≤ 0 from (by decide)) (by decide) (by decide))
  have f4_ : pvFr fp_eX6_clear_104 M M1_ := pvfr_u e2_ pvfr_0 rfl
  refine pw_blk hT 1 (S' := (6, [some (pvR 104)], [pvI 0], M1_)) rfl ⟨trivial, trivial⟩ ?_
  exact pw_ret hT rfl (r := some (pvI 0)) (M' := M1_) ⟨rfl, rfl⟩ ⟨⟨_, rfl, (show 0 ≤ Int32.toInt 0 ∧ Int32.toInt 0 ≤ 0 from (by decide)), rfl⟩, o3_, f4_, (pvu_s e2_)⟩
def fpL_eX9_appendTold_0_104_x_x : List (Nat × Nat × Nat) := [(0, 104, 1), (0, 112, 0), (0, 120, 0)]
def fp_eX9_appendTold_0_104_x_x (q k : Nat) : Bool := pvfp fpL_eX9_appendTold_0_104_x_x q k
theorem fp_eX9_appendTold_0_104_x_x_fp_eX6_append_104_x_x (a b : Nat) (h : fp_eX6_append_104_x_x a b = true) : fp_eX9_appendTold_0_104_x_x a b = true := pvfp_sub (l1 := fpL_eX6_append_104_x_x) (l2 := fpL_eX9_appendTold_0_104_x_x) (by decide) a b h
theorem fp_eX9_appendTold_0_104_x_x_fp_eX6_clear_104 (a b : Nat) (h : fp_eX6_clear_104 a b = true) : fp_eX9_appendTold_0_104_x_x a b = true := pvfp_sub (l1 := fpL_eX6_clear_104) (l2 := fpL_eX9_appendTold_0_104_x_x) (by decide) a b h
set_option maxHeartbeats 4000000 in
set_option maxRecDepth 10000 in
theorem se_X9_appendTold_0_104_x_x (M : pvM) (hok : pvOk M) (n2 : Int32) (n3 : Int32) (d : Nat) : PW 168 d (0, [some (pvR 0), some (pvR 104), some (pvI n2), some (pvI n3)], [], M) (fun r X => (∃ x : Int32, r = some (pvI x) ∧ ((-4) ≤ Int32.toInt x ∧ Int32.toInt x ≤ 8) ∧ x = (if n2 = (-1) then 0 else (if n2 < 0 then (-1) else (if (M.1 8 1) ≤ n2 then (-1) else (if n3 < 0 then (-2) else (if 9999 < n3 then (-2) else (if (M.1 104 0) < (Int32.ofNat 8) then (if (M.1 104 0) < (Int32.ofNat 8) then ((M.1 104 0) + 1) else (M.1 104 0)) else (-4)))))))) ∧ pvOk X ∧ pvFr fp_eX9_appendTold_0_104_x_x M X ∧ X.1 104 0 = (if n2 = (-1) then 0 else (if n2 < 0 then (M.1 104 0) else (if (M.1 8 1) ≤ n2 then (M.1 104 0) else (if n3 < 0 then (M.1 104 0) else (if 9999 < n3 then (M.1 104 0) else (if (M.1 104 0) < (Int32.ofNat 8) then (if (M.1 104 0) < (Int32.ofNat 8) then ((M.1 104 0) + 1) else (M.1 104 0)) else (M.1 104 0)))))))) := by
  have hT : pvdom 168 = pvD_168 := rfl
  refine pw_blk hT 2 (S' := (2, [some (pvR 0), some (pvR 104), some (pvI n2), some (pvI n3)], [pvI (-1), pvI n2], M)) rfl ⟨trivial, trivial, trivial⟩ ?_
  refine pw_icn hT (c := n2 = (-1)) rfl rfl (fun c1_ => ?_) (fun c1_ => ?_)
  · refine pw_blk hT 3 (S' := (15, [some (pvR 0), some (pvR 104), some (pvI n2), some (pvI n3)], [pvI n2, pvR 8], M)) rfl ⟨trivial, rfl, trivial, trivial⟩ ?_
    refine pw_callT hT (as := [pvR 8, pvI n2]) (lo1 := [some (pvR 8), some (pvI n2)]) (d1 := d) (rest := []) rfl rfl rfl rfl rfl (fun _ => rfl) (Nat.zero_le _) rfl rfl rfl (sf_X7_has_8_x M hok n2 d) ?_
    by_cases c7_ : n2 < 0
    · refine pw_eqI (if_pos c7_) ?_
      have b8_ : (-2147483648) ≤ Int32.toInt n2 ∧ Int32.toInt n2 ≤ (-2) := (by have u0 := (zbnd n2); have u9 := (show _ ∧ _ from ⟨(zi_lt _ _).mp c7_, (show 0 ≤ Int32.toInt 0 ∧ Int32.toInt 0 ≤ 0 from (by decide))⟩); have v1 := (not_congr (zi_eq _ _)).mp c1_; have w1 : ((-1) : Int32).toInt = -1 := (by decide); omega)
      show PW 168 d (18, [some (pvR 0), some (pvR 104), some (pvI n2), some (pvI n3)], [pvI 0], M) _
      refine pw_ifn hT (c := 0 = 0) rfl rfl (fun c9_ => absurd (by decide) c9_) (fun c9_ => ?_)
      refine pw_blk hT 1 (S' := (22, [some (pvR 0), some (pvR 104), some (pvI n2), some (pvI n3)], [pvI (-1)], M)) rfl ⟨trivial, trivial⟩ ?_
      exact pw_ret hT rfl (r := some (pvI (-1))) (M' := M) ⟨rfl, rfl⟩ ⟨⟨_, rfl, (zr_wide (show (-1) ≤ Int32.toInt (-1) ∧ Int32.toInt (-1) ≤ (-1) from (by decide)) (by decide) (by decide)), (by rw [if_neg c1_, if_pos c7_])⟩, hok, pvfr_0, (by rw [if_neg c1_, if_pos c7_]; exact rfl)⟩
    · refine pw_eqI (if_neg c7_) ?_
      have b10_ : 0 ≤ Int32.toInt n2 ∧ Int32.toInt n2 ≤ 2147483647 := zr_nlt_l 0 c7_ (zbnd n2) (show 0 ≤ Int32.toInt 0 ∧ Int32.toInt 0 ≤ 0 from (by decide)) (by decide)
      have b11_ : 0 ≤ Int32.toInt (M.1 8 1) ∧ Int32.toInt (M.1 8 1) ≤ 7 := pvok_r hok 8 1 rfl
      by_cases c12_ : (M.1 8 1) ≤ n2
      · refine pw_eqI (if_pos c12_) ?_
        have d13_ : Int32.toInt (M.1 8 1) ≤ Int32.toInt n2 := (zi_le _ _).mp c12_
        show PW 168 d (18, [some (pvR 0), some (pvR 104), some (pvI n2), some (pvI n3)], [pvI 0], M) _
        refine pw_ifn hT (c := 0 = 0) rfl rfl (fun c14_ => absurd (by decide) c14_) (fun c14_ => ?_)
        refine pw_blk hT 1 (S' := (22, [some (pvR 0), some (pvR 104), some (pvI n2), some (pvI n3)], [pvI (-1)], M)) rfl ⟨trivial, trivial⟩ ?_
        exact pw_ret hT rfl (r := some (pvI (-1))) (M' := M) ⟨rfl, rfl⟩ ⟨⟨_, rfl, (zr_wide (show (-1) ≤ Int32.toInt (-1) ∧ Int32.toInt (-1) ≤ (-1) from (by decide)) (by decide) (by decide)), (by rw [if_neg c1_, if_neg c7_, if_pos c12_])⟩, hok, pvfr_0, (by rw [if_neg c1_, if_neg c7_, if_pos c12_]; exact rfl)⟩
      · refine pw_eqI (if_neg c12_) ?_
        have b15_ : 1 ≤ Int32.toInt (M.1 8 1) ∧ Int32.toInt (M.1 8 1) ≤ 7 := zr_nle_l 1 c12_ b11_ b10_ (by decide)
        have b16_ : 0 ≤ Int32.toInt n2 ∧ Int32.toInt n2 ≤ 6 := zr_nle_r 6 c12_ b10_ b15_ (by decide)
        have d17_ : Int32.toInt (M.1 8 1) > Int32.toInt n2 := Int.not_le.mp ((not_congr (zi_le _ _)).mp c12_)
        show PW 168 d (18, [some (pvR 0), some (pvR 104), some (pvI n2), some (pvI n3)], [pvI 1], M) _
        refine pw_ifn hT (c := 1 = 0) rfl rfl (fun c18_ => ?_) (fun c18_ => absurd c18_ (by decide))
        refine pw_blk hT 3 (S' := (28, [some (pvR 0), some (pvR 104), some (pvI n2), some (pvI n3)], [pvI 9999, pvI 0, pvI n3], M)) rfl ⟨trivial, trivial, trivial, trivial⟩ ?_
        refine pw_callT hT (as := [pvI n3, pvI 0, pvI 9999]) (lo1 := [some (pvI n3), some (pvI 0), some (pvI 9999)]) (d1 := d) (rest := []) rfl rfl rfl rfl rfl (fun h => absurd h (by decide)) (Nat.zero_le _) rfl rfl rfl (sf_X9_within_x_x_x M hok n3 0 9999 d) ?_
        by_cases c24_ : n3 < 0
        · refine pw_eqI (if_pos c24_) ?_
          have b25_ : (-2147483648) ≤ Int32.toInt n3 ∧ Int32.toInt n3 ≤ (-1) := zr_lt_l (-1) c24_ (zbnd n3) (show 0 ≤ Int32.toInt 0 ∧ Int32.toInt 0 ≤ 0 from (by decide)) (by decide)
          show PW 168 d (31, [some (pvR 0), some (pvR 104), some (pvI n2), some (pvI n3)], [pvI 0], M) _
          refine pw_ifn hT (c := 0 = 0) rfl rfl (fun c26_ => absurd (by decide) c26_) (fun c26_ => ?_)
          refine pw_blk hT 1 (S' := (36, [some (pvR 0), some (pvR 104), some (pvI n2), some (pvI n3)], [pvI (-2)], M)) rfl ⟨trivial, trivial⟩ ?_
          exact pw_ret hT rfl (r := some (pvI (-2))) (M' := M) ⟨rfl, rfl⟩ ⟨⟨_, rfl, (zr_wide (show (-2) ≤ Int32.toInt (-2) ∧ Int32.toInt (-2) ≤ (-2) from (by decide)) (by decide) (by decide)), (by rw [if_neg c1_, if_neg c7_, if_neg c12_, if_pos c24_])⟩, hok, pvfr_0, (by rw [if_neg c1_, if_neg c7_, if_neg c12_, if_pos c24_]; exact rfl)⟩
        · refine pw_eqI (if_neg c24_) ?_
          have b27_ : 0 ≤ Int32.toInt n3 ∧ Int32.toInt n3 ≤ 2147483647 := zr_nlt_l 0 c24_ (zbnd n3) (show 0 ≤ Int32.toInt 0 ∧ Int32.toInt 0 ≤ 0 from (by decide)) (by decide)
          by_cases c28_ : 9999 < n3
          · refine pw_eqI (if_pos c28_) ?_
            have b29_ : 10000 ≤ Int32.toInt n3 ∧ Int32.toInt n3 ≤ 2147483647 := zr_lt_r 10000 c28_ b27_ (show 9999 ≤ Int32.toInt 9999 ∧ Int32.toInt 9999 ≤ 9999 from (by decide)) (by decide)
            show PW 168 d (31, [some (pvR 0), some (pvR 104), some (pvI n2), some (pvI n3)], [pvI 0], M) _
            refine pw_ifn hT (c := 0 = 0) rfl rfl (fun c30_ => absurd (by decide) c30_) (fun c30_ => ?_)
            refine pw_blk hT 1 (S' := (36, [some (pvR 0), some (pvR 104), some (pvI n2), some (pvI n3)], [pvI (-2)], M)) rfl ⟨trivial, trivial⟩ ?_
            exact pw_ret hT rfl (r := some (pvI (-2))) (M' := M) ⟨rfl, rfl⟩ ⟨⟨_, rfl, (zr_wide (show (-2) ≤ Int32.toInt (-2) ∧ Int32.toInt (-2) ≤ (-2) from (by decide)) (by decide) (by decide)), (by rw [if_neg c1_, if_neg c7_, if_neg c12_, if_neg c24_, if_pos c28_])⟩, hok, pvfr_0, (by rw [if_neg c1_, if_neg c7_, if_neg c12_, if_neg c24_, if_pos c28_]; exact rfl)⟩
          · refine pw_eqI (if_neg c28_) ?_
            have b31_ : 0 ≤ Int32.toInt n3 ∧ Int32.toInt n3 ≤ 9999 := zr_nlt_r 9999 c28_ b27_ (show 9999 ≤ Int32.toInt 9999 ∧ Int32.toInt 9999 ≤ 9999 from (by decide)) (by decide)
            show PW 168 d (31, [some (pvR 0), some (pvR 104), some (pvI n2), some (pvI n3)], [pvI 1], M) _
            refine pw_ifn hT (c := 1 = 0) rfl rfl (fun c32_ => ?_) (fun c32_ => absurd c32_ (by decide))
            refine pw_blk hT 1 (S' := (38, [some (pvR 0), some (pvR 104), some (pvI n2), some (pvI n3)], [pvR 104], M)) rfl ⟨trivial, trivial⟩ ?_
            refine pw_callT hT (as := [pvR 104]) (lo1 := [some (pvR 104)]) (d1 := d) (rest := []) rfl rfl rfl rfl rfl (fun _ => rfl) (Nat.zero_le _) rfl rfl rfl (sf_X6_isFull_104 M hok d) ?_
            have b38_ : 0 ≤ Int32.toInt (M.1 104 0) ∧ Int32.toInt (M.1 104 0) ≤ 8 := pvok_r hok 104 0 rfl
            by_cases c39_ : (M.1 104 0) < (Int32.ofNat 8)
            · refine pw_eqI (if_pos c39_) ?_
              have b40_ : 0 ≤ Int32.toInt (M.1 104 0) ∧ Int32.toInt (M.1 104 0) ≤ 7 := zr_lt_l 7 c39_ b38_ (show 8 ≤ Int32.toInt (Int32.ofNat 8) ∧ Int32.toInt (Int32.ofNat 8) ≤ 8 from (by decide)) (by decide)
              show PW 168 d (41, [some (pvR 0), some (pvR 104), some (pvI n2), some (pvI n3)], [pvI 0], M) _
              refine pw_if hT (c := 0 = 0) rfl rfl (fun c41_ => ?_) (fun c41_ => absurd (by decide) c41_)
              refine pw_blk hT 3 (S' := (50, [some (pvR 0), some (pvR 104), some (pvI n2), some (pvI n3)], [pvI n3, pvI n2, pvR 104], M)) rfl ⟨trivial, trivial, trivial, trivial⟩ ?_
              refine pw_callGd hT (as := [pvR 104, pvI n2, pvI n3]) (lo1 := [some (pvR 104), some (pvI n2), some (pvI n3)]) (d1 := d) (rest := []) rfl rfl rfl rfl rfl (fun _ => rfl) (Nat.zero_le _) rfl rfl rfl (se_X6_append_104_x_x M hok n2 n3 b16_ b31_ d) (fun x43_ M44_ b45_ o46_ g47_ d42_ => ?_)
              have f48_ : pvFr fp_eX9_appendTold_0_104_x_x M M44_ := pvfr_t g47_ pvfr_0 fp_eX9_appendTold_0_104_x_x_fp_eX6_append_104_x_x
              obtain ⟨b49_, d50_⟩ := b45_
              subst d50_
              exact pw_ret hT rfl (r := some (pvI (if (M.1 104 0) < (Int32.ofNat 8) then ((M.1 104 0) + 1) else (M.1 104 0)))) (M' := M44_) ⟨rfl, rfl⟩ ⟨⟨_, rfl, (zr_wide b49_ (by decide) (by decide)), (by rw [if_neg c1_, if_neg c7_, if_neg c12_, if_neg c24_, if_neg c28_, if_pos c39_])⟩, o46_, f48_, (by rw [if_neg c1_, if_neg c7_, if_neg c12_, if_neg c24_, if_neg c28_, if_pos c39_]; exact d42_)⟩
            · refine pw_eqI (if_neg c39_) ?_
              have b51_ : 8 ≤ Int32.toInt (M.1 104 0) ∧ Int32.toInt (M.1 104 0) ≤ 8 := zr_nlt_l 8 c39_ b38_ (show 8 ≤ Int32.toInt (Int32.ofNat 8) ∧ Int32.toInt (Int32.ofNat 8) ≤ 8 from (by decide)) (by decide)
              show PW 168 d (41, [some (pvR 0), some (pvR 104), some (pvI n2), some (pvI n3)], [pvI 1], M) _
              refine pw_if hT (c := 1 = 0) rfl rfl (fun c52_ => absurd c52_ (by decide)) (fun c52_ => ?_)
              refine pw_blk hT 1 (S' := (46, [some (pvR 0), some (pvR 104), some (pvI n2), some (pvI n3)], [pvI (-4)], M)) rfl ⟨trivial, trivial⟩ ?_
              exact pw_ret hT rfl (r := some (pvI (-4))) (M' := M) ⟨rfl, rfl⟩ ⟨⟨_, rfl, (zr_wide (show (-4) ≤ Int32.toInt (-4) ∧ Int32.toInt (-4) ≤ (-4) from (by decide)) (by decide) (by decide)), (by rw [if_neg c1_, if_neg c7_, if_neg c12_, if_neg c24_, if_neg c28_, if_neg c39_])⟩, hok, pvfr_0, (by rw [if_neg c1_, if_neg c7_, if_neg c12_, if_neg c24_, if_neg c28_, if_neg c39_]; exact rfl)⟩
  · have b53_ : (-1) ≤ Int32.toInt n2 ∧ Int32.toInt n2 ≤ (-1) := (by have u0 := (zbnd n2); have u1 := (zi_eq _ _).mp c1_; have u2 := (show (-1) ≤ Int32.toInt (-1) ∧ Int32.toInt (-1) ≤ (-1) from (by decide)); omega)
    refine pw_blk hT 1 (S' := (6, [some (pvR 0), some (pvR 104), some (pvI n2), some (pvI n3)], [pvR 104], M)) rfl ⟨trivial, trivial⟩ ?_
    refine pw_callGd hT (as := [pvR 104]) (lo1 := [some (pvR 104)]) (d1 := d) (rest := []) rfl rfl rfl rfl rfl (fun _ => rfl) (Nat.zero_le _) rfl rfl rfl (se_X6_clear_104 M hok d) (fun x55_ M56_ b57_ o58_ g59_ d54_ => ?_)
    have f60_ : pvFr fp_eX9_appendTold_0_104_x_x M M56_ := pvfr_t g59_ pvfr_0 fp_eX9_appendTold_0_104_x_x_fp_eX6_clear_104
    obtain ⟨b61_, d62_⟩ := b57_
    subst d62_
    exact pw_ret hT rfl (r := some (pvI 0)) (M' := M56_) ⟨rfl, rfl⟩ ⟨⟨_, rfl, (zr_wide b61_ (by decide) (by decide)), (by rw [if_pos c1_])⟩, o58_, f60_, (by rw [if_pos c1_]; exact d54_)⟩
def fpL_eX9_book_0_x_x : List (Nat × Nat × Nat) := [(0, 104, 1), (0, 112, 0), (0, 120, 0)]
def fp_eX9_book_0_x_x (q k : Nat) : Bool := pvfp fpL_eX9_book_0_x_x q k
theorem fp_eX9_book_0_x_x_fp_eX9_appendTold_0_104_x_x (a b : Nat) (h : fp_eX9_appendTold_0_104_x_x a b = true) : fp_eX9_book_0_x_x a b = true := pvfp_sub (l1 := fpL_eX9_appendTold_0_104_x_x) (l2 := fpL_eX9_book_0_x_x) (by decide) a b h
set_option maxHeartbeats 4000000 in
set_option maxRecDepth 10000 in
theorem se_X9_book_0_x_x (M : pvM) (hok : pvOk M) (n1 : Int32) (n2 : Int32) (d : Nat) : PW 171 d (0, [some (pvR 0), some (pvI n1), some (pvI n2)], [], M) (fun r X => (∃ x : Int32, r = some (pvI x) ∧ ((-4) ≤ Int32.toInt x ∧ Int32.toInt x ≤ 8) ∧ x = (if n1 = (-1) then 0 else (if n1 < 0 then (-1) else (if (M.1 8 1) ≤ n1 then (-1) else (if n2 < 0 then (-2) else (if 9999 < n2 then (-2) else (if (M.1 104 0) < (Int32.ofNat 8) then (if (M.1 104 0) < (Int32.ofNat 8) then ((M.1 104 0) + 1) else (M.1 104 0)) else (-4)))))))) ∧ pvOk X ∧ pvFr fp_eX9_book_0_x_x M X ∧ X.1 104 0 = (if n1 = (-1) then 0 else (if n1 < 0 then (M.1 104 0) else (if (M.1 8 1) ≤ n1 then (M.1 104 0) else (if n2 < 0 then (M.1 104 0) else (if 9999 < n2 then (M.1 104 0) else (if (M.1 104 0) < (Int32.ofNat 8) then (if (M.1 104 0) < (Int32.ofNat 8) then ((M.1 104 0) + 1) else (M.1 104 0)) else (M.1 104 0)))))))) := by
  have hT : pvdom 171 = pvD_171 := rfl
  refine pw_blk hT 6 (S' := (10, [some (pvR 0), some (pvI n1), some (pvI n2)], [pvI n2, pvI n1, pvR 104, pvR 0], M)) rfl ⟨trivial, trivial, rfl, rfl, trivial, trivial, trivial⟩ ?_
  refine pw_callGd hT (as := [pvR 0, pvR 104, pvI n1, pvI n2]) (lo1 := [some (pvR 0), some (pvR 104), some (pvI n1), some (pvI n2)]) (d1 := d) (rest := []) rfl rfl rfl rfl rfl (fun _ => rfl) (Nat.zero_le _) rfl rfl rfl (se_X9_appendTold_0_104_x_x M hok n1 n2 d) (fun x2_ M3_ b4_ o5_ g6_ d1_ => ?_)
  have f7_ : pvFr fp_eX9_book_0_x_x M M3_ := pvfr_t g6_ pvfr_0 fp_eX9_book_0_x_x_fp_eX9_appendTold_0_104_x_x
  obtain ⟨b8_, d9_⟩ := b4_
  subst d9_
  exact pw_ret hT rfl (r := some (pvI (if n1 = (-1) then 0 else (if n1 < 0 then (-1) else (if (M.1 8 1) ≤ n1 then (-1) else (if n2 < 0 then (-2) else (if 9999 < n2 then (-2) else (if (M.1 104 0) < (Int32.ofNat 8) then (if (M.1 104 0) < (Int32.ofNat 8) then ((M.1 104 0) + 1) else (M.1 104 0)) else (-4))))))))) (M' := M3_) ⟨rfl, rfl⟩ ⟨⟨_, rfl, b8_, rfl⟩, o5_, f7_, d1_⟩
def fpL_eX6_clear_101 : List (Nat × Nat × Nat) := [(0, 101, 1)]
def fp_eX6_clear_101 (q k : Nat) : Bool := pvfp fpL_eX6_clear_101 q k
set_option maxHeartbeats 4000000 in
set_option maxRecDepth 10000 in
theorem se_X6_clear_101 (M : pvM) (hok : pvOk M) (d : Nat) : PW 153 d (0, [some (pvR 101)], [], M) (fun r X => (∃ x : Int32, r = some (pvI x) ∧ (0 ≤ Int32.toInt x ∧ Int32.toInt x ≤ 0) ∧ x = 0) ∧ pvOk X ∧ pvFr fp_eX6_clear_101 M X ∧ X.1 101 0 = 0) := by
  have hT : pvdom 153 = pvD_153 := rfl
  refine pw_blkw hT 3 (pc := 5) (lo := [some (pvR 101)]) (st := []) (M := pvu M 101 0 0) rfl ⟨trivial, trivial, rfl, trivial⟩ (fun M1_ e2_ => ?_)
  have o3_ : pvOk M1_ := pvok_u2 e2_ hok rfl (zr_wide (show 0 ≤ Int32.toInt 0 ∧ Int32.toInt 0 ≤ 0 from (by decide)) (by decide) (by decide))
  have f4_ : pvFr fp_eX6_clear_101 M M1_ := pvfr_u e2_ pvfr_0 rfl
  refine pw_blk hT 1 (S' := (6, [some (pvR 101)], [pvI 0], M1_)) rfl ⟨trivial, trivial⟩ ?_
  exact pw_ret hT rfl (r := some (pvI 0)) (M' := M1_) ⟨rfl, rfl⟩ ⟨⟨_, rfl, (show 0 ≤ Int32.toInt 0 ∧ Int32.toInt 0 ≤ 0 from (by decide)), rfl⟩, o3_, f4_, (pvu_s e2_)⟩
def fpL_eX6_append_101_x_x : List (Nat × Nat × Nat) := [(0, 101, 1), (0, 109, 0), (0, 117, 0)]
def fp_eX6_append_101_x_x (q k : Nat) : Bool := pvfp fpL_eX6_append_101_x_x q k
set_option maxHeartbeats 4000000 in
set_option maxRecDepth 10000 in
theorem se_X6_append_101_x_x (M : pvM) (hok : pvOk M) (n1 : Int32) (n2 : Int32) (hn1 : 0 ≤ Int32.toInt n1 ∧ Int32.toInt n1 ≤ 6) (hn2 : 0 ≤ Int32.toInt n2 ∧ Int32.toInt n2 ≤ 9999) (d : Nat) : PW 151 d (0, [some (pvR 101), some (pvI n1), some (pvI n2)], [], M) (fun r X => (∃ x : Int32, r = some (pvI x) ∧ (1 ≤ Int32.toInt x ∧ Int32.toInt x ≤ 7) ∧ x = (if (M.1 101 0) < (Int32.ofNat 7) then ((M.1 101 0) + 1) else (M.1 101 0))) ∧ pvOk X ∧ pvFr fp_eX6_append_101_x_x M X ∧ X.1 101 0 = (if (M.1 101 0) < (Int32.ofNat 7) then ((M.1 101 0) + 1) else (M.1 101 0))) := by
  have hT : pvdom 151 = pvD_151 := rfl
  refine pw_blk hT 1 (S' := (1, [some (pvR 101), some (pvI n1), some (pvI n2)], [pvR 101], M)) rfl ⟨trivial, trivial⟩ ?_
  refine pw_callT hT (as := [pvR 101]) (lo1 := [some (pvR 101)]) (d1 := d) (rest := []) rfl rfl rfl rfl rfl (fun _ => rfl) (Nat.zero_le _) rfl rfl rfl (sf_X6_isFull_101 M hok d) ?_
  have b6_ : 0 ≤ Int32.toInt (M.1 101 0) ∧ Int32.toInt (M.1 101 0) ≤ 7 := pvok_r hok 101 0 rfl
  by_cases c7_ : (M.1 101 0) < (Int32.ofNat 7)
  · refine pw_eqI (if_pos c7_) ?_
    have b8_ : 0 ≤ Int32.toInt (M.1 101 0) ∧ Int32.toInt (M.1 101 0) ≤ 6 := zr_lt_l 6 c7_ b6_ (show 7 ≤ Int32.toInt (Int32.ofNat 7) ∧ Int32.toInt (Int32.ofNat 7) ≤ 7 from (by decide)) (by decide)
    show PW 151 d (4, [some (pvR 101), some (pvI n1), some (pvI n2)], [pvI 0], M) _
    refine pw_if hT (c := 0 = 0) rfl rfl (fun c9_ => ?_) (fun c9_ => absurd (by decide) c9_)
    refine pw_blkw hT 6 (pc := 22) (lo := [some (pvR 101), some (pvI n1), some (pvI n2)]) (st := []) (M := pvu M 109 (Int32.toNatClampNeg (M.1 101 0)) n1) rfl ⟨trivial, rfl, trivial, rfl, trivial, ⟨rfl, (zr_in (n := 7) b8_ (by decide) (by decide))⟩, trivial⟩ (fun M10_ e11_ => ?_)
    have o12_ : pvOk M10_ := pvok_u2 e11_ hok rfl hn1
    have f13_ : pvFr fp_eX6_append_101_x_x M M10_ := pvfr_u e11_ pvfr_0 rfl
    have e14_ : (M10_.1 101 0) = (M.1 101 0) := (pvu_n e11_ 101 0 (Or.inl (by decide)))
    have b15_ : 0 ≤ Int32.toInt (M10_.1 101 0) ∧ Int32.toInt (M10_.1 101 0) ≤ 6 := (by rw [e14_]; exact b8_)
    refine pw_blkw hT 6 (pc := 32) (lo := [some (pvR 101), some (pvI n1), some (pvI n2)]) (st := []) (M := pvu M10_ 117 (Int32.toNatClampNeg (M10_.1 101 0)) n2) rfl ⟨trivial, rfl, trivial, rfl, trivial, ⟨rfl, (zr_in (n := 7) b15_ (by decide) (by decide))⟩, trivial⟩ (fun M16_ e17_ => ?_)
    have o18_ : pvOk M16_ := pvok_u2 e17_ o12_ rfl hn2
    have f19_ : pvFr fp_eX6_append_101_x_x M M16_ := pvfr_u e17_ f13_ rfl
    have e20_ : (M16_.1 101 0) = (M10_.1 101 0) := (pvu_n e17_ 101 0 (Or.inl (by decide)))
    have b21_ : 0 ≤ Int32.toInt (M16_.1 101 0) ∧ Int32.toInt (M16_.1 101 0) ≤ 6 := (by rw [e20_]; exact b15_)
    obtain ⟨q23_, b22_⟩ : (Int32.toInt ((M16_.1 101 0) + 1) = Int32.toInt (M16_.1 101 0) + 1) ∧ (1 ≤ Int32.toInt ((M16_.1 101 0) + 1) ∧ Int32.toInt ((M16_.1 101 0) + 1) ≤ 7) := zadd_k (M16_.1 101 0) 1 1 1 7 b21_ (by decide) (by decide) (by decide) (by decide) (by decide)
    refine pw_blkw hT 6 (pc := 42) (lo := [some (pvR 101), some (pvI n1), some (pvI n2)]) (st := []) (M := pvu M16_ 101 0 ((M16_.1 101 0) + 1)) rfl ⟨trivial, trivial, rfl, trivial, trivial, rfl, trivial⟩ (fun M24_ e25_ => ?_)
    have o26_ : pvOk M24_ := pvok_u2 e25_ o18_ rfl (zr_wide b22_ (by decide) (by decide))
    have f27_ : pvFr fp_eX6_append_101_x_x M M24_ := pvfr_u e25_ f19_ rfl
    have e28_ : (M24_.1 101 0) = ((M16_.1 101 0) + 1) := (pvu_s e25_)
    have b29_ : 1 ≤ Int32.toInt (M24_.1 101 0) ∧ Int32.toInt (M24_.1 101 0) ≤ 7 := (by rw [e28_]; exact b22_)
    refine pw_blk hT 2 (S' := (46, [some (pvR 101), some (pvI n1), some (pvI n2)], [pvI (M24_.1 101 0)], M24_)) rfl ⟨trivial, rfl, trivial⟩ ?_
    exact pw_ret hT rfl (r := some (pvI (M24_.1 101 0))) (M' := M24_) ⟨rfl, rfl⟩ ⟨⟨_, rfl, b29_, (by rw [if_pos c7_]; exact (show (M24_.1 101 0) = ((M.1 101 0) + 1) from by rw [((pvu_s e25_).trans (show ((M16_.1 101 0) + 1) = ((M.1 101 0) + 1) from by rw [((pvu_n e17_ 101 0 (Or.inl (by decide))).trans (pvu_n e11_ 101 0 (Or.inl (by decide))))]))]))⟩, o26_, f27_, (by rw [if_pos c7_]; exact ((pvu_s e25_).trans (show ((M16_.1 101 0) + 1) = ((M.1 101 0) + 1) from by rw [((pvu_n e17_ 101 0 (Or.inl (by decide))).trans (pvu_n e11_ 101 0 (Or.inl (by decide))))])))⟩
  · refine pw_eqI (if_neg c7_) ?_
    have b30_ : 7 ≤ Int32.toInt (M.1 101 0) ∧ Int32.toInt (M.1 101 0) ≤ 7 := zr_nlt_l 7 c7_ b6_ (show 7 ≤ Int32.toInt (Int32.ofNat 7) ∧ Int32.toInt (Int32.ofNat 7) ≤ 7 from (by decide)) (by decide)
    show PW 151 d (4, [some (pvR 101), some (pvI n1), some (pvI n2)], [pvI 1], M) _
    refine pw_if hT (c := 1 = 0) rfl rfl (fun c31_ => absurd c31_ (by decide)) (fun c31_ => ?_)
    refine pw_blk hT 2 (S' := (11, [some (pvR 101), some (pvI n1), some (pvI n2)], [pvI (M.1 101 0)], M)) rfl ⟨trivial, rfl, trivial⟩ ?_
    exact pw_ret hT rfl (r := some (pvI (M.1 101 0))) (M' := M) ⟨rfl, rfl⟩ ⟨⟨_, rfl, (zr_wide b30_ (by decide) (by decide)), (by rw [if_neg c7_])⟩, hok, pvfr_0, (by rw [if_neg c7_]; exact rfl)⟩
def fpL_eX6_becomeAs_101_100 : List (Nat × Nat × Nat) := [(0, 101, 1), (0, 109, 0), (0, 117, 0)]
def fp_eX6_becomeAs_101_100 (q k : Nat) : Bool := pvfp fpL_eX6_becomeAs_101_100 q k
theorem fp_eX6_becomeAs_101_100_fp_eX6_append_101_x_x (a b : Nat) (h : fp_eX6_append_101_x_x a b = true) : fp_eX6_becomeAs_101_100 a b = true := pvfp_sub (l1 := fpL_eX6_append_101_x_x) (l2 := fpL_eX6_becomeAs_101_100) (by decide) a b h
theorem fp_eX6_becomeAs_101_100_fp_eX6_clear_101 (a b : Nat) (h : fp_eX6_clear_101 a b = true) : fp_eX6_becomeAs_101_100 a b = true := pvfp_sub (l1 := fpL_eX6_clear_101) (l2 := fpL_eX6_becomeAs_101_100) (by decide) a b h
set_option maxHeartbeats 4000000 in
set_option maxRecDepth 10000 in
theorem se_X6_becomeAs_101_100 (M : pvM) (hok : pvOk M) (d : Nat) : PW 152 d (0, [some (pvR 101), some (pvR 100), none], [], M) (fun r X => r = none ∧ pvOk X ∧ pvFr fp_eX6_becomeAs_101_100 M X ∧ X.1 101 0 = (M.1 100 0)) := by
  have hT : pvdom 152 = pvD_152 := rfl
  refine pw_blk hT 1 (S' := (1, [some (pvR 101), some (pvR 100), none], [pvR 101], M)) rfl ⟨trivial, trivial⟩ ?_
  refine pw_callGd hT (as := [pvR 101]) (lo1 := [some (pvR 101)]) (d1 := d) (rest := []) rfl rfl rfl rfl rfl (fun _ => rfl) (Nat.zero_le _) rfl rfl rfl (se_X6_clear_101 M hok d) (fun x2_ M3_ b4_ o5_ g6_ d1_ => ?_)
  have f7_ : pvFr fp_eX6_becomeAs_101_100 M M3_ := pvfr_t g6_ pvfr_0 fp_eX6_becomeAs_101_100_fp_eX6_clear_101
  obtain ⟨b8_, d9_⟩ := b4_
  subst d9_
  refine pw_blk hT 3 (S' := (7, [some (pvR 101), some (pvR 100), some (pvI 0)], [], M3_)) rfl ⟨trivial, trivial, trivial, trivial⟩ ?_
  have hlz90_ : ∀ (nz90_ : Nat) (i2z90_ : Int32) (Mz90_ : pvM), (pvOk Mz90_) → (pvFr fp_eX6_becomeAs_101_100 M Mz90_) → (0 ≤ Int32.toInt i2z90_ ∧ Int32.toInt i2z90_ ≤ 7) → (Mz90_.1 101 0 = i2z90_) → (Int32.toInt i2z90_ ≤ Int32.toInt (Mz90_.1 100 0)) → (zhide ((8 - Int32.toInt i2z90_).toNat < nz90_)) → PW 152 d (7, [some (pvR 101), some (pvR 100), some (pvI i2z90_)], [], Mz90_) (fun r X => r = none ∧ pvOk X ∧ pvFr fp_eX6_becomeAs_101_100 M X ∧ X.1 101 0 = (M.1 100 0)) := by
    intro nz90_
    induction nz90_ with
    | zero => intro i2z90_ Mz90_ oz90_ fz90_ h2z90_ j0z90_ j1z90_ hmz90_; exact absurd (zshow hmz90_) (Nat.not_lt_zero _)
    | succ nz90_ ihz90_ =>
      intro i2z90_ Mz90_ oz90_ fz90_ h2z90_ j0z90_ j1z90_ hmz90_
      have b91_ : 0 ≤ Int32.toInt (Mz90_.1 100 0) ∧ Int32.toInt (Mz90_.1 100 0) ≤ 7 := pvok_r oz90_ 100 0 rfl
      refine pw_blk hT 3 (S' := (12, [some (pvR 101), some (pvR 100), some (pvI i2z90_)], [pvI (Mz90_.1 100 0), pvI i2z90_], Mz90_)) rfl ⟨trivial, trivial, rfl, trivial⟩ ?_
      refine pw_ic hT (c := (Mz90_.1 100 0) ≤ i2z90_) rfl rfl (fun c92_ => ?_) (fun c92_ => ?_)
      · have d93_ : Int32.toInt (Mz90_.1 100 0) ≤ Int32.toInt i2z90_ := (zi_le _ _).mp c92_
        exact pw_ret hT rfl (r := none) (M' := Mz90_) ⟨rfl, rfl⟩ ⟨rfl, oz90_, fz90_, (Int32.toInt_inj.mp (by have z3 : Mz90_.1 100 0 = M.1 100 0 := fz90_ 100 0 rfl; have z4 := congrArg Int32.toInt z3; have z5 := congrArg Int32.toInt j0z90_; omega))⟩
      · have b94_ : 1 ≤ Int32.toInt (Mz90_.1 100 0) ∧ Int32.toInt (Mz90_.1 100 0) ≤ 7 := zr_nle_l 1 c92_ b91_ h2z90_ (by decide)
        have b95_ : 0 ≤ Int32.toInt i2z90_ ∧ Int32.toInt i2z90_ ≤ 6 := zr_nle_r 6 c92_ h2z90_ b94_ (by decide)
        have d96_ : Int32.toInt (Mz90_.1 100 0) > Int32.toInt i2z90_ := Int.not_le.mp ((not_congr (zi_le _ _)).mp c92_)
        have b97_ : 0 ≤ Int32.toInt (Mz90_.1 108 (Int32.toNatClampNeg i2z90_)) ∧ Int32.toInt (Mz90_.1 108 (Int32.toNatClampNeg i2z90_)) ≤ 6 := pvok_r oz90_ 108 (Int32.toNatClampNeg i2z90_) rfl
        have b98_ : 0 ≤ Int32.toInt (Mz90_.1 116 (Int32.toNatClampNeg i2z90_)) ∧ Int32.toInt (Mz90_.1 116 (Int32.toNatClampNeg i2z90_)) ≤ 9999 := pvok_r oz90_ 116 (Int32.toNatClampNeg i2z90_) rfl
        refine pw_blk hT 9 (S' := (28, [some (pvR 101), some (pvR 100), some (pvI i2z90_)], [pvI (Mz90_.1 116 (Int32.toNatClampNeg i2z90_)), pvI (Mz90_.1 108 (Int32.toNatClampNeg i2z90_)), pvR 101], Mz90_)) rfl ⟨trivial, trivial, rfl, trivial, ⟨rfl, (zr_in (n := 7) b95_ (by decide) (by decide))⟩, trivial, rfl, trivial, ⟨rfl, (zr_in (n := 7) b95_ (by decide) (by decide))⟩, trivial⟩ ?_
        refine pw_callGd hT (as := [pvR 101, pvI (Mz90_.1 108 (Int32.toNatClampNeg i2z90_)), pvI (Mz90_.1 116 (Int32.toNatClampNeg i2z90_))]) (lo1 := [some (pvR 101), some (pvI (Mz90_.1 108 (Int32.toNatClampNeg i2z90_))), some (pvI (Mz90_.1 116 (Int32.toNatClampNeg i2z90_)))]) (d1 := d) (rest := []) rfl rfl rfl rfl rfl (fun _ => rfl) (Nat.zero_le _) rfl rfl rfl (se_X6_append_101_x_x Mz90_ oz90_ (Mz90_.1 108 (Int32.toNatClampNeg i2z90_)) (Mz90_.1 116 (Int32.toNatClampNeg i2z90_)) b97_ b98_ d) (fun x100_ M101_ b102_ o103_ g104_ d99_ => ?_)
        have f105_ : pvFr fp_eX6_becomeAs_101_100 M M101_ := pvfr_t g104_ fz90_ fp_eX6_becomeAs_101_100_fp_eX6_append_101_x_x
        obtain ⟨b106_, d107_⟩ := b102_
        subst d107_
        obtain ⟨q109_, b108_⟩ : (Int32.toInt (i2z90_ + 1) = Int32.toInt i2z90_ + 1) ∧ (1 ≤ Int32.toInt (i2z90_ + 1) ∧ Int32.toInt (i2z90_ + 1) ≤ 7) := zadd_k i2z90_ 1 1 1 7 b95_ (by decide) (by decide) (by decide) (by decide) (by decide)
        refine pw_blk hT 3 (S' := (7, [some (pvR 101), some (pvR 100), some (pvI (i2z90_ + 1))], [], M101_)) rfl ⟨trivial, trivial, trivial, trivial⟩ ?_
        have j110_ : M101_.1 101 0 = (i2z90_ + 1) := (by have z1 : Int32.toInt (Int32.ofNat 7) = 7 := (by decide); have z2 := pvok_r oz90_ 100 0 rfl; have z3 : Mz90_.1 100 0 = M.1 100 0 := fz90_ 100 0 rfl; have z4 := congrArg Int32.toInt z3; rw [d99_, j0z90_, if_pos ((zi_lt _ _).mpr (by omega))])
        have j111_ : Int32.toInt (i2z90_ + 1) ≤ Int32.toInt (M101_.1 100 0) := by omega
        exact ihz90_ (i2z90_ + 1) M101_ o103_ f105_ (zr_wide b108_ (by decide) (by decide)) j110_ j111_ (zhid (pvms_up (zshow hmz90_) h2z90_ q109_ (by decide) (by decide)))
  have u112_ : Int32.toInt 0 = 0 := by decide
  have j113_ : M3_.1 101 0 = 0 := d1_
  have j114_ : Int32.toInt 0 ≤ Int32.toInt (M3_.1 100 0) := by omega
  exact hlz90_ _ 0 M3_ o5_ f7_ (zr_wide (show 0 ≤ Int32.toInt 0 ∧ Int32.toInt 0 ≤ 0 from (by decide)) (by decide) (by decide)) j113_ j114_ (zhid (Nat.lt_succ_self _))
def fpL_eX6_clear_103 : List (Nat × Nat × Nat) := [(0, 103, 1)]
def fp_eX6_clear_103 (q k : Nat) : Bool := pvfp fpL_eX6_clear_103 q k
set_option maxHeartbeats 4000000 in
set_option maxRecDepth 10000 in
theorem se_X6_clear_103 (M : pvM) (hok : pvOk M) (d : Nat) : PW 153 d (0, [some (pvR 103)], [], M) (fun r X => (∃ x : Int32, r = some (pvI x) ∧ (0 ≤ Int32.toInt x ∧ Int32.toInt x ≤ 0) ∧ x = 0) ∧ pvOk X ∧ pvFr fp_eX6_clear_103 M X ∧ X.1 103 0 = 0) := by
  have hT : pvdom 153 = pvD_153 := rfl
  refine pw_blkw hT 3 (pc := 5) (lo := [some (pvR 103)]) (st := []) (M := pvu M 103 0 0) rfl ⟨trivial, trivial, rfl, trivial⟩ (fun M1_ e2_ => ?_)
  have o3_ : pvOk M1_ := pvok_u2 e2_ hok rfl (zr_wide (show 0 ≤ Int32.toInt 0 ∧ Int32.toInt 0 ≤ 0 from (by decide)) (by decide) (by decide))
  have f4_ : pvFr fp_eX6_clear_103 M M1_ := pvfr_u e2_ pvfr_0 rfl
  refine pw_blk hT 1 (S' := (6, [some (pvR 103)], [pvI 0], M1_)) rfl ⟨trivial, trivial⟩ ?_
  exact pw_ret hT rfl (r := some (pvI 0)) (M' := M1_) ⟨rfl, rfl⟩ ⟨⟨_, rfl, (show 0 ≤ Int32.toInt 0 ∧ Int32.toInt 0 ≤ 0 from (by decide)), rfl⟩, o3_, f4_, (pvu_s e2_)⟩
def fpL_eX6_append_103_x_x : List (Nat × Nat × Nat) := [(0, 103, 1), (0, 111, 0), (0, 119, 0)]
def fp_eX6_append_103_x_x (q k : Nat) : Bool := pvfp fpL_eX6_append_103_x_x q k
set_option maxHeartbeats 4000000 in
set_option maxRecDepth 10000 in
theorem se_X6_append_103_x_x (M : pvM) (hok : pvOk M) (n1 : Int32) (n2 : Int32) (hn1 : 0 ≤ Int32.toInt n1 ∧ Int32.toInt n1 ≤ 6) (hn2 : 0 ≤ Int32.toInt n2 ∧ Int32.toInt n2 ≤ 9999) (d : Nat) : PW 151 d (0, [some (pvR 103), some (pvI n1), some (pvI n2)], [], M) (fun r X => (∃ x : Int32, r = some (pvI x) ∧ (1 ≤ Int32.toInt x ∧ Int32.toInt x ≤ 6) ∧ x = (if (M.1 103 0) < (Int32.ofNat 6) then ((M.1 103 0) + 1) else (M.1 103 0))) ∧ pvOk X ∧ pvFr fp_eX6_append_103_x_x M X ∧ X.1 103 0 = (if (M.1 103 0) < (Int32.ofNat 6) then ((M.1 103 0) + 1) else (M.1 103 0))) := by
  have hT : pvdom 151 = pvD_151 := rfl
  refine pw_blk hT 1 (S' := (1, [some (pvR 103), some (pvI n1), some (pvI n2)], [pvR 103], M)) rfl ⟨trivial, trivial⟩ ?_
  refine pw_callT hT (as := [pvR 103]) (lo1 := [some (pvR 103)]) (d1 := d) (rest := []) rfl rfl rfl rfl rfl (fun _ => rfl) (Nat.zero_le _) rfl rfl rfl (sf_X6_isFull_103 M hok d) ?_
  have b6_ : 0 ≤ Int32.toInt (M.1 103 0) ∧ Int32.toInt (M.1 103 0) ≤ 6 := pvok_r hok 103 0 rfl
  by_cases c7_ : (M.1 103 0) < (Int32.ofNat 6)
  · refine pw_eqI (if_pos c7_) ?_
    have b8_ : 0 ≤ Int32.toInt (M.1 103 0) ∧ Int32.toInt (M.1 103 0) ≤ 5 := zr_lt_l 5 c7_ b6_ (show 6 ≤ Int32.toInt (Int32.ofNat 6) ∧ Int32.toInt (Int32.ofNat 6) ≤ 6 from (by decide)) (by decide)
    show PW 151 d (4, [some (pvR 103), some (pvI n1), some (pvI n2)], [pvI 0], M) _
    refine pw_if hT (c := 0 = 0) rfl rfl (fun c9_ => ?_) (fun c9_ => absurd (by decide) c9_)
    refine pw_blkw hT 6 (pc := 22) (lo := [some (pvR 103), some (pvI n1), some (pvI n2)]) (st := []) (M := pvu M 111 (Int32.toNatClampNeg (M.1 103 0)) n1) rfl ⟨trivial, rfl, trivial, rfl, trivial, ⟨rfl, (zr_in (n := 6) b8_ (by decide) (by decide))⟩, trivial⟩ (fun M10_ e11_ => ?_)
    have o12_ : pvOk M10_ := pvok_u2 e11_ hok rfl hn1
    have f13_ : pvFr fp_eX6_append_103_x_x M M10_ := pvfr_u e11_ pvfr_0 rfl
    have e14_ : (M10_.1 103 0) = (M.1 103 0) := (pvu_n e11_ 103 0 (Or.inl (by decide)))
    have b15_ : 0 ≤ Int32.toInt (M10_.1 103 0) ∧ Int32.toInt (M10_.1 103 0) ≤ 5 := (by rw [e14_]; exact b8_)
    refine pw_blkw hT 6 (pc := 32) (lo := [some (pvR 103), some (pvI n1), some (pvI n2)]) (st := []) (M := pvu M10_ 119 (Int32.toNatClampNeg (M10_.1 103 0)) n2) rfl ⟨trivial, rfl, trivial, rfl, trivial, ⟨rfl, (zr_in (n := 6) b15_ (by decide) (by decide))⟩, trivial⟩ (fun M16_ e17_ => ?_)
    have o18_ : pvOk M16_ := pvok_u2 e17_ o12_ rfl hn2
    have f19_ : pvFr fp_eX6_append_103_x_x M M16_ := pvfr_u e17_ f13_ rfl
    have e20_ : (M16_.1 103 0) = (M10_.1 103 0) := (pvu_n e17_ 103 0 (Or.inl (by decide)))
    have b21_ : 0 ≤ Int32.toInt (M16_.1 103 0) ∧ Int32.toInt (M16_.1 103 0) ≤ 5 := (by rw [e20_]; exact b15_)
    obtain ⟨q23_, b22_⟩ : (Int32.toInt ((M16_.1 103 0) + 1) = Int32.toInt (M16_.1 103 0) + 1) ∧ (1 ≤ Int32.toInt ((M16_.1 103 0) + 1) ∧ Int32.toInt ((M16_.1 103 0) + 1) ≤ 6) := zadd_k (M16_.1 103 0) 1 1 1 6 b21_ (by decide) (by decide) (by decide) (by decide) (by decide)
    refine pw_blkw hT 6 (pc := 42) (lo := [some (pvR 103), some (pvI n1), some (pvI n2)]) (st := []) (M := pvu M16_ 103 0 ((M16_.1 103 0) + 1)) rfl ⟨trivial, trivial, rfl, trivial, trivial, rfl, trivial⟩ (fun M24_ e25_ => ?_)
    have o26_ : pvOk M24_ := pvok_u2 e25_ o18_ rfl (zr_wide b22_ (by decide) (by decide))
    have f27_ : pvFr fp_eX6_append_103_x_x M M24_ := pvfr_u e25_ f19_ rfl
    have e28_ : (M24_.1 103 0) = ((M16_.1 103 0) + 1) := (pvu_s e25_)
    have b29_ : 1 ≤ Int32.toInt (M24_.1 103 0) ∧ Int32.toInt (M24_.1 103 0) ≤ 6 := (by rw [e28_]; exact b22_)
    refine pw_blk hT 2 (S' := (46, [some (pvR 103), some (pvI n1), some (pvI n2)], [pvI (M24_.1 103 0)], M24_)) rfl ⟨trivial, rfl, trivial⟩ ?_
    exact pw_ret hT rfl (r := some (pvI (M24_.1 103 0))) (M' := M24_) ⟨rfl, rfl⟩ ⟨⟨_, rfl, b29_, (by rw [if_pos c7_]; exact (show (M24_.1 103 0) = ((M.1 103 0) + 1) from by rw [((pvu_s e25_).trans (show ((M16_.1 103 0) + 1) = ((M.1 103 0) + 1) from by rw [((pvu_n e17_ 103 0 (Or.inl (by decide))).trans (pvu_n e11_ 103 0 (Or.inl (by decide))))]))]))⟩, o26_, f27_, (by rw [if_pos c7_]; exact ((pvu_s e25_).trans (show ((M16_.1 103 0) + 1) = ((M.1 103 0) + 1) from by rw [((pvu_n e17_ 103 0 (Or.inl (by decide))).trans (pvu_n e11_ 103 0 (Or.inl (by decide))))])))⟩
  · refine pw_eqI (if_neg c7_) ?_
    have b30_ : 6 ≤ Int32.toInt (M.1 103 0) ∧ Int32.toInt (M.1 103 0) ≤ 6 := zr_nlt_l 6 c7_ b6_ (show 6 ≤ Int32.toInt (Int32.ofNat 6) ∧ Int32.toInt (Int32.ofNat 6) ≤ 6 from (by decide)) (by decide)
    show PW 151 d (4, [some (pvR 103), some (pvI n1), some (pvI n2)], [pvI 1], M) _
    refine pw_if hT (c := 1 = 0) rfl rfl (fun c31_ => absurd c31_ (by decide)) (fun c31_ => ?_)
    refine pw_blk hT 2 (S' := (11, [some (pvR 103), some (pvI n1), some (pvI n2)], [pvI (M.1 103 0)], M)) rfl ⟨trivial, rfl, trivial⟩ ?_
    exact pw_ret hT rfl (r := some (pvI (M.1 103 0))) (M' := M) ⟨rfl, rfl⟩ ⟨⟨_, rfl, (zr_wide b30_ (by decide) (by decide)), (by rw [if_neg c7_])⟩, hok, pvfr_0, (by rw [if_neg c7_]; exact rfl)⟩
def fpL_eX6_becomeAs_103_102 : List (Nat × Nat × Nat) := [(0, 103, 1), (0, 111, 0), (0, 119, 0)]
def fp_eX6_becomeAs_103_102 (q k : Nat) : Bool := pvfp fpL_eX6_becomeAs_103_102 q k
theorem fp_eX6_becomeAs_103_102_fp_eX6_append_103_x_x (a b : Nat) (h : fp_eX6_append_103_x_x a b = true) : fp_eX6_becomeAs_103_102 a b = true := pvfp_sub (l1 := fpL_eX6_append_103_x_x) (l2 := fpL_eX6_becomeAs_103_102) (by decide) a b h
theorem fp_eX6_becomeAs_103_102_fp_eX6_clear_103 (a b : Nat) (h : fp_eX6_clear_103 a b = true) : fp_eX6_becomeAs_103_102 a b = true := pvfp_sub (l1 := fpL_eX6_clear_103) (l2 := fpL_eX6_becomeAs_103_102) (by decide) a b h
set_option maxHeartbeats 4000000 in
set_option maxRecDepth 10000 in
theorem se_X6_becomeAs_103_102 (M : pvM) (hok : pvOk M) (d : Nat) : PW 152 d (0, [some (pvR 103), some (pvR 102), none], [], M) (fun r X => r = none ∧ pvOk X ∧ pvFr fp_eX6_becomeAs_103_102 M X ∧ X.1 103 0 = (M.1 102 0)) := by
  have hT : pvdom 152 = pvD_152 := rfl
  refine pw_blk hT 1 (S' := (1, [some (pvR 103), some (pvR 102), none], [pvR 103], M)) rfl ⟨trivial, trivial⟩ ?_
  refine pw_callGd hT (as := [pvR 103]) (lo1 := [some (pvR 103)]) (d1 := d) (rest := []) rfl rfl rfl rfl rfl (fun _ => rfl) (Nat.zero_le _) rfl rfl rfl (se_X6_clear_103 M hok d) (fun x2_ M3_ b4_ o5_ g6_ d1_ => ?_)
  have f7_ : pvFr fp_eX6_becomeAs_103_102 M M3_ := pvfr_t g6_ pvfr_0 fp_eX6_becomeAs_103_102_fp_eX6_clear_103
  obtain ⟨b8_, d9_⟩ := b4_
  subst d9_
  refine pw_blk hT 3 (S' := (7, [some (pvR 103), some (pvR 102), some (pvI 0)], [], M3_)) rfl ⟨trivial, trivial, trivial, trivial⟩ ?_
  have hlz90_ : ∀ (nz90_ : Nat) (i2z90_ : Int32) (Mz90_ : pvM), (pvOk Mz90_) → (pvFr fp_eX6_becomeAs_103_102 M Mz90_) → (0 ≤ Int32.toInt i2z90_ ∧ Int32.toInt i2z90_ ≤ 6) → (Mz90_.1 103 0 = i2z90_) → (Int32.toInt i2z90_ ≤ Int32.toInt (Mz90_.1 102 0)) → (zhide ((7 - Int32.toInt i2z90_).toNat < nz90_)) → PW 152 d (7, [some (pvR 103), some (pvR 102), some (pvI i2z90_)], [], Mz90_) (fun r X => r = none ∧ pvOk X ∧ pvFr fp_eX6_becomeAs_103_102 M X ∧ X.1 103 0 = (M.1 102 0)) := by
    intro nz90_
    induction nz90_ with
    | zero => intro i2z90_ Mz90_ oz90_ fz90_ h2z90_ j0z90_ j1z90_ hmz90_; exact absurd (zshow hmz90_) (Nat.not_lt_zero _)
    | succ nz90_ ihz90_ =>
      intro i2z90_ Mz90_ oz90_ fz90_ h2z90_ j0z90_ j1z90_ hmz90_
      have b91_ : 0 ≤ Int32.toInt (Mz90_.1 102 0) ∧ Int32.toInt (Mz90_.1 102 0) ≤ 6 := pvok_r oz90_ 102 0 rfl
      refine pw_blk hT 3 (S' := (12, [some (pvR 103), some (pvR 102), some (pvI i2z90_)], [pvI (Mz90_.1 102 0), pvI i2z90_], Mz90_)) rfl ⟨trivial, trivial, rfl, trivial⟩ ?_
      refine pw_ic hT (c := (Mz90_.1 102 0) ≤ i2z90_) rfl rfl (fun c92_ => ?_) (fun c92_ => ?_)
      · have d93_ : Int32.toInt (Mz90_.1 102 0) ≤ Int32.toInt i2z90_ := (zi_le _ _).mp c92_
        exact pw_ret hT rfl (r := none) (M' := Mz90_) ⟨rfl, rfl⟩ ⟨rfl, oz90_, fz90_, (Int32.toInt_inj.mp (by have z3 : Mz90_.1 102 0 = M.1 102 0 := fz90_ 102 0 rfl; have z4 := congrArg Int32.toInt z3; have z5 := congrArg Int32.toInt j0z90_; omega))⟩
      · have b94_ : 1 ≤ Int32.toInt (Mz90_.1 102 0) ∧ Int32.toInt (Mz90_.1 102 0) ≤ 6 := zr_nle_l 1 c92_ b91_ h2z90_ (by decide)
        have b95_ : 0 ≤ Int32.toInt i2z90_ ∧ Int32.toInt i2z90_ ≤ 5 := zr_nle_r 5 c92_ h2z90_ b94_ (by decide)
        have d96_ : Int32.toInt (Mz90_.1 102 0) > Int32.toInt i2z90_ := Int.not_le.mp ((not_congr (zi_le _ _)).mp c92_)
        have b97_ : 0 ≤ Int32.toInt (Mz90_.1 110 (Int32.toNatClampNeg i2z90_)) ∧ Int32.toInt (Mz90_.1 110 (Int32.toNatClampNeg i2z90_)) ≤ 6 := pvok_r oz90_ 110 (Int32.toNatClampNeg i2z90_) rfl
        have b98_ : 0 ≤ Int32.toInt (Mz90_.1 118 (Int32.toNatClampNeg i2z90_)) ∧ Int32.toInt (Mz90_.1 118 (Int32.toNatClampNeg i2z90_)) ≤ 9999 := pvok_r oz90_ 118 (Int32.toNatClampNeg i2z90_) rfl
        refine pw_blk hT 9 (S' := (28, [some (pvR 103), some (pvR 102), some (pvI i2z90_)], [pvI (Mz90_.1 118 (Int32.toNatClampNeg i2z90_)), pvI (Mz90_.1 110 (Int32.toNatClampNeg i2z90_)), pvR 103], Mz90_)) rfl ⟨trivial, trivial, rfl, trivial, ⟨rfl, (zr_in (n := 6) b95_ (by decide) (by decide))⟩, trivial, rfl, trivial, ⟨rfl, (zr_in (n := 6) b95_ (by decide) (by decide))⟩, trivial⟩ ?_
        refine pw_callGd hT (as := [pvR 103, pvI (Mz90_.1 110 (Int32.toNatClampNeg i2z90_)), pvI (Mz90_.1 118 (Int32.toNatClampNeg i2z90_))]) (lo1 := [some (pvR 103), some (pvI (Mz90_.1 110 (Int32.toNatClampNeg i2z90_))), some (pvI (Mz90_.1 118 (Int32.toNatClampNeg i2z90_)))]) (d1 := d) (rest := []) rfl rfl rfl rfl rfl (fun _ => rfl) (Nat.zero_le _) rfl rfl rfl (se_X6_append_103_x_x Mz90_ oz90_ (Mz90_.1 110 (Int32.toNatClampNeg i2z90_)) (Mz90_.1 118 (Int32.toNatClampNeg i2z90_)) b97_ b98_ d) (fun x100_ M101_ b102_ o103_ g104_ d99_ => ?_)
        have f105_ : pvFr fp_eX6_becomeAs_103_102 M M101_ := pvfr_t g104_ fz90_ fp_eX6_becomeAs_103_102_fp_eX6_append_103_x_x
        obtain ⟨b106_, d107_⟩ := b102_
        subst d107_
        obtain ⟨q109_, b108_⟩ : (Int32.toInt (i2z90_ + 1) = Int32.toInt i2z90_ + 1) ∧ (1 ≤ Int32.toInt (i2z90_ + 1) ∧ Int32.toInt (i2z90_ + 1) ≤ 6) := zadd_k i2z90_ 1 1 1 6 b95_ (by decide) (by decide) (by decide) (by decide) (by decide)
        refine pw_blk hT 3 (S' := (7, [some (pvR 103), some (pvR 102), some (pvI (i2z90_ + 1))], [], M101_)) rfl ⟨trivial, trivial, trivial, trivial⟩ ?_
        have j110_ : M101_.1 103 0 = (i2z90_ + 1) := (by have z1 : Int32.toInt (Int32.ofNat 6) = 6 := (by decide); have z2 := pvok_r oz90_ 102 0 rfl; have z3 : Mz90_.1 102 0 = M.1 102 0 := fz90_ 102 0 rfl; have z4 := congrArg Int32.toInt z3; rw [d99_, j0z90_, if_pos ((zi_lt _ _).mpr (by omega))])
        have j111_ : Int32.toInt (i2z90_ + 1) ≤ Int32.toInt (M101_.1 102 0) := by omega
        exact ihz90_ (i2z90_ + 1) M101_ o103_ f105_ (zr_wide b108_ (by decide) (by decide)) j110_ j111_ (zhid (pvms_up (zshow hmz90_) h2z90_ q109_ (by decide) (by decide)))
  have u112_ : Int32.toInt 0 = 0 := by decide
  have j113_ : M3_.1 103 0 = 0 := d1_
  have j114_ : Int32.toInt 0 ≤ Int32.toInt (M3_.1 102 0) := by omega
  exact hlz90_ _ 0 M3_ o5_ f7_ (zr_wide (show 0 ≤ Int32.toInt 0 ∧ Int32.toInt 0 ≤ 0 from (by decide)) (by decide) (by decide)) j113_ j114_ (zhid (Nat.lt_succ_self _))
def fpL_eX6_clear_105 : List (Nat × Nat × Nat) := [(0, 105, 1)]
def fp_eX6_clear_105 (q k : Nat) : Bool := pvfp fpL_eX6_clear_105 q k
set_option maxHeartbeats 4000000 in
set_option maxRecDepth 10000 in
theorem se_X6_clear_105 (M : pvM) (hok : pvOk M) (d : Nat) : PW 153 d (0, [some (pvR 105)], [], M) (fun r X => (∃ x : Int32, r = some (pvI x) ∧ (0 ≤ Int32.toInt x ∧ Int32.toInt x ≤ 0) ∧ x = 0) ∧ pvOk X ∧ pvFr fp_eX6_clear_105 M X ∧ X.1 105 0 = 0) := by
  have hT : pvdom 153 = pvD_153 := rfl
  refine pw_blkw hT 3 (pc := 5) (lo := [some (pvR 105)]) (st := []) (M := pvu M 105 0 0) rfl ⟨trivial, trivial, rfl, trivial⟩ (fun M1_ e2_ => ?_)
  have o3_ : pvOk M1_ := pvok_u2 e2_ hok rfl (zr_wide (show 0 ≤ Int32.toInt 0 ∧ Int32.toInt 0 ≤ 0 from (by decide)) (by decide) (by decide))
  have f4_ : pvFr fp_eX6_clear_105 M M1_ := pvfr_u e2_ pvfr_0 rfl
  refine pw_blk hT 1 (S' := (6, [some (pvR 105)], [pvI 0], M1_)) rfl ⟨trivial, trivial⟩ ?_
  exact pw_ret hT rfl (r := some (pvI 0)) (M' := M1_) ⟨rfl, rfl⟩ ⟨⟨_, rfl, (show 0 ≤ Int32.toInt 0 ∧ Int32.toInt 0 ≤ 0 from (by decide)), rfl⟩, o3_, f4_, (pvu_s e2_)⟩
def fpL_eX6_append_105_x_x : List (Nat × Nat × Nat) := [(0, 105, 1), (0, 113, 0), (0, 121, 0)]
def fp_eX6_append_105_x_x (q k : Nat) : Bool := pvfp fpL_eX6_append_105_x_x q k
set_option maxHeartbeats 4000000 in
set_option maxRecDepth 10000 in
theorem se_X6_append_105_x_x (M : pvM) (hok : pvOk M) (n1 : Int32) (n2 : Int32) (hn1 : 0 ≤ Int32.toInt n1 ∧ Int32.toInt n1 ≤ 6) (hn2 : 0 ≤ Int32.toInt n2 ∧ Int32.toInt n2 ≤ 9999) (d : Nat) : PW 151 d (0, [some (pvR 105), some (pvI n1), some (pvI n2)], [], M) (fun r X => (∃ x : Int32, r = some (pvI x) ∧ (1 ≤ Int32.toInt x ∧ Int32.toInt x ≤ 8) ∧ x = (if (M.1 105 0) < (Int32.ofNat 8) then ((M.1 105 0) + 1) else (M.1 105 0))) ∧ pvOk X ∧ pvFr fp_eX6_append_105_x_x M X ∧ X.1 105 0 = (if (M.1 105 0) < (Int32.ofNat 8) then ((M.1 105 0) + 1) else (M.1 105 0))) := by
  have hT : pvdom 151 = pvD_151 := rfl
  refine pw_blk hT 1 (S' := (1, [some (pvR 105), some (pvI n1), some (pvI n2)], [pvR 105], M)) rfl ⟨trivial, trivial⟩ ?_
  refine pw_callT hT (as := [pvR 105]) (lo1 := [some (pvR 105)]) (d1 := d) (rest := []) rfl rfl rfl rfl rfl (fun _ => rfl) (Nat.zero_le _) rfl rfl rfl (sf_X6_isFull_105 M hok d) ?_
  have b6_ : 0 ≤ Int32.toInt (M.1 105 0) ∧ Int32.toInt (M.1 105 0) ≤ 8 := pvok_r hok 105 0 rfl
  by_cases c7_ : (M.1 105 0) < (Int32.ofNat 8)
  · refine pw_eqI (if_pos c7_) ?_
    have b8_ : 0 ≤ Int32.toInt (M.1 105 0) ∧ Int32.toInt (M.1 105 0) ≤ 7 := zr_lt_l 7 c7_ b6_ (show 8 ≤ Int32.toInt (Int32.ofNat 8) ∧ Int32.toInt (Int32.ofNat 8) ≤ 8 from (by decide)) (by decide)
    show PW 151 d (4, [some (pvR 105), some (pvI n1), some (pvI n2)], [pvI 0], M) _
    refine pw_if hT (c := 0 = 0) rfl rfl (fun c9_ => ?_) (fun c9_ => absurd (by decide) c9_)
    refine pw_blkw hT 6 (pc := 22) (lo := [some (pvR 105), some (pvI n1), some (pvI n2)]) (st := []) (M := pvu M 113 (Int32.toNatClampNeg (M.1 105 0)) n1) rfl ⟨trivial, rfl, trivial, rfl, trivial, ⟨rfl, (zr_in (n := 8) b8_ (by decide) (by decide))⟩, trivial⟩ (fun M10_ e11_ => ?_)
    have o12_ : pvOk M10_ := pvok_u2 e11_ hok rfl hn1
    have f13_ : pvFr fp_eX6_append_105_x_x M M10_ := pvfr_u e11_ pvfr_0 rfl
    have e14_ : (M10_.1 105 0) = (M.1 105 0) := (pvu_n e11_ 105 0 (Or.inl (by decide)))
    have b15_ : 0 ≤ Int32.toInt (M10_.1 105 0) ∧ Int32.toInt (M10_.1 105 0) ≤ 7 := (by rw [e14_]; exact b8_)
    refine pw_blkw hT 6 (pc := 32) (lo := [some (pvR 105), some (pvI n1), some (pvI n2)]) (st := []) (M := pvu M10_ 121 (Int32.toNatClampNeg (M10_.1 105 0)) n2) rfl ⟨trivial, rfl, trivial, rfl, trivial, ⟨rfl, (zr_in (n := 8) b15_ (by decide) (by decide))⟩, trivial⟩ (fun M16_ e17_ => ?_)
    have o18_ : pvOk M16_ := pvok_u2 e17_ o12_ rfl hn2
    have f19_ : pvFr fp_eX6_append_105_x_x M M16_ := pvfr_u e17_ f13_ rfl
    have e20_ : (M16_.1 105 0) = (M10_.1 105 0) := (pvu_n e17_ 105 0 (Or.inl (by decide)))
    have b21_ : 0 ≤ Int32.toInt (M16_.1 105 0) ∧ Int32.toInt (M16_.1 105 0) ≤ 7 := (by rw [e20_]; exact b15_)
    obtain ⟨q23_, b22_⟩ : (Int32.toInt ((M16_.1 105 0) + 1) = Int32.toInt (M16_.1 105 0) + 1) ∧ (1 ≤ Int32.toInt ((M16_.1 105 0) + 1) ∧ Int32.toInt ((M16_.1 105 0) + 1) ≤ 8) := zadd_k (M16_.1 105 0) 1 1 1 8 b21_ (by decide) (by decide) (by decide) (by decide) (by decide)
    refine pw_blkw hT 6 (pc := 42) (lo := [some (pvR 105), some (pvI n1), some (pvI n2)]) (st := []) (M := pvu M16_ 105 0 ((M16_.1 105 0) + 1)) rfl ⟨trivial, trivial, rfl, trivial, trivial, rfl, trivial⟩ (fun M24_ e25_ => ?_)
    have o26_ : pvOk M24_ := pvok_u2 e25_ o18_ rfl (zr_wide b22_ (by decide) (by decide))
    have f27_ : pvFr fp_eX6_append_105_x_x M M24_ := pvfr_u e25_ f19_ rfl
    have e28_ : (M24_.1 105 0) = ((M16_.1 105 0) + 1) := (pvu_s e25_)
    have b29_ : 1 ≤ Int32.toInt (M24_.1 105 0) ∧ Int32.toInt (M24_.1 105 0) ≤ 8 := (by rw [e28_]; exact b22_)
    refine pw_blk hT 2 (S' := (46, [some (pvR 105), some (pvI n1), some (pvI n2)], [pvI (M24_.1 105 0)], M24_)) rfl ⟨trivial, rfl, trivial⟩ ?_
    exact pw_ret hT rfl (r := some (pvI (M24_.1 105 0))) (M' := M24_) ⟨rfl, rfl⟩ ⟨⟨_, rfl, b29_, (by rw [if_pos c7_]; exact (show (M24_.1 105 0) = ((M.1 105 0) + 1) from by rw [((pvu_s e25_).trans (show ((M16_.1 105 0) + 1) = ((M.1 105 0) + 1) from by rw [((pvu_n e17_ 105 0 (Or.inl (by decide))).trans (pvu_n e11_ 105 0 (Or.inl (by decide))))]))]))⟩, o26_, f27_, (by rw [if_pos c7_]; exact ((pvu_s e25_).trans (show ((M16_.1 105 0) + 1) = ((M.1 105 0) + 1) from by rw [((pvu_n e17_ 105 0 (Or.inl (by decide))).trans (pvu_n e11_ 105 0 (Or.inl (by decide))))])))⟩
  · refine pw_eqI (if_neg c7_) ?_
    have b30_ : 8 ≤ Int32.toInt (M.1 105 0) ∧ Int32.toInt (M.1 105 0) ≤ 8 := zr_nlt_l 8 c7_ b6_ (show 8 ≤ Int32.toInt (Int32.ofNat 8) ∧ Int32.toInt (Int32.ofNat 8) ≤ 8 from (by decide)) (by decide)
    show PW 151 d (4, [some (pvR 105), some (pvI n1), some (pvI n2)], [pvI 1], M) _
    refine pw_if hT (c := 1 = 0) rfl rfl (fun c31_ => absurd c31_ (by decide)) (fun c31_ => ?_)
    refine pw_blk hT 2 (S' := (11, [some (pvR 105), some (pvI n1), some (pvI n2)], [pvI (M.1 105 0)], M)) rfl ⟨trivial, rfl, trivial⟩ ?_
    exact pw_ret hT rfl (r := some (pvI (M.1 105 0))) (M' := M) ⟨rfl, rfl⟩ ⟨⟨_, rfl, (zr_wide b30_ (by decide) (by decide)), (by rw [if_neg c7_])⟩, hok, pvfr_0, (by rw [if_neg c7_]; exact rfl)⟩
def fpL_eX6_becomeAs_105_104 : List (Nat × Nat × Nat) := [(0, 105, 1), (0, 113, 0), (0, 121, 0)]
def fp_eX6_becomeAs_105_104 (q k : Nat) : Bool := pvfp fpL_eX6_becomeAs_105_104 q k
theorem fp_eX6_becomeAs_105_104_fp_eX6_append_105_x_x (a b : Nat) (h : fp_eX6_append_105_x_x a b = true) : fp_eX6_becomeAs_105_104 a b = true := pvfp_sub (l1 := fpL_eX6_append_105_x_x) (l2 := fpL_eX6_becomeAs_105_104) (by decide) a b h
theorem fp_eX6_becomeAs_105_104_fp_eX6_clear_105 (a b : Nat) (h : fp_eX6_clear_105 a b = true) : fp_eX6_becomeAs_105_104 a b = true := pvfp_sub (l1 := fpL_eX6_clear_105) (l2 := fpL_eX6_becomeAs_105_104) (by decide) a b h
set_option maxHeartbeats 4000000 in
set_option maxRecDepth 10000 in
theorem se_X6_becomeAs_105_104 (M : pvM) (hok : pvOk M) (d : Nat) : PW 152 d (0, [some (pvR 105), some (pvR 104), none], [], M) (fun r X => r = none ∧ pvOk X ∧ pvFr fp_eX6_becomeAs_105_104 M X ∧ X.1 105 0 = (M.1 104 0)) := by
  have hT : pvdom 152 = pvD_152 := rfl
  refine pw_blk hT 1 (S' := (1, [some (pvR 105), some (pvR 104), none], [pvR 105], M)) rfl ⟨trivial, trivial⟩ ?_
  refine pw_callGd hT (as := [pvR 105]) (lo1 := [some (pvR 105)]) (d1 := d) (rest := []) rfl rfl rfl rfl rfl (fun _ => rfl) (Nat.zero_le _) rfl rfl rfl (se_X6_clear_105 M hok d) (fun x2_ M3_ b4_ o5_ g6_ d1_ => ?_)
  have f7_ : pvFr fp_eX6_becomeAs_105_104 M M3_ := pvfr_t g6_ pvfr_0 fp_eX6_becomeAs_105_104_fp_eX6_clear_105
  obtain ⟨b8_, d9_⟩ := b4_
  subst d9_
  refine pw_blk hT 3 (S' := (7, [some (pvR 105), some (pvR 104), some (pvI 0)], [], M3_)) rfl ⟨trivial, trivial, trivial, trivial⟩ ?_
  have hlz90_ : ∀ (nz90_ : Nat) (i2z90_ : Int32) (Mz90_ : pvM), (pvOk Mz90_) → (pvFr fp_eX6_becomeAs_105_104 M Mz90_) → (0 ≤ Int32.toInt i2z90_ ∧ Int32.toInt i2z90_ ≤ 8) → (Mz90_.1 105 0 = i2z90_) → (Int32.toInt i2z90_ ≤ Int32.toInt (Mz90_.1 104 0)) → (zhide ((9 - Int32.toInt i2z90_).toNat < nz90_)) → PW 152 d (7, [some (pvR 105), some (pvR 104), some (pvI i2z90_)], [], Mz90_) (fun r X => r = none ∧ pvOk X ∧ pvFr fp_eX6_becomeAs_105_104 M X ∧ X.1 105 0 = (M.1 104 0)) := by
    intro nz90_
    induction nz90_ with
    | zero => intro i2z90_ Mz90_ oz90_ fz90_ h2z90_ j0z90_ j1z90_ hmz90_; exact absurd (zshow hmz90_) (Nat.not_lt_zero _)
    | succ nz90_ ihz90_ =>
      intro i2z90_ Mz90_ oz90_ fz90_ h2z90_ j0z90_ j1z90_ hmz90_
      have b91_ : 0 ≤ Int32.toInt (Mz90_.1 104 0) ∧ Int32.toInt (Mz90_.1 104 0) ≤ 8 := pvok_r oz90_ 104 0 rfl
      refine pw_blk hT 3 (S' := (12, [some (pvR 105), some (pvR 104), some (pvI i2z90_)], [pvI (Mz90_.1 104 0), pvI i2z90_], Mz90_)) rfl ⟨trivial, trivial, rfl, trivial⟩ ?_
      refine pw_ic hT (c := (Mz90_.1 104 0) ≤ i2z90_) rfl rfl (fun c92_ => ?_) (fun c92_ => ?_)
      · have d93_ : Int32.toInt (Mz90_.1 104 0) ≤ Int32.toInt i2z90_ := (zi_le _ _).mp c92_
        exact pw_ret hT rfl (r := none) (M' := Mz90_) ⟨rfl, rfl⟩ ⟨rfl, oz90_, fz90_, (Int32.toInt_inj.mp (by have z3 : Mz90_.1 104 0 = M.1 104 0 := fz90_ 104 0 rfl; have z4 := congrArg Int32.toInt z3; have z5 := congrArg Int32.toInt j0z90_; omega))⟩
      · have b94_ : 1 ≤ Int32.toInt (Mz90_.1 104 0) ∧ Int32.toInt (Mz90_.1 104 0) ≤ 8 := zr_nle_l 1 c92_ b91_ h2z90_ (by decide)
        have b95_ : 0 ≤ Int32.toInt i2z90_ ∧ Int32.toInt i2z90_ ≤ 7 := zr_nle_r 7 c92_ h2z90_ b94_ (by decide)
        have d96_ : Int32.toInt (Mz90_.1 104 0) > Int32.toInt i2z90_ := Int.not_le.mp ((not_congr (zi_le _ _)).mp c92_)
        have b97_ : 0 ≤ Int32.toInt (Mz90_.1 112 (Int32.toNatClampNeg i2z90_)) ∧ Int32.toInt (Mz90_.1 112 (Int32.toNatClampNeg i2z90_)) ≤ 6 := pvok_r oz90_ 112 (Int32.toNatClampNeg i2z90_) rfl
        have b98_ : 0 ≤ Int32.toInt (Mz90_.1 120 (Int32.toNatClampNeg i2z90_)) ∧ Int32.toInt (Mz90_.1 120 (Int32.toNatClampNeg i2z90_)) ≤ 9999 := pvok_r oz90_ 120 (Int32.toNatClampNeg i2z90_) rfl
        refine pw_blk hT 9 (S' := (28, [some (pvR 105), some (pvR 104), some (pvI i2z90_)], [pvI (Mz90_.1 120 (Int32.toNatClampNeg i2z90_)), pvI (Mz90_.1 112 (Int32.toNatClampNeg i2z90_)), pvR 105], Mz90_)) rfl ⟨trivial, trivial, rfl, trivial, ⟨rfl, (zr_in (n := 8) b95_ (by decide) (by decide))⟩, trivial, rfl, trivial, ⟨rfl, (zr_in (n := 8) b95_ (by decide) (by decide))⟩, trivial⟩ ?_
        refine pw_callGd hT (as := [pvR 105, pvI (Mz90_.1 112 (Int32.toNatClampNeg i2z90_)), pvI (Mz90_.1 120 (Int32.toNatClampNeg i2z90_))]) (lo1 := [some (pvR 105), some (pvI (Mz90_.1 112 (Int32.toNatClampNeg i2z90_))), some (pvI (Mz90_.1 120 (Int32.toNatClampNeg i2z90_)))]) (d1 := d) (rest := []) rfl rfl rfl rfl rfl (fun _ => rfl) (Nat.zero_le _) rfl rfl rfl (se_X6_append_105_x_x Mz90_ oz90_ (Mz90_.1 112 (Int32.toNatClampNeg i2z90_)) (Mz90_.1 120 (Int32.toNatClampNeg i2z90_)) b97_ b98_ d) (fun x100_ M101_ b102_ o103_ g104_ d99_ => ?_)
        have f105_ : pvFr fp_eX6_becomeAs_105_104 M M101_ := pvfr_t g104_ fz90_ fp_eX6_becomeAs_105_104_fp_eX6_append_105_x_x
        obtain ⟨b106_, d107_⟩ := b102_
        subst d107_
        obtain ⟨q109_, b108_⟩ : (Int32.toInt (i2z90_ + 1) = Int32.toInt i2z90_ + 1) ∧ (1 ≤ Int32.toInt (i2z90_ + 1) ∧ Int32.toInt (i2z90_ + 1) ≤ 8) := zadd_k i2z90_ 1 1 1 8 b95_ (by decide) (by decide) (by decide) (by decide) (by decide)
        refine pw_blk hT 3 (S' := (7, [some (pvR 105), some (pvR 104), some (pvI (i2z90_ + 1))], [], M101_)) rfl ⟨trivial, trivial, trivial, trivial⟩ ?_
        have j110_ : M101_.1 105 0 = (i2z90_ + 1) := (by have z1 : Int32.toInt (Int32.ofNat 8) = 8 := (by decide); have z2 := pvok_r oz90_ 104 0 rfl; have z3 : Mz90_.1 104 0 = M.1 104 0 := fz90_ 104 0 rfl; have z4 := congrArg Int32.toInt z3; rw [d99_, j0z90_, if_pos ((zi_lt _ _).mpr (by omega))])
        have j111_ : Int32.toInt (i2z90_ + 1) ≤ Int32.toInt (M101_.1 104 0) := by omega
        exact ihz90_ (i2z90_ + 1) M101_ o103_ f105_ (zr_wide b108_ (by decide) (by decide)) j110_ j111_ (zhid (pvms_up (zshow hmz90_) h2z90_ q109_ (by decide) (by decide)))
  have u112_ : Int32.toInt 0 = 0 := by decide
  have j113_ : M3_.1 105 0 = 0 := d1_
  have j114_ : Int32.toInt 0 ≤ Int32.toInt (M3_.1 104 0) := by omega
  exact hlz90_ _ 0 M3_ o5_ f7_ (zr_wide (show 0 ≤ Int32.toInt 0 ∧ Int32.toInt 0 ≤ 0 from (by decide)) (by decide) (by decide)) j113_ j114_ (zhid (Nat.lt_succ_self _))
def fpL_eX7_becomeAs_9_8 : List (Nat × Nat × Nat) := [(0, 101, 1), (0, 103, 1), (0, 105, 1), (0, 109, 0), (0, 111, 0), (0, 113, 0), (0, 117, 0), (0, 119, 0), (0, 121, 0), (0, 9, 2), (0, 9, 3), (0, 9, 4), (0, 9, 5), (0, 9, 6), (0, 9, 7), (0, 9, 8), (0, 9, 9), (1, 113, 0), (1, 3, 1), (1, 3, 2), (1, 3, 3), (1, 3, 4), (1, 3, 5), (1, 3, 6)]
def fp_eX7_becomeAs_9_8 (q k : Nat) : Bool := pvfp fpL_eX7_becomeAs_9_8 q k
theorem fp_eX7_becomeAs_9_8_fp_X4_becomeAs_x_x (a b : Nat) (h : fp_X4_becomeAs_x_x a b = true) : fp_eX7_becomeAs_9_8 a b = true := pvfp_sub (l1 := fpL_X4_becomeAs_x_x) (l2 := fpL_eX7_becomeAs_9_8) (by decide) a b h
theorem fp_eX7_becomeAs_9_8_fp_eX6_becomeAs_101_100 (a b : Nat) (h : fp_eX6_becomeAs_101_100 a b = true) : fp_eX7_becomeAs_9_8 a b = true := pvfp_sub (l1 := fpL_eX6_becomeAs_101_100) (l2 := fpL_eX7_becomeAs_9_8) (by decide) a b h
theorem fp_eX7_becomeAs_9_8_fp_eX6_becomeAs_103_102 (a b : Nat) (h : fp_eX6_becomeAs_103_102 a b = true) : fp_eX7_becomeAs_9_8 a b = true := pvfp_sub (l1 := fpL_eX6_becomeAs_103_102) (l2 := fpL_eX7_becomeAs_9_8) (by decide) a b h
theorem fp_eX7_becomeAs_9_8_fp_eX6_becomeAs_105_104 (a b : Nat) (h : fp_eX6_becomeAs_105_104 a b = true) : fp_eX7_becomeAs_9_8 a b = true := pvfp_sub (l1 := fpL_eX6_becomeAs_105_104) (l2 := fpL_eX7_becomeAs_9_8) (by decide) a b h
set_option maxHeartbeats 4000000 in
set_option maxRecDepth 10000 in
theorem se_X7_becomeAs_9_8 (M : pvM) (hok : pvOk M) (d : Nat) : PW 158 d (0, [some (pvR 9), some (pvR 8), none], [], M) (fun r X => r = none ∧ pvOk X ∧ pvFr fp_eX7_becomeAs_9_8 M X ∧ X.1 9 1 = (M.1 8 1) ∧ X.1 9 2 = (M.1 8 2) ∧ X.1 9 3 = (M.1 8 3) ∧ X.1 103 0 = (M.1 102 0) ∧ X.1 105 0 = (M.1 104 0)) := by
  have hT : pvdom 158 = pvD_158 := rfl
  have b1_ : 0 ≤ Int32.toInt (M.1 8 1) ∧ Int32.toInt (M.1 8 1) ≤ 7 := pvok_r hok 8 1 rfl
  refine pw_blkw hT 4 (pc := 8) (lo := [some (pvR 9), some (pvR 8), none]) (st := []) (M := pvu M 9 1 (M.1 8 1)) rfl ⟨trivial, trivial, rfl, rfl, trivial⟩ (fun M2_ e3_ => ?_)
  have o4_ : pvOk M2_ := pvok_u2 e3_ hok rfl b1_
  have f5_ : pvFr fp_eX7_becomeAs_9_8 M M2_ := pvfr_u e3_ pvfr_0 rfl
  refine pw_blk hT 2 (S' := (10, [some (pvR 9), some (pvR 8), some (pvI 0)], [], M2_)) rfl ⟨trivial, trivial, trivial⟩ ?_
  have hlz322_ : ∀ (nz322_ : Nat) (i2z322_ : Int32) (Mz322_ : pvM), (pvOk Mz322_) → (pvFr fp_eX7_becomeAs_9_8 M Mz322_) → (0 ≤ Int32.toInt i2z322_ ∧ Int32.toInt i2z322_ ≤ 7) → (Mz322_.1 9 1 = (M.1 8 1)) → (zhide ((8 - Int32.toInt i2z322_).toNat < nz322_)) → PW 158 d (10, [some (pvR 9), some (pvR 8), some (pvI i2z322_)], [], Mz322_) (fun r X => r = none ∧ pvOk X ∧ pvFr fp_eX7_becomeAs_9_8 M X ∧ X.1 9 1 = (M.1 8 1) ∧ X.1 9 2 = (M.1 8 2) ∧ X.1 9 3 = (M.1 8 3) ∧ X.1 103 0 = (M.1 102 0) ∧ X.1 105 0 = (M.1 104 0)) := by
    intro nz322_
    induction nz322_ with
    | zero => intro i2z322_ Mz322_ oz322_ fz322_ h2z322_ j0z322_ hmz322_; exact absurd (zshow hmz322_) (Nat.not_lt_zero _)
    | succ nz322_ ihz322_ =>
      intro i2z322_ Mz322_ oz322_ fz322_ h2z322_ j0z322_ hmz322_
      have b323_ : 0 ≤ Int32.toInt (Mz322_.1 9 1) ∧ Int32.toInt (Mz322_.1 9 1) ≤ 7 := pvok_r oz322_ 9 1 rfl
      refine pw_blk hT 3 (S' := (15, [some (pvR 9), some (pvR 8), some (pvI i2z322_)], [pvI (Mz322_.1 9 1), pvI i2z322_], Mz322_)) rfl ⟨trivial, trivial, rfl, trivial⟩ ?_
      refine pw_ic hT (c := (Mz322_.1 9 1) ≤ i2z322_) rfl rfl (fun c324_ => ?_) (fun c324_ => ?_)
      · have d325_ : Int32.toInt (Mz322_.1 9 1) ≤ Int32.toInt i2z322_ := (zi_le _ _).mp c324_
        have b326_ : 0 ≤ Int32.toInt (Mz322_.1 8 2) ∧ Int32.toInt (Mz322_.1 8 2) ≤ 99 := pvok_r oz322_ 8 2 rfl
        refine pw_blkw hT 4 (pc := 47) (lo := [some (pvR 9), some (pvR 8), some (pvI i2z322_)]) (st := []) (M := pvu Mz322_ 9 2 (Mz322_.1 8 2)) rfl ⟨trivial, trivial, rfl, rfl, trivial⟩ (fun M327_ e328_ => ?_)
        have o329_ : pvOk M327_ := pvok_u2 e328_ oz322_ rfl b326_
        have f330_ : pvFr fp_eX7_becomeAs_9_8 M M327_ := pvfr_u e328_ fz322_ rfl
        have b331_ : 0 ≤ Int32.toInt (M327_.1 8 3) ∧ Int32.toInt (M327_.1 8 3) ≤ 3 := pvok_r o329_ 8 3 rfl
        refine pw_blkw hT 4 (pc := 55) (lo := [some (pvR 9), some (pvR 8), some (pvI i2z322_)]) (st := []) (M := pvu M327_ 9 3 (M327_.1 8 3)) rfl ⟨trivial, trivial, rfl, rfl, trivial⟩ (fun M332_ e333_ => ?_)
        have o334_ : pvOk M332_ := pvok_u2 e333_ o329_ rfl b331_
        have f335_ : pvFr fp_eX7_becomeAs_9_8 M M332_ := pvfr_u e333_ f330_ rfl
        have b336_ : 0 ≤ Int32.toInt (M332_.1 8 4) ∧ Int32.toInt (M332_.1 8 4) ≤ 9999 := pvok_r o334_ 8 4 rfl
        refine pw_blkw hT 4 (pc := 63) (lo := [some (pvR 9), some (pvR 8), some (pvI i2z322_)]) (st := []) (M := pvu M332_ 9 4 (M332_.1 8 4)) rfl ⟨trivial, trivial, rfl, rfl, trivial⟩ (fun M337_ e338_ => ?_)
        have o339_ : pvOk M337_ := pvok_u2 e338_ o334_ rfl b336_
        have f340_ : pvFr fp_eX7_becomeAs_9_8 M M337_ := pvfr_u e338_ f335_ rfl
        refine pw_blkw hT 4 (pc := 71) (lo := [some (pvR 9), some (pvR 8), some (pvI i2z322_)]) (st := []) (M := pvu M337_ 9 5 (M337_.1 8 5)) rfl ⟨trivial, trivial, rfl, rfl, trivial⟩ (fun M341_ e342_ => ?_)
        have o343_ : pvOk M341_ := pvok_u2 e342_ o339_ rfl (zbnd (M337_.1 8 5))
        have f344_ : pvFr fp_eX7_becomeAs_9_8 M M341_ := pvfr_u e342_ f340_ rfl
        have b345_ : 0 ≤ Int32.toInt (M341_.1 8 6) ∧ Int32.toInt (M341_.1 8 6) ≤ 3 := pvok_r o343_ 8 6 rfl
        refine pw_blkw hT 4 (pc := 79) (lo := [some (pvR 9), some (pvR 8), some (pvI i2z322_)]) (st := []) (M := pvu M341_ 9 6 (M341_.1 8 6)) rfl ⟨trivial, trivial, rfl, rfl, trivial⟩ (fun M346_ e347_ => ?_)
        have o348_ : pvOk M346_ := pvok_u2 e347_ o343_ rfl b345_
        have f349_ : pvFr fp_eX7_becomeAs_9_8 M M346_ := pvfr_u e347_ f344_ rfl
        have b350_ : 0 ≤ Int32.toInt (M346_.1 8 7) ∧ Int32.toInt (M346_.1 8 7) ≤ 4 := pvok_r o348_ 8 7 rfl
        refine pw_blkw hT 4 (pc := 87) (lo := [some (pvR 9), some (pvR 8), some (pvI i2z322_)]) (st := []) (M := pvu M346_ 9 7 (M346_.1 8 7)) rfl ⟨trivial, trivial, rfl, rfl, trivial⟩ (fun M351_ e352_ => ?_)
        have o353_ : pvOk M351_ := pvok_u2 e352_ o348_ rfl b350_
        have f354_ : pvFr fp_eX7_becomeAs_9_8 M M351_ := pvfr_u e352_ f349_ rfl
        have b355_ : 15 ≤ Int32.toInt (M351_.1 8 8) ∧ Int32.toInt (M351_.1 8 8) ≤ 23 := pvok_r o353_ 8 8 rfl
        refine pw_blkr hT 3 (pc := 92) (lo := [some (pvR 9), some (pvR 8), some (pvI i2z322_)]) (st := [pvR 9]) (M := M351_) (z := (pvhp (M351_.1 8 8))) rfl ⟨trivial, trivial, rfl, trivial⟩ (fun q356_ e358_ => ?_)
        have k357_ : pvkl q356_ = 2 := pvhp_k b355_ e358_
        refine pw_blkw hT 1 (pc := 95) (lo := [some (pvR 9), some (pvR 8), some (pvI i2z322_)]) (st := []) (M := pvu M351_ 9 8 (nI q356_)) rfl ⟨⟨rfl, k357_⟩, trivial⟩ (fun M359_ e360_ => ?_)
        have o361_ : pvOk M359_ := pvok_u2 e360_ o353_ rfl (pvhp_r k357_)
        have f362_ : pvFr fp_eX7_becomeAs_9_8 M M359_ := pvfr_u e360_ f354_ rfl
        refine pw_blk hT 4 (S' := (103, [some (pvR 9), some (pvR 8), some (pvI i2z322_)], [pvR 100, pvR 101], M359_)) rfl ⟨trivial, rfl, trivial, rfl, trivial⟩ ?_
        refine pw_callVd hT (as := [pvR 101, pvR 100]) (lo1 := [some (pvR 101), some (pvR 100), none]) (d1 := d) (rest := []) rfl rfl rfl rfl rfl (fun _ => rfl) (Nat.zero_le _) rfl rfl rfl (se_X6_becomeAs_101_100 M359_ o361_ d) (fun M365_ o367_ g368_ d363_ => ?_)
        have f369_ : pvFr fp_eX7_becomeAs_9_8 M M365_ := pvfr_t g368_ f362_ fp_eX7_becomeAs_9_8_fp_eX6_becomeAs_101_100
        refine pw_blk hT 4 (S' := (114, [some (pvR 9), some (pvR 8), some (pvI i2z322_)], [pvR 102, pvR 103], M365_)) rfl ⟨trivial, rfl, trivial, rfl, trivial⟩ ?_
        refine pw_callVd hT (as := [pvR 103, pvR 102]) (lo1 := [some (pvR 103), some (pvR 102), none]) (d1 := d) (rest := []) rfl rfl rfl rfl rfl (fun _ => rfl) (Nat.zero_le _) rfl rfl rfl (se_X6_becomeAs_103_102 M365_ o367_ d) (fun M372_ o374_ g375_ d370_ => ?_)
        have f376_ : pvFr fp_eX7_becomeAs_9_8 M M372_ := pvfr_t g375_ f369_ fp_eX7_becomeAs_9_8_fp_eX6_becomeAs_103_102
        refine pw_blk hT 4 (S' := (125, [some (pvR 9), some (pvR 8), some (pvI i2z322_)], [pvR 104, pvR 105], M372_)) rfl ⟨trivial, rfl, trivial, rfl, trivial⟩ ?_
        refine pw_callVd hT (as := [pvR 105, pvR 104]) (lo1 := [some (pvR 105), some (pvR 104), none]) (d1 := d) (rest := []) rfl rfl rfl rfl rfl (fun _ => rfl) (Nat.zero_le _) rfl rfl rfl (se_X6_becomeAs_105_104 M372_ o374_ d) (fun M379_ o381_ g382_ d377_ => ?_)
        have f383_ : pvFr fp_eX7_becomeAs_9_8 M M379_ := pvfr_t g382_ f376_ fp_eX7_becomeAs_9_8_fp_eX6_becomeAs_105_104
        exact pw_ret hT rfl (r := none) (M' := M379_) ⟨rfl, rfl⟩ ⟨rfl, o381_, f383_, (((((((((((g382_ 9 1 rfl).trans (g375_ 9 1 rfl)).trans (g368_ 9 1 rfl)).trans (pvu_n e360_ 9 1 (Or.inr (by decide)))).trans (pvu_n e352_ 9 1 (Or.inr (by decide)))).trans (pvu_n e347_ 9 1 (Or.inr (by decide)))).trans (pvu_n e342_ 9 1 (Or.inr (by decide)))).trans (pvu_n e338_ 9 1 (Or.inr (by decide)))).trans (pvu_n e333_ 9 1 (Or.inr (by decide)))).trans (pvu_n e328_ 9 1 (Or.inr (by decide)))).trans (j0z322_)), (((((((((((g382_ 9 2 rfl).trans (g375_ 9 2 rfl)).trans (g368_ 9 2 rfl)).trans (pvu_n e360_ 9 2 (Or.inr (by decide)))).trans (pvu_n e352_ 9 2 (Or.inr (by decide)))).trans (pvu_n e347_ 9 2 (Or.inr (by decide)))).trans (pvu_n e342_ 9 2 (Or.inr (by decide)))).trans (pvu_n e338_ 9 2 (Or.inr (by decide)))).trans (pvu_n e333_ 9 2 (Or.inr (by decide)))).trans (pvu_s e328_)).trans (fz322_ 8 2 rfl)), ((((((((((g382_ 9 3 rfl).trans (g375_ 9 3 rfl)).trans (g368_ 9 3 rfl)).trans (pvu_n e360_ 9 3 (Or.inr (by decide)))).trans (pvu_n e352_ 9 3 (Or.inr (by decide)))).trans (pvu_n e347_ 9 3 (Or.inr (by decide)))).trans (pvu_n e342_ 9 3 (Or.inr (by decide)))).trans (pvu_n e338_ 9 3 (Or.inr (by decide)))).trans (pvu_s e333_)).trans ((pvu_n e328_ 8 3 (Or.inl (by decide))).trans (fz322_ 8 3 rfl))), (((g382_ 103 0 rfl).trans (d370_)).trans (((((((((g368_ 102 0 rfl).trans (pvu_n e360_ 102 0 (Or.inl (by decide)))).trans (pvu_n e352_ 102 0 (Or.inl (by decide)))).trans (pvu_n e347_ 102 0 (Or.inl (by decide)))).trans (pvu_n e342_ 102 0 (Or.inl (by decide)))).trans (pvu_n e338_ 102 0 (Or.inl (by decide)))).trans (pvu_n e333_ 102 0 (Or.inl (by decide)))).trans (pvu_n e328_ 102 0 (Or.inl (by decide)))).trans (fz322_ 102 0 rfl))), (d377_.trans ((((((((((g375_ 104 0 rfl).trans (g368_ 104 0 rfl)).trans (pvu_n e360_ 104 0 (Or.inl (by decide)))).trans (pvu_n e352_ 104 0 (Or.inl (by decide)))).trans (pvu_n e347_ 104 0 (Or.inl (by decide)))).trans (pvu_n e342_ 104 0 (Or.inl (by decide)))).trans (pvu_n e338_ 104 0 (Or.inl (by decide)))).trans (pvu_n e333_ 104 0 (Or.inl (by decide)))).trans (pvu_n e328_ 104 0 (Or.inl (by decide)))).trans (fz322_ 104 0 rfl)))⟩
      · have b384_ : 1 ≤ Int32.toInt (Mz322_.1 9 1) ∧ Int32.toInt (Mz322_.1 9 1) ≤ 7 := zr_nle_l 1 c324_ b323_ h2z322_ (by decide)
        have b385_ : 0 ≤ Int32.toInt i2z322_ ∧ Int32.toInt i2z322_ ≤ 6 := zr_nle_r 6 c324_ h2z322_ b384_ (by decide)
        have d386_ : Int32.toInt (Mz322_.1 9 1) > Int32.toInt i2z322_ := Int.not_le.mp ((not_congr (zi_le _ _)).mp c324_)
        refine pw_blkr hT 4 (pc := 24) (lo := [some (pvR 9), some (pvR 8), some (pvI i2z322_)]) (st := []) (M := Mz322_) (z := (pvbs 11 + Int32.toNatClampNeg i2z322_)) rfl ⟨trivial, rfl, trivial, ⟨rfl, (zr_in (n := 7) b385_ (by decide) (by decide))⟩, trivial⟩ (fun q387_ e389_ => ?_)
        have k388_ : pvkl q387_ = 3 := pvel_11 (zr_in (n := 7) b385_ (by decide) (by decide)) e389_
        refine pw_blkr hT 4 (pc := 30) (lo := [some (pvR 9), some (pvR 8), some (pvI i2z322_)]) (st := [pvR q387_]) (M := Mz322_) (z := (pvbs 10 + Int32.toNatClampNeg i2z322_)) rfl ⟨trivial, rfl, trivial, ⟨rfl, (zr_in (n := 7) b385_ (by decide) (by decide))⟩, trivial⟩ (fun q390_ e392_ => ?_)
        have k391_ : pvkl q390_ = 3 := pvel_10 (zr_in (n := 7) b385_ (by decide) (by decide)) e392_
        refine pw_callV hT (as := [pvR q387_, pvR q390_]) (lo1 := [some (pvR q387_), some (pvR q390_)]) (d1 := d) (rest := []) rfl rfl rfl rfl rfl (fun _ => k388_) (Nat.zero_le _) rfl rfl rfl (sf_X4_becomeAs_x_x Mz322_ oz322_ q387_ q390_ k388_ k391_ d) (fun M394_ o396_ g397_ => ?_)
        have f398_ : pvFr fp_eX7_becomeAs_9_8 M M394_ := pvfr_t g397_ fz322_ fp_eX7_becomeAs_9_8_fp_X4_becomeAs_x_x
        obtain ⟨q400_, b399_⟩ : (Int32.toInt (i2z322_ + 1) = Int32.toInt i2z322_ + 1) ∧ (1 ≤ Int32.toInt (i2z322_ + 1) ∧ Int32.toInt (i2z322_ + 1) ≤ 7) := zadd_k i2z322_ 1 1 1 7 b385_ (by decide) (by decide) (by decide) (by decide) (by decide)
        refine pw_blk hT 2 (S' := (10, [some (pvR 9), some (pvR 8), some (pvI (i2z322_ + 1))], [], M394_)) rfl ⟨trivial, trivial, trivial⟩ ?_
        have j401_ : M394_.1 9 1 = (M.1 8 1) := ((g397_ 9 1 rfl).trans (j0z322_))
        exact ihz322_ (i2z322_ + 1) M394_ o396_ f398_ (zr_wide b399_ (by decide) (by decide)) j401_ (zhid (pvms_up (zshow hmz322_) h2z322_ q400_ (by decide) (by decide)))
  have u402_ : Int32.toInt 0 = 0 := by decide
  have j403_ : M2_.1 9 1 = (M.1 8 1) := (pvu_s e3_)
  exact hlz322_ _ 0 M2_ o4_ f5_ (zr_wide (show 0 ≤ Int32.toInt 0 ∧ Int32.toInt 0 ≤ 0 from (by decide)) (by decide) (by decide)) j403_ (zhid (Nat.lt_succ_self _))
def fpL_eX9_image_0 : List (Nat × Nat × Nat) := [(0, 0, 6), (0, 101, 1), (0, 103, 1), (0, 105, 1), (0, 109, 0), (0, 111, 0), (0, 113, 0), (0, 117, 0), (0, 119, 0), (0, 121, 0), (0, 9, 2), (0, 9, 3), (0, 9, 4), (0, 9, 5), (0, 9, 6), (0, 9, 7), (0, 9, 8), (0, 9, 9), (1, 113, 0), (1, 3, 1), (1, 3, 2), (1, 3, 3), (1, 3, 4), (1, 3, 5), (1, 3, 6)]
def fp_eX9_image_0 (q k : Nat) : Bool := pvfp fpL_eX9_image_0 q k
theorem fp_eX9_image_0_fp_eX7_becomeAs_9_8 (a b : Nat) (h : fp_eX7_becomeAs_9_8 a b = true) : fp_eX9_image_0 a b = true := pvfp_sub (l1 := fpL_eX7_becomeAs_9_8) (l2 := fpL_eX9_image_0) (by decide) a b h
set_option maxHeartbeats 4000000 in
set_option maxRecDepth 10000 in
theorem se_X9_image_0 (M : pvM) (hok : pvOk M) (d : Nat) : PW 178 d (0, [some (pvR 0)], [], M) (fun r X => (∃ x : Int32, r = some (pvI x) ∧ (0 ≤ Int32.toInt x ∧ Int32.toInt x ≤ 7) ∧ x = (M.1 8 1)) ∧ pvOk X ∧ pvFr fp_eX9_image_0 M X ∧ X.1 9 1 = (M.1 8 1) ∧ X.1 9 2 = (M.1 8 2) ∧ X.1 9 3 = (M.1 8 3) ∧ X.1 0 5 = 1 ∧ X.1 103 0 = (M.1 102 0) ∧ X.1 105 0 = (M.1 104 0)) := by
  have hT : pvdom 178 = pvD_178 := rfl
  refine pw_blk hT 4 (S' := (8, [some (pvR 0)], [pvR 8, pvR 9], M)) rfl ⟨trivial, rfl, trivial, rfl, trivial⟩ ?_
  refine pw_callVd hT (as := [pvR 9, pvR 8]) (lo1 := [some (pvR 9), some (pvR 8), none]) (d1 := d) (rest := []) rfl rfl rfl rfl rfl (fun _ => rfl) (Nat.zero_le _) rfl rfl rfl (se_X7_becomeAs_9_8 M hok d) (fun M3_ o5_ g6_ d1_ => ?_)
  have f7_ : pvFr fp_eX9_image_0 M M3_ := pvfr_t g6_ pvfr_0 fp_eX9_image_0_fp_eX7_becomeAs_9_8
  refine pw_blkw hT 3 (pc := 16) (lo := [some (pvR 0)]) (st := []) (M := pvu M3_ 0 5 1) rfl ⟨trivial, trivial, ⟨rfl, Or.inr rfl⟩, trivial⟩ (fun M8_ e9_ => ?_)
  have o10_ : pvOk M8_ := pvok_u2 e9_ o5_ rfl (zr_wide (show 1 ≤ Int32.toInt 1 ∧ Int32.toInt 1 ≤ 1 from (by decide)) (by decide) (by decide))
  have f11_ : pvFr fp_eX9_image_0 M M8_ := pvfr_u e9_ f7_ rfl
  have b12_ : 0 ≤ Int32.toInt (M8_.1 8 1) ∧ Int32.toInt (M8_.1 8 1) ≤ 7 := pvok_r o10_ 8 1 rfl
  refine pw_blk hT 3 (S' := (23, [some (pvR 0)], [pvI (M8_.1 8 1)], M8_)) rfl ⟨trivial, rfl, rfl, trivial⟩ ?_
  exact pw_ret hT rfl (r := some (pvI (M8_.1 8 1))) (M' := M8_) ⟨rfl, rfl⟩ ⟨⟨_, rfl, b12_, (show (M8_.1 8 1) = (M.1 8 1) from by rw [((pvu_n e9_ 8 1 (Or.inl (by decide))).trans (g6_ 8 1 rfl))])⟩, o10_, f11_, ((pvu_n e9_ 9 1 (Or.inl (by decide))).trans (d1_.1)), ((pvu_n e9_ 9 2 (Or.inl (by decide))).trans (d1_.2.1)), ((pvu_n e9_ 9 3 (Or.inl (by decide))).trans (d1_.2.2.1)), (pvu_s e9_), ((pvu_n e9_ 103 0 (Or.inl (by decide))).trans (d1_.2.2.2.1)), ((pvu_n e9_ 105 0 (Or.inl (by decide))).trans (d1_.2.2.2.2))⟩
def fpL_eX6_append_102_x_x : List (Nat × Nat × Nat) := [(0, 102, 1), (0, 110, 0), (0, 118, 0)]
def fp_eX6_append_102_x_x (q k : Nat) : Bool := pvfp fpL_eX6_append_102_x_x q k
set_option maxHeartbeats 4000000 in
set_option maxRecDepth 10000 in
theorem se_X6_append_102_x_x (M : pvM) (hok : pvOk M) (n1 : Int32) (n2 : Int32) (hn1 : 0 ≤ Int32.toInt n1 ∧ Int32.toInt n1 ≤ 6) (hn2 : 0 ≤ Int32.toInt n2 ∧ Int32.toInt n2 ≤ 9999) (d : Nat) : PW 151 d (0, [some (pvR 102), some (pvI n1), some (pvI n2)], [], M) (fun r X => (∃ x : Int32, r = some (pvI x) ∧ (1 ≤ Int32.toInt x ∧ Int32.toInt x ≤ 6) ∧ x = (if (M.1 102 0) < (Int32.ofNat 6) then ((M.1 102 0) + 1) else (M.1 102 0))) ∧ pvOk X ∧ pvFr fp_eX6_append_102_x_x M X ∧ X.1 102 0 = (if (M.1 102 0) < (Int32.ofNat 6) then ((M.1 102 0) + 1) else (M.1 102 0))) := by
  have hT : pvdom 151 = pvD_151 := rfl
  refine pw_blk hT 1 (S' := (1, [some (pvR 102), some (pvI n1), some (pvI n2)], [pvR 102], M)) rfl ⟨trivial, trivial⟩ ?_
  refine pw_callT hT (as := [pvR 102]) (lo1 := [some (pvR 102)]) (d1 := d) (rest := []) rfl rfl rfl rfl rfl (fun _ => rfl) (Nat.zero_le _) rfl rfl rfl (sf_X6_isFull_102 M hok d) ?_
  have b6_ : 0 ≤ Int32.toInt (M.1 102 0) ∧ Int32.toInt (M.1 102 0) ≤ 6 := pvok_r hok 102 0 rfl
  by_cases c7_ : (M.1 102 0) < (Int32.ofNat 6)
  · refine pw_eqI (if_pos c7_) ?_
    have b8_ : 0 ≤ Int32.toInt (M.1 102 0) ∧ Int32.toInt (M.1 102 0) ≤ 5 := zr_lt_l 5 c7_ b6_ (show 6 ≤ Int32.toInt (Int32.ofNat 6) ∧ Int32.toInt (Int32.ofNat 6) ≤ 6 from (by decide)) (by decide)
    show PW 151 d (4, [some (pvR 102), some (pvI n1), some (pvI n2)], [pvI 0], M) _
    refine pw_if hT (c := 0 = 0) rfl rfl (fun c9_ => ?_) (fun c9_ => absurd (by decide) c9_)
    refine pw_blkw hT 6 (pc := 22) (lo := [some (pvR 102), some (pvI n1), some (pvI n2)]) (st := []) (M := pvu M 110 (Int32.toNatClampNeg (M.1 102 0)) n1) rfl ⟨trivial, rfl, trivial, rfl, trivial, ⟨rfl, (zr_in (n := 6) b8_ (by decide) (by decide))⟩, trivial⟩ (fun M10_ e11_ => ?_)
    have o12_ : pvOk M10_ := pvok_u2 e11_ hok rfl hn1
    have f13_ : pvFr fp_eX6_append_102_x_x M M10_ := pvfr_u e11_ pvfr_0 rfl
    have e14_ : (M10_.1 102 0) = (M.1 102 0) := (pvu_n e11_ 102 0 (Or.inl (by decide)))
    have b15_ : 0 ≤ Int32.toInt (M10_.1 102 0) ∧ Int32.toInt (M10_.1 102 0) ≤ 5 := (by rw [e14_]; exact b8_)
    refine pw_blkw hT 6 (pc := 32) (lo := [some (pvR 102), some (pvI n1), some (pvI n2)]) (st := []) (M := pvu M10_ 118 (Int32.toNatClampNeg (M10_.1 102 0)) n2) rfl ⟨trivial, rfl, trivial, rfl, trivial, ⟨rfl, (zr_in (n := 6) b15_ (by decide) (by decide))⟩, trivial⟩ (fun M16_ e17_ => ?_)
    have o18_ : pvOk M16_ := pvok_u2 e17_ o12_ rfl hn2
    have f19_ : pvFr fp_eX6_append_102_x_x M M16_ := pvfr_u e17_ f13_ rfl
    have e20_ : (M16_.1 102 0) = (M10_.1 102 0) := (pvu_n e17_ 102 0 (Or.inl (by decide)))
    have b21_ : 0 ≤ Int32.toInt (M16_.1 102 0) ∧ Int32.toInt (M16_.1 102 0) ≤ 5 := (by rw [e20_]; exact b15_)
    obtain ⟨q23_, b22_⟩ : (Int32.toInt ((M16_.1 102 0) + 1) = Int32.toInt (M16_.1 102 0) + 1) ∧ (1 ≤ Int32.toInt ((M16_.1 102 0) + 1) ∧ Int32.toInt ((M16_.1 102 0) + 1) ≤ 6) := zadd_k (M16_.1 102 0) 1 1 1 6 b21_ (by decide) (by decide) (by decide) (by decide) (by decide)
    refine pw_blkw hT 6 (pc := 42) (lo := [some (pvR 102), some (pvI n1), some (pvI n2)]) (st := []) (M := pvu M16_ 102 0 ((M16_.1 102 0) + 1)) rfl ⟨trivial, trivial, rfl, trivial, trivial, rfl, trivial⟩ (fun M24_ e25_ => ?_)
    have o26_ : pvOk M24_ := pvok_u2 e25_ o18_ rfl (zr_wide b22_ (by decide) (by decide))
    have f27_ : pvFr fp_eX6_append_102_x_x M M24_ := pvfr_u e25_ f19_ rfl
    have e28_ : (M24_.1 102 0) = ((M16_.1 102 0) + 1) := (pvu_s e25_)
    have b29_ : 1 ≤ Int32.toInt (M24_.1 102 0) ∧ Int32.toInt (M24_.1 102 0) ≤ 6 := (by rw [e28_]; exact b22_)
    refine pw_blk hT 2 (S' := (46, [some (pvR 102), some (pvI n1), some (pvI n2)], [pvI (M24_.1 102 0)], M24_)) rfl ⟨trivial, rfl, trivial⟩ ?_
    exact pw_ret hT rfl (r := some (pvI (M24_.1 102 0))) (M' := M24_) ⟨rfl, rfl⟩ ⟨⟨_, rfl, b29_, (by rw [if_pos c7_]; exact (show (M24_.1 102 0) = ((M.1 102 0) + 1) from by rw [((pvu_s e25_).trans (show ((M16_.1 102 0) + 1) = ((M.1 102 0) + 1) from by rw [((pvu_n e17_ 102 0 (Or.inl (by decide))).trans (pvu_n e11_ 102 0 (Or.inl (by decide))))]))]))⟩, o26_, f27_, (by rw [if_pos c7_]; exact ((pvu_s e25_).trans (show ((M16_.1 102 0) + 1) = ((M.1 102 0) + 1) from by rw [((pvu_n e17_ 102 0 (Or.inl (by decide))).trans (pvu_n e11_ 102 0 (Or.inl (by decide))))])))⟩
  · refine pw_eqI (if_neg c7_) ?_
    have b30_ : 6 ≤ Int32.toInt (M.1 102 0) ∧ Int32.toInt (M.1 102 0) ≤ 6 := zr_nlt_l 6 c7_ b6_ (show 6 ≤ Int32.toInt (Int32.ofNat 6) ∧ Int32.toInt (Int32.ofNat 6) ≤ 6 from (by decide)) (by decide)
    show PW 151 d (4, [some (pvR 102), some (pvI n1), some (pvI n2)], [pvI 1], M) _
    refine pw_if hT (c := 1 = 0) rfl rfl (fun c31_ => absurd c31_ (by decide)) (fun c31_ => ?_)
    refine pw_blk hT 2 (S' := (11, [some (pvR 102), some (pvI n1), some (pvI n2)], [pvI (M.1 102 0)], M)) rfl ⟨trivial, rfl, trivial⟩ ?_
    exact pw_ret hT rfl (r := some (pvI (M.1 102 0))) (M' := M) ⟨rfl, rfl⟩ ⟨⟨_, rfl, (zr_wide b30_ (by decide) (by decide)), (by rw [if_neg c7_])⟩, hok, pvfr_0, (by rw [if_neg c7_]; exact rfl)⟩
def fpL_eX6_clear_102 : List (Nat × Nat × Nat) := [(0, 102, 1)]
def fp_eX6_clear_102 (q k : Nat) : Bool := pvfp fpL_eX6_clear_102 q k
set_option maxHeartbeats 4000000 in
set_option maxRecDepth 10000 in
theorem se_X6_clear_102 (M : pvM) (hok : pvOk M) (d : Nat) : PW 153 d (0, [some (pvR 102)], [], M) (fun r X => (∃ x : Int32, r = some (pvI x) ∧ (0 ≤ Int32.toInt x ∧ Int32.toInt x ≤ 0) ∧ x = 0) ∧ pvOk X ∧ pvFr fp_eX6_clear_102 M X ∧ X.1 102 0 = 0) := by
  have hT : pvdom 153 = pvD_153 := rfl
  refine pw_blkw hT 3 (pc := 5) (lo := [some (pvR 102)]) (st := []) (M := pvu M 102 0 0) rfl ⟨trivial, trivial, rfl, trivial⟩ (fun M1_ e2_ => ?_)
  have o3_ : pvOk M1_ := pvok_u2 e2_ hok rfl (zr_wide (show 0 ≤ Int32.toInt 0 ∧ Int32.toInt 0 ≤ 0 from (by decide)) (by decide) (by decide))
  have f4_ : pvFr fp_eX6_clear_102 M M1_ := pvfr_u e2_ pvfr_0 rfl
  refine pw_blk hT 1 (S' := (6, [some (pvR 102)], [pvI 0], M1_)) rfl ⟨trivial, trivial⟩ ?_
  exact pw_ret hT rfl (r := some (pvI 0)) (M' := M1_) ⟨rfl, rfl⟩ ⟨⟨_, rfl, (show 0 ≤ Int32.toInt 0 ∧ Int32.toInt 0 ≤ 0 from (by decide)), rfl⟩, o3_, f4_, (pvu_s e2_)⟩
def fpL_eX9_appendTold_0_102_x_x : List (Nat × Nat × Nat) := [(0, 102, 1), (0, 110, 0), (0, 118, 0)]
def fp_eX9_appendTold_0_102_x_x (q k : Nat) : Bool := pvfp fpL_eX9_appendTold_0_102_x_x q k
theorem fp_eX9_appendTold_0_102_x_x_fp_eX6_append_102_x_x (a b : Nat) (h : fp_eX6_append_102_x_x a b = true) : fp_eX9_appendTold_0_102_x_x a b = true := pvfp_sub (l1 := fpL_eX6_append_102_x_x) (l2 := fpL_eX9_appendTold_0_102_x_x) (by decide) a b h
theorem fp_eX9_appendTold_0_102_x_x_fp_eX6_clear_102 (a b : Nat) (h : fp_eX6_clear_102 a b = true) : fp_eX9_appendTold_0_102_x_x a b = true := pvfp_sub (l1 := fpL_eX6_clear_102) (l2 := fpL_eX9_appendTold_0_102_x_x) (by decide) a b h
set_option maxHeartbeats 4000000 in
set_option maxRecDepth 10000 in
theorem se_X9_appendTold_0_102_x_x (M : pvM) (hok : pvOk M) (n2 : Int32) (n3 : Int32) (d : Nat) : PW 168 d (0, [some (pvR 0), some (pvR 102), some (pvI n2), some (pvI n3)], [], M) (fun r X => (∃ x : Int32, r = some (pvI x) ∧ ((-4) ≤ Int32.toInt x ∧ Int32.toInt x ≤ 6) ∧ x = (if n2 = (-1) then 0 else (if n2 < 0 then (-1) else (if (M.1 8 1) ≤ n2 then (-1) else (if n3 < 0 then (-2) else (if 9999 < n3 then (-2) else (if (M.1 102 0) < (Int32.ofNat 6) then (if (M.1 102 0) < (Int32.ofNat 6) then ((M.1 102 0) + 1) else (M.1 102 0)) else (-4)))))))) ∧ pvOk X ∧ pvFr fp_eX9_appendTold_0_102_x_x M X ∧ X.1 102 0 = (if n2 = (-1) then 0 else (if n2 < 0 then (M.1 102 0) else (if (M.1 8 1) ≤ n2 then (M.1 102 0) else (if n3 < 0 then (M.1 102 0) else (if 9999 < n3 then (M.1 102 0) else (if (M.1 102 0) < (Int32.ofNat 6) then (if (M.1 102 0) < (Int32.ofNat 6) then ((M.1 102 0) + 1) else (M.1 102 0)) else (M.1 102 0)))))))) := by
  have hT : pvdom 168 = pvD_168 := rfl
  refine pw_blk hT 2 (S' := (2, [some (pvR 0), some (pvR 102), some (pvI n2), some (pvI n3)], [pvI (-1), pvI n2], M)) rfl ⟨trivial, trivial, trivial⟩ ?_
  refine pw_icn hT (c := n2 = (-1)) rfl rfl (fun c1_ => ?_) (fun c1_ => ?_)
  · refine pw_blk hT 3 (S' := (15, [some (pvR 0), some (pvR 102), some (pvI n2), some (pvI n3)], [pvI n2, pvR 8], M)) rfl ⟨trivial, rfl, trivial, trivial⟩ ?_
    refine pw_callT hT (as := [pvR 8, pvI n2]) (lo1 := [some (pvR 8), some (pvI n2)]) (d1 := d) (rest := []) rfl rfl rfl rfl rfl (fun _ => rfl) (Nat.zero_le _) rfl rfl rfl (sf_X7_has_8_x M hok n2 d) ?_
    by_cases c7_ : n2 < 0
    · refine pw_eqI (if_pos c7_) ?_
      have b8_ : (-2147483648) ≤ Int32.toInt n2 ∧ Int32.toInt n2 ≤ (-2) := (by have u0 := (zbnd n2); have u9 := (show _ ∧ _ from ⟨(zi_lt _ _).mp c7_, (show 0 ≤ Int32.toInt 0 ∧ Int32.toInt 0 ≤ 0 from (by decide))⟩); have v1 := (not_congr (zi_eq _ _)).mp c1_; have w1 : ((-1) : Int32).toInt = -1 := (by decide); omega)
      show PW 168 d (18, [some (pvR 0), some (pvR 102), some (pvI n2), some (pvI n3)], [pvI 0], M) _
      refine pw_ifn hT (c := 0 = 0) rfl rfl (fun c9_ => absurd (by decide) c9_) (fun c9_ => ?_)
      refine pw_blk hT 1 (S' := (22, [some (pvR 0), some (pvR 102), some (pvI n2), some (pvI n3)], [pvI (-1)], M)) rfl ⟨trivial, trivial⟩ ?_
      exact pw_ret hT rfl (r := some (pvI (-1))) (M' := M) ⟨rfl, rfl⟩ ⟨⟨_, rfl, (zr_wide (show (-1) ≤ Int32.toInt (-1) ∧ Int32.toInt (-1) ≤ (-1) from (by decide)) (by decide) (by decide)), (by rw [if_neg c1_, if_pos c7_])⟩, hok, pvfr_0, (by rw [if_neg c1_, if_pos c7_]; exact rfl)⟩
    · refine pw_eqI (if_neg c7_) ?_
      have b10_ : 0 ≤ Int32.toInt n2 ∧ Int32.toInt n2 ≤ 2147483647 := zr_nlt_l 0 c7_ (zbnd n2) (show 0 ≤ Int32.toInt 0 ∧ Int32.toInt 0 ≤ 0 from (by decide)) (by decide)
      have b11_ : 0 ≤ Int32.toInt (M.1 8 1) ∧ Int32.toInt (M.1 8 1) ≤ 7 := pvok_r hok 8 1 rfl
      by_cases c12_ : (M.1 8 1) ≤ n2
      · refine pw_eqI (if_pos c12_) ?_
        have d13_ : Int32.toInt (M.1 8 1) ≤ Int32.toInt n2 := (zi_le _ _).mp c12_
        show PW 168 d (18, [some (pvR 0), some (pvR 102), some (pvI n2), some (pvI n3)], [pvI 0], M) _
        refine pw_ifn hT (c := 0 = 0) rfl rfl (fun c14_ => absurd (by decide) c14_) (fun c14_ => ?_)
        refine pw_blk hT 1 (S' := (22, [some (pvR 0), some (pvR 102), some (pvI n2), some (pvI n3)], [pvI (-1)], M)) rfl ⟨trivial, trivial⟩ ?_
        exact pw_ret hT rfl (r := some (pvI (-1))) (M' := M) ⟨rfl, rfl⟩ ⟨⟨_, rfl, (zr_wide (show (-1) ≤ Int32.toInt (-1) ∧ Int32.toInt (-1) ≤ (-1) from (by decide)) (by decide) (by decide)), (by rw [if_neg c1_, if_neg c7_, if_pos c12_])⟩, hok, pvfr_0, (by rw [if_neg c1_, if_neg c7_, if_pos c12_]; exact rfl)⟩
      · refine pw_eqI (if_neg c12_) ?_
        have b15_ : 1 ≤ Int32.toInt (M.1 8 1) ∧ Int32.toInt (M.1 8 1) ≤ 7 := zr_nle_l 1 c12_ b11_ b10_ (by decide)
        have b16_ : 0 ≤ Int32.toInt n2 ∧ Int32.toInt n2 ≤ 6 := zr_nle_r 6 c12_ b10_ b15_ (by decide)
        have d17_ : Int32.toInt (M.1 8 1) > Int32.toInt n2 := Int.not_le.mp ((not_congr (zi_le _ _)).mp c12_)
        show PW 168 d (18, [some (pvR 0), some (pvR 102), some (pvI n2), some (pvI n3)], [pvI 1], M) _
        refine pw_ifn hT (c := 1 = 0) rfl rfl (fun c18_ => ?_) (fun c18_ => absurd c18_ (by decide))
        refine pw_blk hT 3 (S' := (28, [some (pvR 0), some (pvR 102), some (pvI n2), some (pvI n3)], [pvI 9999, pvI 0, pvI n3], M)) rfl ⟨trivial, trivial, trivial, trivial⟩ ?_
        refine pw_callT hT (as := [pvI n3, pvI 0, pvI 9999]) (lo1 := [some (pvI n3), some (pvI 0), some (pvI 9999)]) (d1 := d) (rest := []) rfl rfl rfl rfl rfl (fun h => absurd h (by decide)) (Nat.zero_le _) rfl rfl rfl (sf_X9_within_x_x_x M hok n3 0 9999 d) ?_
        by_cases c24_ : n3 < 0
        · refine pw_eqI (if_pos c24_) ?_
          have b25_ : (-2147483648) ≤ Int32.toInt n3 ∧ Int32.toInt n3 ≤ (-1) := zr_lt_l (-1) c24_ (zbnd n3) (show 0 ≤ Int32.toInt 0 ∧ Int32.toInt 0 ≤ 0 from (by decide)) (by decide)
          show PW 168 d (31, [some (pvR 0), some (pvR 102), some (pvI n2), some (pvI n3)], [pvI 0], M) _
          refine pw_ifn hT (c := 0 = 0) rfl rfl (fun c26_ => absurd (by decide) c26_) (fun c26_ => ?_)
          refine pw_blk hT 1 (S' := (36, [some (pvR 0), some (pvR 102), some (pvI n2), some (pvI n3)], [pvI (-2)], M)) rfl ⟨trivial, trivial⟩ ?_
          exact pw_ret hT rfl (r := some (pvI (-2))) (M' := M) ⟨rfl, rfl⟩ ⟨⟨_, rfl, (zr_wide (show (-2) ≤ Int32.toInt (-2) ∧ Int32.toInt (-2) ≤ (-2) from (by decide)) (by decide) (by decide)), (by rw [if_neg c1_, if_neg c7_, if_neg c12_, if_pos c24_])⟩, hok, pvfr_0, (by rw [if_neg c1_, if_neg c7_, if_neg c12_, if_pos c24_]; exact rfl)⟩
        · refine pw_eqI (if_neg c24_) ?_
          have b27_ : 0 ≤ Int32.toInt n3 ∧ Int32.toInt n3 ≤ 2147483647 := zr_nlt_l 0 c24_ (zbnd n3) (show 0 ≤ Int32.toInt 0 ∧ Int32.toInt 0 ≤ 0 from (by decide)) (by decide)
          by_cases c28_ : 9999 < n3
          · refine pw_eqI (if_pos c28_) ?_
            have b29_ : 10000 ≤ Int32.toInt n3 ∧ Int32.toInt n3 ≤ 2147483647 := zr_lt_r 10000 c28_ b27_ (show 9999 ≤ Int32.toInt 9999 ∧ Int32.toInt 9999 ≤ 9999 from (by decide)) (by decide)
            show PW 168 d (31, [some (pvR 0), some (pvR 102), some (pvI n2), some (pvI n3)], [pvI 0], M) _
            refine pw_ifn hT (c := 0 = 0) rfl rfl (fun c30_ => absurd (by decide) c30_) (fun c30_ => ?_)
            refine pw_blk hT 1 (S' := (36, [some (pvR 0), some (pvR 102), some (pvI n2), some (pvI n3)], [pvI (-2)], M)) rfl ⟨trivial, trivial⟩ ?_
            exact pw_ret hT rfl (r := some (pvI (-2))) (M' := M) ⟨rfl, rfl⟩ ⟨⟨_, rfl, (zr_wide (show (-2) ≤ Int32.toInt (-2) ∧ Int32.toInt (-2) ≤ (-2) from (by decide)) (by decide) (by decide)), (by rw [if_neg c1_, if_neg c7_, if_neg c12_, if_neg c24_, if_pos c28_])⟩, hok, pvfr_0, (by rw [if_neg c1_, if_neg c7_, if_neg c12_, if_neg c24_, if_pos c28_]; exact rfl)⟩
          · refine pw_eqI (if_neg c28_) ?_
            have b31_ : 0 ≤ Int32.toInt n3 ∧ Int32.toInt n3 ≤ 9999 := zr_nlt_r 9999 c28_ b27_ (show 9999 ≤ Int32.toInt 9999 ∧ Int32.toInt 9999 ≤ 9999 from (by decide)) (by decide)
            show PW 168 d (31, [some (pvR 0), some (pvR 102), some (pvI n2), some (pvI n3)], [pvI 1], M) _
            refine pw_ifn hT (c := 1 = 0) rfl rfl (fun c32_ => ?_) (fun c32_ => absurd c32_ (by decide))
            refine pw_blk hT 1 (S' := (38, [some (pvR 0), some (pvR 102), some (pvI n2), some (pvI n3)], [pvR 102], M)) rfl ⟨trivial, trivial⟩ ?_
            refine pw_callT hT (as := [pvR 102]) (lo1 := [some (pvR 102)]) (d1 := d) (rest := []) rfl rfl rfl rfl rfl (fun _ => rfl) (Nat.zero_le _) rfl rfl rfl (sf_X6_isFull_102 M hok d) ?_
            have b38_ : 0 ≤ Int32.toInt (M.1 102 0) ∧ Int32.toInt (M.1 102 0) ≤ 6 := pvok_r hok 102 0 rfl
            by_cases c39_ : (M.1 102 0) < (Int32.ofNat 6)
            · refine pw_eqI (if_pos c39_) ?_
              have b40_ : 0 ≤ Int32.toInt (M.1 102 0) ∧ Int32.toInt (M.1 102 0) ≤ 5 := zr_lt_l 5 c39_ b38_ (show 6 ≤ Int32.toInt (Int32.ofNat 6) ∧ Int32.toInt (Int32.ofNat 6) ≤ 6 from (by decide)) (by decide)
              show PW 168 d (41, [some (pvR 0), some (pvR 102), some (pvI n2), some (pvI n3)], [pvI 0], M) _
              refine pw_if hT (c := 0 = 0) rfl rfl (fun c41_ => ?_) (fun c41_ => absurd (by decide) c41_)
              refine pw_blk hT 3 (S' := (50, [some (pvR 0), some (pvR 102), some (pvI n2), some (pvI n3)], [pvI n3, pvI n2, pvR 102], M)) rfl ⟨trivial, trivial, trivial, trivial⟩ ?_
              refine pw_callGd hT (as := [pvR 102, pvI n2, pvI n3]) (lo1 := [some (pvR 102), some (pvI n2), some (pvI n3)]) (d1 := d) (rest := []) rfl rfl rfl rfl rfl (fun _ => rfl) (Nat.zero_le _) rfl rfl rfl (se_X6_append_102_x_x M hok n2 n3 b16_ b31_ d) (fun x43_ M44_ b45_ o46_ g47_ d42_ => ?_)
              have f48_ : pvFr fp_eX9_appendTold_0_102_x_x M M44_ := pvfr_t g47_ pvfr_0 fp_eX9_appendTold_0_102_x_x_fp_eX6_append_102_x_x
              obtain ⟨b49_, d50_⟩ := b45_
              subst d50_
              exact pw_ret hT rfl (r := some (pvI (if (M.1 102 0) < (Int32.ofNat 6) then ((M.1 102 0) + 1) else (M.1 102 0)))) (M' := M44_) ⟨rfl, rfl⟩ ⟨⟨_, rfl, (zr_wide b49_ (by decide) (by decide)), (by rw [if_neg c1_, if_neg c7_, if_neg c12_, if_neg c24_, if_neg c28_, if_pos c39_])⟩, o46_, f48_, (by rw [if_neg c1_, if_neg c7_, if_neg c12_, if_neg c24_, if_neg c28_, if_pos c39_]; exact d42_)⟩
            · refine pw_eqI (if_neg c39_) ?_
              have b51_ : 6 ≤ Int32.toInt (M.1 102 0) ∧ Int32.toInt (M.1 102 0) ≤ 6 := zr_nlt_l 6 c39_ b38_ (show 6 ≤ Int32.toInt (Int32.ofNat 6) ∧ Int32.toInt (Int32.ofNat 6) ≤ 6 from (by decide)) (by decide)
              show PW 168 d (41, [some (pvR 0), some (pvR 102), some (pvI n2), some (pvI n3)], [pvI 1], M) _
              refine pw_if hT (c := 1 = 0) rfl rfl (fun c52_ => absurd c52_ (by decide)) (fun c52_ => ?_)
              refine pw_blk hT 1 (S' := (46, [some (pvR 0), some (pvR 102), some (pvI n2), some (pvI n3)], [pvI (-4)], M)) rfl ⟨trivial, trivial⟩ ?_
              exact pw_ret hT rfl (r := some (pvI (-4))) (M' := M) ⟨rfl, rfl⟩ ⟨⟨_, rfl, (zr_wide (show (-4) ≤ Int32.toInt (-4) ∧ Int32.toInt (-4) ≤ (-4) from (by decide)) (by decide) (by decide)), (by rw [if_neg c1_, if_neg c7_, if_neg c12_, if_neg c24_, if_neg c28_, if_neg c39_])⟩, hok, pvfr_0, (by rw [if_neg c1_, if_neg c7_, if_neg c12_, if_neg c24_, if_neg c28_, if_neg c39_]; exact rfl)⟩
  · have b53_ : (-1) ≤ Int32.toInt n2 ∧ Int32.toInt n2 ≤ (-1) := (by have u0 := (zbnd n2); have u1 := (zi_eq _ _).mp c1_; have u2 := (show (-1) ≤ Int32.toInt (-1) ∧ Int32.toInt (-1) ≤ (-1) from (by decide)); omega)
    refine pw_blk hT 1 (S' := (6, [some (pvR 0), some (pvR 102), some (pvI n2), some (pvI n3)], [pvR 102], M)) rfl ⟨trivial, trivial⟩ ?_
    refine pw_callGd hT (as := [pvR 102]) (lo1 := [some (pvR 102)]) (d1 := d) (rest := []) rfl rfl rfl rfl rfl (fun _ => rfl) (Nat.zero_le _) rfl rfl rfl (se_X6_clear_102 M hok d) (fun x55_ M56_ b57_ o58_ g59_ d54_ => ?_)
    have f60_ : pvFr fp_eX9_appendTold_0_102_x_x M M56_ := pvfr_t g59_ pvfr_0 fp_eX9_appendTold_0_102_x_x_fp_eX6_clear_102
    obtain ⟨b61_, d62_⟩ := b57_
    subst d62_
    exact pw_ret hT rfl (r := some (pvI 0)) (M' := M56_) ⟨rfl, rfl⟩ ⟨⟨_, rfl, (zr_wide b61_ (by decide) (by decide)), (by rw [if_pos c1_])⟩, o58_, f60_, (by rw [if_pos c1_]; exact d54_)⟩
def fpL_eX9_see_0_x_x : List (Nat × Nat × Nat) := [(0, 102, 1), (0, 110, 0), (0, 118, 0)]
def fp_eX9_see_0_x_x (q k : Nat) : Bool := pvfp fpL_eX9_see_0_x_x q k
theorem fp_eX9_see_0_x_x_fp_eX9_appendTold_0_102_x_x (a b : Nat) (h : fp_eX9_appendTold_0_102_x_x a b = true) : fp_eX9_see_0_x_x a b = true := pvfp_sub (l1 := fpL_eX9_appendTold_0_102_x_x) (l2 := fpL_eX9_see_0_x_x) (by decide) a b h
set_option maxHeartbeats 4000000 in
set_option maxRecDepth 10000 in
theorem se_X9_see_0_x_x (M : pvM) (hok : pvOk M) (n1 : Int32) (n2 : Int32) (d : Nat) : PW 197 d (0, [some (pvR 0), some (pvI n1), some (pvI n2)], [], M) (fun r X => (∃ x : Int32, r = some (pvI x) ∧ ((-4) ≤ Int32.toInt x ∧ Int32.toInt x ≤ 6) ∧ x = (if n1 = (-1) then 0 else (if n1 < 0 then (-1) else (if (M.1 8 1) ≤ n1 then (-1) else (if n2 < 0 then (-2) else (if 9999 < n2 then (-2) else (if (M.1 102 0) < (Int32.ofNat 6) then (if (M.1 102 0) < (Int32.ofNat 6) then ((M.1 102 0) + 1) else (M.1 102 0)) else (-4)))))))) ∧ pvOk X ∧ pvFr fp_eX9_see_0_x_x M X ∧ X.1 102 0 = (if n1 = (-1) then 0 else (if n1 < 0 then (M.1 102 0) else (if (M.1 8 1) ≤ n1 then (M.1 102 0) else (if n2 < 0 then (M.1 102 0) else (if 9999 < n2 then (M.1 102 0) else (if (M.1 102 0) < (Int32.ofNat 6) then (if (M.1 102 0) < (Int32.ofNat 6) then ((M.1 102 0) + 1) else (M.1 102 0)) else (M.1 102 0)))))))) := by
  have hT : pvdom 197 = pvD_197 := rfl
  refine pw_blk hT 6 (S' := (10, [some (pvR 0), some (pvI n1), some (pvI n2)], [pvI n2, pvI n1, pvR 102, pvR 0], M)) rfl ⟨trivial, trivial, rfl, rfl, trivial, trivial, trivial⟩ ?_
  refine pw_callGd hT (as := [pvR 0, pvR 102, pvI n1, pvI n2]) (lo1 := [some (pvR 0), some (pvR 102), some (pvI n1), some (pvI n2)]) (d1 := d) (rest := []) rfl rfl rfl rfl rfl (fun _ => rfl) (Nat.zero_le _) rfl rfl rfl (se_X9_appendTold_0_102_x_x M hok n1 n2 d) (fun x2_ M3_ b4_ o5_ g6_ d1_ => ?_)
  have f7_ : pvFr fp_eX9_see_0_x_x M M3_ := pvfr_t g6_ pvfr_0 fp_eX9_see_0_x_x_fp_eX9_appendTold_0_102_x_x
  obtain ⟨b8_, d9_⟩ := b4_
  subst d9_
  exact pw_ret hT rfl (r := some (pvI (if n1 = (-1) then 0 else (if n1 < 0 then (-1) else (if (M.1 8 1) ≤ n1 then (-1) else (if n2 < 0 then (-2) else (if 9999 < n2 then (-2) else (if (M.1 102 0) < (Int32.ofNat 6) then (if (M.1 102 0) < (Int32.ofNat 6) then ((M.1 102 0) + 1) else (M.1 102 0)) else (-4))))))))) (M' := M3_) ⟨rfl, rfl⟩ ⟨⟨_, rfl, b8_, rfl⟩, o5_, f7_, d1_⟩
def fpL_eX9_storm_0_x_x : List (Nat × Nat × Nat) := [(0, 8, 3), (0, 8, 4)]
def fp_eX9_storm_0_x_x (q k : Nat) : Bool := pvfp fpL_eX9_storm_0_x_x q k
set_option maxHeartbeats 4000000 in
set_option maxRecDepth 10000 in
theorem se_X9_storm_0_x_x (M : pvM) (hok : pvOk M) (n1 : Int32) (n2 : Int32) (d : Nat) : PW 202 d (0, [some (pvR 0), some (pvI n1), some (pvI n2), none], [], M) (fun r X => (∃ x : Int32, r = some (pvI x) ∧ ((-2) ≤ Int32.toInt x ∧ Int32.toInt x ≤ 99) ∧ x = (if n2 < 0 then (-1) else (if 3 < n2 then (-1) else (if n1 < 0 then (-2) else (if 99 < n1 then (-2) else (M.1 8 2)))))) ∧ pvOk X ∧ pvFr fp_eX9_storm_0_x_x M X ∧ X.1 8 2 = (if n2 < 0 then (M.1 8 2) else (if 3 < n2 then (M.1 8 2) else (if n1 < 0 then (M.1 8 2) else (if 99 < n1 then (M.1 8 2) else n1)))) ∧ X.1 8 3 = (if n2 < 0 then (M.1 8 3) else (if 3 < n2 then (M.1 8 3) else (if n1 < 0 then (M.1 8 3) else (if 99 < n1 then (M.1 8 3) else n2))))) := by
  have hT : pvdom 202 = pvD_202 := rfl
  refine pw_blk hT 3 (S' := (3, [some (pvR 0), some (pvI n1), some (pvI n2), none], [pvI 3, pvI 0, pvI n2], M)) rfl ⟨trivial, trivial, trivial, trivial⟩ ?_
  refine pw_callT hT (as := [pvI n2, pvI 0, pvI 3]) (lo1 := [some (pvI n2), some (pvI 0), some (pvI 3)]) (d1 := d) (rest := []) rfl rfl rfl rfl rfl (fun h => absurd h (by decide)) (Nat.zero_le _) rfl rfl rfl (sf_X9_within_x_x_x M hok n2 0 3 d) ?_
  by_cases c6_ : n2 < 0
  · refine pw_eqI (if_pos c6_) ?_
    have b7_ : (-2147483648) ≤ Int32.toInt n2 ∧ Int32.toInt n2 ≤ (-1) := zr_lt_l (-1) c6_ (zbnd n2) (show 0 ≤ Int32.toInt 0 ∧ Int32.toInt 0 ≤ 0 from (by decide)) (by decide)
    show PW 202 d (6, [some (pvR 0), some (pvI n1), some (pvI n2), none], [pvI 0], M) _
    refine pw_ifn hT (c := 0 = 0) rfl rfl (fun c8_ => absurd (by decide) c8_) (fun c8_ => ?_)
    refine pw_blk hT 1 (S' := (10, [some (pvR 0), some (pvI n1), some (pvI n2), none], [pvI (-1)], M)) rfl ⟨trivial, trivial⟩ ?_
    exact pw_ret hT rfl (r := some (pvI (-1))) (M' := M) ⟨rfl, rfl⟩ ⟨⟨_, rfl, (zr_wide (show (-1) ≤ Int32.toInt (-1) ∧ Int32.toInt (-1) ≤ (-1) from (by decide)) (by decide) (by decide)), (by rw [if_pos c6_])⟩, hok, pvfr_0, (by rw [if_pos c6_]; exact rfl), (by rw [if_pos c6_]; exact rfl)⟩
  · refine pw_eqI (if_neg c6_) ?_
    have b9_ : 0 ≤ Int32.toInt n2 ∧ Int32.toInt n2 ≤ 2147483647 := zr_nlt_l 0 c6_ (zbnd n2) (show 0 ≤ Int32.toInt 0 ∧ Int32.toInt 0 ≤ 0 from (by decide)) (by decide)
    by_cases c10_ : 3 < n2
    · refine pw_eqI (if_pos c10_) ?_
      have b11_ : 4 ≤ Int32.toInt n2 ∧ Int32.toInt n2 ≤ 2147483647 := zr_lt_r 4 c10_ b9_ (show 3 ≤ Int32.toInt 3 ∧ Int32.toInt 3 ≤ 3 from (by decide)) (by decide)
      show PW 202 d (6, [some (pvR 0), some (pvI n1), some (pvI n2), none], [pvI 0], M) _
      refine pw_ifn hT (c := 0 = 0) rfl rfl (fun c12_ => absurd (by decide) c12_) (fun c12_ => ?_)
      refine pw_blk hT 1 (S' := (10, [some (pvR 0), some (pvI n1), some (pvI n2), none], [pvI (-1)], M)) rfl ⟨trivial, trivial⟩ ?_
      exact pw_ret hT rfl (r := some (pvI (-1))) (M' := M) ⟨rfl, rfl⟩ ⟨⟨_, rfl, (zr_wide (show (-1) ≤ Int32.toInt (-1) ∧ Int32.toInt (-1) ≤ (-1) from (by decide)) (by decide) (by decide)), (by rw [if_neg c6_, if_pos c10_])⟩, hok, pvfr_0, (by rw [if_neg c6_, if_pos c10_]; exact rfl), (by rw [if_neg c6_, if_pos c10_]; exact rfl)⟩
    · refine pw_eqI (if_neg c10_) ?_
      have b13_ : 0 ≤ Int32.toInt n2 ∧ Int32.toInt n2 ≤ 3 := zr_nlt_r 3 c10_ b9_ (show 3 ≤ Int32.toInt 3 ∧ Int32.toInt 3 ≤ 3 from (by decide)) (by decide)
      show PW 202 d (6, [some (pvR 0), some (pvI n1), some (pvI n2), none], [pvI 1], M) _
      refine pw_ifn hT (c := 1 = 0) rfl rfl (fun c14_ => ?_) (fun c14_ => absurd c14_ (by decide))
      refine pw_blk hT 3 (S' := (15, [some (pvR 0), some (pvI n1), some (pvI n2), none], [pvI 99, pvI 0, pvI n1], M)) rfl ⟨trivial, trivial, trivial, trivial⟩ ?_
      refine pw_callT hT (as := [pvI n1, pvI 0, pvI 99]) (lo1 := [some (pvI n1), some (pvI 0), some (pvI 99)]) (d1 := d) (rest := []) rfl rfl rfl rfl rfl (fun h => absurd h (by decide)) (Nat.zero_le _) rfl rfl rfl (sf_X9_within_x_x_x M hok n1 0 99 d) ?_
      by_cases c20_ : n1 < 0
      · refine pw_eqI (if_pos c20_) ?_
        have b21_ : (-2147483648) ≤ Int32.toInt n1 ∧ Int32.toInt n1 ≤ (-1) := zr_lt_l (-1) c20_ (zbnd n1) (show 0 ≤ Int32.toInt 0 ∧ Int32.toInt 0 ≤ 0 from (by decide)) (by decide)
        show PW 202 d (18, [some (pvR 0), some (pvI n1), some (pvI n2), none], [pvI 0], M) _
        refine pw_ifn hT (c := 0 = 0) rfl rfl (fun c22_ => absurd (by decide) c22_) (fun c22_ => ?_)
        refine pw_blk hT 1 (S' := (23, [some (pvR 0), some (pvI n1), some (pvI n2), none], [pvI (-2)], M)) rfl ⟨trivial, trivial⟩ ?_
        exact pw_ret hT rfl (r := some (pvI (-2))) (M' := M) ⟨rfl, rfl⟩ ⟨⟨_, rfl, (zr_wide (show (-2) ≤ Int32.toInt (-2) ∧ Int32.toInt (-2) ≤ (-2) from (by decide)) (by decide) (by decide)), (by rw [if_neg c6_, if_neg c10_, if_pos c20_])⟩, hok, pvfr_0, (by rw [if_neg c6_, if_neg c10_, if_pos c20_]; exact rfl), (by rw [if_neg c6_, if_neg c10_, if_pos c20_]; exact rfl)⟩
      · refine pw_eqI (if_neg c20_) ?_
        have b23_ : 0 ≤ Int32.toInt n1 ∧ Int32.toInt n1 ≤ 2147483647 := zr_nlt_l 0 c20_ (zbnd n1) (show 0 ≤ Int32.toInt 0 ∧ Int32.toInt 0 ≤ 0 from (by decide)) (by decide)
        by_cases c24_ : 99 < n1
        · refine pw_eqI (if_pos c24_) ?_
          have b25_ : 100 ≤ Int32.toInt n1 ∧ Int32.toInt n1 ≤ 2147483647 := zr_lt_r 100 c24_ b23_ (show 99 ≤ Int32.toInt 99 ∧ Int32.toInt 99 ≤ 99 from (by decide)) (by decide)
          show PW 202 d (18, [some (pvR 0), some (pvI n1), some (pvI n2), none], [pvI 0], M) _
          refine pw_ifn hT (c := 0 = 0) rfl rfl (fun c26_ => absurd (by decide) c26_) (fun c26_ => ?_)
          refine pw_blk hT 1 (S' := (23, [some (pvR 0), some (pvI n1), some (pvI n2), none], [pvI (-2)], M)) rfl ⟨trivial, trivial⟩ ?_
          exact pw_ret hT rfl (r := some (pvI (-2))) (M' := M) ⟨rfl, rfl⟩ ⟨⟨_, rfl, (zr_wide (show (-2) ≤ Int32.toInt (-2) ∧ Int32.toInt (-2) ≤ (-2) from (by decide)) (by decide) (by decide)), (by rw [if_neg c6_, if_neg c10_, if_neg c20_, if_pos c24_])⟩, hok, pvfr_0, (by rw [if_neg c6_, if_neg c10_, if_neg c20_, if_pos c24_]; exact rfl), (by rw [if_neg c6_, if_neg c10_, if_neg c20_, if_pos c24_]; exact rfl)⟩
        · refine pw_eqI (if_neg c24_) ?_
          have b27_ : 0 ≤ Int32.toInt n1 ∧ Int32.toInt n1 ≤ 99 := zr_nlt_r 99 c24_ b23_ (show 99 ≤ Int32.toInt 99 ∧ Int32.toInt 99 ≤ 99 from (by decide)) (by decide)
          show PW 202 d (18, [some (pvR 0), some (pvI n1), some (pvI n2), none], [pvI 1], M) _
          refine pw_ifn hT (c := 1 = 0) rfl rfl (fun c28_ => ?_) (fun c28_ => absurd c28_ (by decide))
          have b29_ : 0 ≤ Int32.toInt (M.1 8 2) ∧ Int32.toInt (M.1 8 2) ≤ 99 := pvok_r hok 8 2 rfl
          refine pw_blkw hT 8 (pc := 40) (lo := [some (pvR 0), some (pvI n1), some (pvI n2), some (pvI (M.1 8 2))]) (st := []) (M := pvu M 8 2 n1) rfl ⟨trivial, rfl, rfl, trivial, trivial, rfl, trivial, rfl, trivial⟩ (fun M30_ e31_ => ?_)
          have o32_ : pvOk M30_ := pvok_u2 e31_ hok rfl b27_
          have f33_ : pvFr fp_eX9_storm_0_x_x M M30_ := pvfr_u e31_ pvfr_0 rfl
          refine pw_blkw hT 4 (pc := 48) (lo := [some (pvR 0), some (pvI n1), some (pvI n2), some (pvI (M.1 8 2))]) (st := []) (M := pvu M30_ 8 3 n2) rfl ⟨trivial, rfl, trivial, rfl, trivial⟩ (fun M34_ e35_ => ?_)
          have o36_ : pvOk M34_ := pvok_u2 e35_ o32_ rfl b13_
          have f37_ : pvFr fp_eX9_storm_0_x_x M M34_ := pvfr_u e35_ f33_ rfl
          refine pw_blk hT 1 (S' := (49, [some (pvR 0), some (pvI n1), some (pvI n2), some (pvI (M.1 8 2))], [pvI (M.1 8 2)], M34_)) rfl ⟨trivial, trivial⟩ ?_
          exact pw_ret hT rfl (r := some (pvI (M.1 8 2))) (M' := M34_) ⟨rfl, rfl⟩ ⟨⟨_, rfl, (zr_wide b29_ (by decide) (by decide)), (by rw [if_neg c6_, if_neg c10_, if_neg c20_, if_neg c24_])⟩, o36_, f37_, (by rw [if_neg c6_, if_neg c10_, if_neg c20_, if_neg c24_]; exact ((pvu_n e35_ 8 2 (Or.inr (by decide))).trans (pvu_s e31_))), (by rw [if_neg c6_, if_neg c10_, if_neg c20_, if_neg c24_]; exact (pvu_s e35_))⟩
def fpL_eX9_tape_0_x_x_x : List (Nat × Nat × Nat) := [(1, 7, 1), (1, 7, 2)]
def fp_eX9_tape_0_x_x_x (q k : Nat) : Bool := pvfp fpL_eX9_tape_0_x_x_x q k
theorem fp_eX9_tape_0_x_x_x_fp_X8_become_x_x_x (a b : Nat) (h : fp_X8_become_x_x_x a b = true) : fp_eX9_tape_0_x_x_x a b = true := pvfp_sub (l1 := fpL_X8_become_x_x_x) (l2 := fpL_eX9_tape_0_x_x_x) (by decide) a b h
set_option maxHeartbeats 4000000 in
set_option maxRecDepth 10000 in
theorem se_X9_tape_0_x_x_x (M : pvM) (hok : pvOk M) (n1 : Int32) (n2 : Int32) (n3 : Int32) (d : Nat) : PW 204 d (0, [some (pvR 0), some (pvI n1), some (pvI n2), some (pvI n3)], [], M) (fun r X => (∃ x : Int32, r = some (pvI x) ∧ ((-14) ≤ Int32.toInt x ∧ Int32.toInt x ≤ 1) ∧ x = (if n1 < 0 then (-1) else (if 5 < n1 then (-1) else (if n2 = (-1) then 1 else (if n2 < 0 then (-2) else (if 4 < n2 then (-2) else (if n3 ≤ 60 then (if 0 ≤ n3 then 1 else (-14)) else (-2)))))))) ∧ pvOk X ∧ pvFr fp_eX9_tape_0_x_x_x M X) := by
  have hT : pvdom 204 = pvD_204 := rfl
  refine pw_blk hT 1 (S' := (1, [some (pvR 0), some (pvI n1), some (pvI n2), some (pvI n3)], [pvI n1], M)) rfl ⟨trivial, trivial⟩ ?_
  refine pw_callT hT (as := [pvI n1]) (lo1 := [some (pvI n1)]) (d1 := d) (rest := []) rfl rfl rfl rfl rfl (fun h => absurd h (by decide)) (Nat.zero_le _) rfl rfl rfl (sf_X9_isTape_x M hok n1 d) ?_
  by_cases c6_ : n1 < 0
  · refine pw_eqI (if_pos c6_) ?_
    have b7_ : (-2147483648) ≤ Int32.toInt n1 ∧ Int32.toInt n1 ≤ (-1) := zr_lt_l (-1) c6_ (zbnd n1) (show 0 ≤ Int32.toInt 0 ∧ Int32.toInt 0 ≤ 0 from (by decide)) (by decide)
    show PW 204 d (4, [some (pvR 0), some (pvI n1), some (pvI n2), some (pvI n3)], [pvI 0], M) _
    refine pw_ifn hT (c := 0 = 0) rfl rfl (fun c8_ => absurd (by decide) c8_) (fun c8_ => ?_)
    refine pw_blk hT 1 (S' := (8, [some (pvR 0), some (pvI n1), some (pvI n2), some (pvI n3)], [pvI (-1)], M)) rfl ⟨trivial, trivial⟩ ?_
    exact pw_ret hT rfl (r := some (pvI (-1))) (M' := M) ⟨rfl, rfl⟩ ⟨⟨_, rfl, (zr_wide (show (-1) ≤ Int32.toInt (-1) ∧ Int32.toInt (-1) ≤ (-1) from (by decide)) (by decide) (by decide)), (by rw [if_pos c6_])⟩, hok, pvfr_0⟩
  · refine pw_eqI (if_neg c6_) ?_
    have b9_ : 0 ≤ Int32.toInt n1 ∧ Int32.toInt n1 ≤ 2147483647 := zr_nlt_l 0 c6_ (zbnd n1) (show 0 ≤ Int32.toInt 0 ∧ Int32.toInt 0 ≤ 0 from (by decide)) (by decide)
    by_cases c10_ : 5 < n1
    · refine pw_eqI (if_pos c10_) ?_
      have b11_ : 6 ≤ Int32.toInt n1 ∧ Int32.toInt n1 ≤ 2147483647 := zr_lt_r 6 c10_ b9_ (show 5 ≤ Int32.toInt 5 ∧ Int32.toInt 5 ≤ 5 from (by decide)) (by decide)
      show PW 204 d (4, [some (pvR 0), some (pvI n1), some (pvI n2), some (pvI n3)], [pvI 0], M) _
      refine pw_ifn hT (c := 0 = 0) rfl rfl (fun c12_ => absurd (by decide) c12_) (fun c12_ => ?_)
      refine pw_blk hT 1 (S' := (8, [some (pvR 0), some (pvI n1), some (pvI n2), some (pvI n3)], [pvI (-1)], M)) rfl ⟨trivial, trivial⟩ ?_
      exact pw_ret hT rfl (r := some (pvI (-1))) (M' := M) ⟨rfl, rfl⟩ ⟨⟨_, rfl, (zr_wide (show (-1) ≤ Int32.toInt (-1) ∧ Int32.toInt (-1) ≤ (-1) from (by decide)) (by decide) (by decide)), (by rw [if_neg c6_, if_pos c10_])⟩, hok, pvfr_0⟩
    · refine pw_eqI (if_neg c10_) ?_
      have b13_ : 0 ≤ Int32.toInt n1 ∧ Int32.toInt n1 ≤ 5 := zr_nlt_r 5 c10_ b9_ (show 5 ≤ Int32.toInt 5 ∧ Int32.toInt 5 ≤ 5 from (by decide)) (by decide)
      show PW 204 d (4, [some (pvR 0), some (pvI n1), some (pvI n2), some (pvI n3)], [pvI 1], M) _
      refine pw_ifn hT (c := 1 = 0) rfl rfl (fun c14_ => ?_) (fun c14_ => absurd c14_ (by decide))
      refine pw_blk hT 2 (S' := (11, [some (pvR 0), some (pvI n1), some (pvI n2), some (pvI n3)], [pvI (-1), pvI n2], M)) rfl ⟨trivial, trivial, trivial⟩ ?_
      refine pw_icn hT (c := n2 = (-1)) rfl rfl (fun c15_ => ?_) (fun c15_ => ?_)
      · refine pw_blk hT 3 (S' := (30, [some (pvR 0), some (pvI n1), some (pvI n2), some (pvI n3)], [pvI 4, pvI 0, pvI n2], M)) rfl ⟨trivial, trivial, trivial, trivial⟩ ?_
        refine pw_callT hT (as := [pvI n2, pvI 0, pvI 4]) (lo1 := [some (pvI n2), some (pvI 0), some (pvI 4)]) (d1 := d) (rest := []) rfl rfl rfl rfl rfl (fun h => absurd h (by decide)) (Nat.zero_le _) rfl rfl rfl (sf_X9_within_x_x_x M hok n2 0 4 d) ?_
        by_cases c21_ : n2 < 0
        · refine pw_eqI (if_pos c21_) ?_
          have b22_ : (-2147483648) ≤ Int32.toInt n2 ∧ Int32.toInt n2 ≤ (-2) := (by have u0 := (zbnd n2); have u9 := (show _ ∧ _ from ⟨(zi_lt _ _).mp c21_, (show 0 ≤ Int32.toInt 0 ∧ Int32.toInt 0 ≤ 0 from (by decide))⟩); have v1 := (not_congr (zi_eq _ _)).mp c15_; have w1 : ((-1) : Int32).toInt = -1 := (by decide); omega)
          show PW 204 d (33, [some (pvR 0), some (pvI n1), some (pvI n2), some (pvI n3)], [pvI 0], M) _
          refine pw_if hT (c := 0 = 0) rfl rfl (fun c23_ => ?_) (fun c23_ => absurd (by decide) c23_)
          refine pw_blk hT 1 (S' := (44, [some (pvR 0), some (pvI n1), some (pvI n2), some (pvI n3)], [pvI (-2)], M)) rfl ⟨trivial, trivial⟩ ?_
          exact pw_ret hT rfl (r := some (pvI (-2))) (M' := M) ⟨rfl, rfl⟩ ⟨⟨_, rfl, (zr_wide (show (-2) ≤ Int32.toInt (-2) ∧ Int32.toInt (-2) ≤ (-2) from (by decide)) (by decide) (by decide)), (by rw [if_neg c6_, if_neg c10_, if_neg c15_, if_pos c21_])⟩, hok, pvfr_0⟩
        · refine pw_eqI (if_neg c21_) ?_
          have b24_ : 0 ≤ Int32.toInt n2 ∧ Int32.toInt n2 ≤ 2147483647 := zr_nlt_l 0 c21_ (zbnd n2) (show 0 ≤ Int32.toInt 0 ∧ Int32.toInt 0 ≤ 0 from (by decide)) (by decide)
          by_cases c25_ : 4 < n2
          · refine pw_eqI (if_pos c25_) ?_
            have b26_ : 5 ≤ Int32.toInt n2 ∧ Int32.toInt n2 ≤ 2147483647 := zr_lt_r 5 c25_ b24_ (show 4 ≤ Int32.toInt 4 ∧ Int32.toInt 4 ≤ 4 from (by decide)) (by decide)
            show PW 204 d (33, [some (pvR 0), some (pvI n1), some (pvI n2), some (pvI n3)], [pvI 0], M) _
            refine pw_if hT (c := 0 = 0) rfl rfl (fun c27_ => ?_) (fun c27_ => absurd (by decide) c27_)
            refine pw_blk hT 1 (S' := (44, [some (pvR 0), some (pvI n1), some (pvI n2), some (pvI n3)], [pvI (-2)], M)) rfl ⟨trivial, trivial⟩ ?_
            exact pw_ret hT rfl (r := some (pvI (-2))) (M' := M) ⟨rfl, rfl⟩ ⟨⟨_, rfl, (zr_wide (show (-2) ≤ Int32.toInt (-2) ∧ Int32.toInt (-2) ≤ (-2) from (by decide)) (by decide) (by decide)), (by rw [if_neg c6_, if_neg c10_, if_neg c15_, if_neg c21_, if_pos c25_])⟩, hok, pvfr_0⟩
          · refine pw_eqI (if_neg c25_) ?_
            have b28_ : 0 ≤ Int32.toInt n2 ∧ Int32.toInt n2 ≤ 4 := zr_nlt_r 4 c25_ b24_ (show 4 ≤ Int32.toInt 4 ∧ Int32.toInt 4 ≤ 4 from (by decide)) (by decide)
            show PW 204 d (33, [some (pvR 0), some (pvI n1), some (pvI n2), some (pvI n3)], [pvI 1], M) _
            refine pw_if hT (c := 1 = 0) rfl rfl (fun c29_ => absurd c29_ (by decide)) (fun c29_ => ?_)
            refine pw_blk hT 2 (S' := (39, [some (pvR 0), some (pvI n1), some (pvI n2), some (pvI n3)], [pvI 60, pvI n3], M)) rfl ⟨trivial, trivial, trivial⟩ ?_
            refine pw_ic hT (c := n3 ≤ 60) rfl rfl (fun c30_ => ?_) (fun c30_ => ?_)
            · have b31_ : (-2147483648) ≤ Int32.toInt n3 ∧ Int32.toInt n3 ≤ 60 := zr_le_l 60 c30_ (zbnd n3) (show 60 ≤ Int32.toInt 60 ∧ Int32.toInt 60 ≤ 60 from (by decide)) (by decide)
              refine pw_blk hT 1 (S' := (46, [some (pvR 0), some (pvI n1), some (pvI n2), some (pvI n3)], [pvI n3], M)) rfl ⟨trivial, trivial⟩ ?_
              refine pw_if hT (c := 0 ≤ n3) rfl rfl (fun c32_ => ?_) (fun c32_ => ?_)
              · have b33_ : 0 ≤ Int32.toInt n3 ∧ Int32.toInt n3 ≤ 60 := zr_le_r 0 c32_ b31_ (show 0 ≤ Int32.toInt 0 ∧ Int32.toInt 0 ≤ 0 from (by decide)) (by decide)
                refine pw_blkr hT 4 (pc := 58) (lo := [some (pvR 0), some (pvI n1), some (pvI n2), some (pvI n3)]) (st := []) (M := M) (z := (pvbs 2 + Int32.toNatClampNeg n1)) rfl ⟨trivial, rfl, trivial, ⟨rfl, (zr_in (n := 6) b13_ (by decide) (by decide))⟩, trivial⟩ (fun q34_ e36_ => ?_)
                have k35_ : pvkl q34_ = 7 := pvel_2 (zr_in (n := 6) b13_ (by decide) (by decide)) e36_
                refine pw_blk hT 2 (S' := (60, [some (pvR 0), some (pvI n1), some (pvI n2), some (pvI n3)], [pvI n3, pvI n2, pvR q34_], M)) rfl ⟨trivial, trivial, trivial⟩ ?_
                refine pw_callV hT (as := [pvR q34_, pvI n2, pvI n3]) (lo1 := [some (pvR q34_), some (pvI n2), some (pvI n3), none]) (d1 := d) (rest := []) rfl rfl rfl rfl rfl (fun _ => k35_) (Nat.zero_le _) rfl rfl rfl (sf_X8_become_x_x_x M hok q34_ n2 n3 k35_ (zr_wide b28_ (by decide) (by decide)) d) (fun M38_ o40_ g41_ => ?_)
                have f42_ : pvFr fp_eX9_tape_0_x_x_x M M38_ := pvfr_t g41_ pvfr_0 fp_eX9_tape_0_x_x_x_fp_X8_become_x_x_x
                refine pw_blk hT 1 (S' := (64, [some (pvR 0), some (pvI n1), some (pvI n2), some (pvI n3)], [pvI 1], M38_)) rfl ⟨trivial, trivial⟩ ?_
                exact pw_ret hT rfl (r := some (pvI 1)) (M' := M38_) ⟨rfl, rfl⟩ ⟨⟨_, rfl, (zr_wide (show 1 ≤ Int32.toInt 1 ∧ Int32.toInt 1 ≤ 1 from (by decide)) (by decide) (by decide)), (by rw [if_neg c6_, if_neg c10_, if_neg c15_, if_neg c21_, if_neg c25_, if_pos c30_, if_pos c32_])⟩, o40_, f42_⟩
              · have b43_ : (-2147483648) ≤ Int32.toInt n3 ∧ Int32.toInt n3 ≤ (-1) := zr_nle_r (-1) c32_ b31_ (show 0 ≤ Int32.toInt 0 ∧ Int32.toInt 0 ≤ 0 from (by decide)) (by decide)
                refine pw_blk hT 1 (S' := (51, [some (pvR 0), some (pvI n1), some (pvI n2), some (pvI n3)], [pvI (-14)], M)) rfl ⟨trivial, trivial⟩ ?_
                exact pw_ret hT rfl (r := some (pvI (-14))) (M' := M) ⟨rfl, rfl⟩ ⟨⟨_, rfl, (zr_wide (show (-14) ≤ Int32.toInt (-14) ∧ Int32.toInt (-14) ≤ (-14) from (by decide)) (by decide) (by decide)), (by rw [if_neg c6_, if_neg c10_, if_neg c15_, if_neg c21_, if_neg c25_, if_pos c30_, if_neg c32_])⟩, hok, pvfr_0⟩
            · have b44_ : 61 ≤ Int32.toInt n3 ∧ Int32.toInt n3 ≤ 2147483647 := zr_nle_l 61 c30_ (zbnd n3) (show 60 ≤ Int32.toInt 60 ∧ Int32.toInt 60 ≤ 60 from (by decide)) (by decide)
              refine pw_blk hT 1 (S' := (44, [some (pvR 0), some (pvI n1), some (pvI n2), some (pvI n3)], [pvI (-2)], M)) rfl ⟨trivial, trivial⟩ ?_
              exact pw_ret hT rfl (r := some (pvI (-2))) (M' := M) ⟨rfl, rfl⟩ ⟨⟨_, rfl, (zr_wide (show (-2) ≤ Int32.toInt (-2) ∧ Int32.toInt (-2) ≤ (-2) from (by decide)) (by decide) (by decide)), (by rw [if_neg c6_, if_neg c10_, if_neg c15_, if_neg c21_, if_neg c25_, if_neg c30_])⟩, hok, pvfr_0⟩
      · have b45_ : (-1) ≤ Int32.toInt n2 ∧ Int32.toInt n2 ≤ (-1) := (by have u0 := (zbnd n2); have u1 := (zi_eq _ _).mp c15_; have u2 := (show (-1) ≤ Int32.toInt (-1) ∧ Int32.toInt (-1) ≤ (-1) from (by decide)); omega)
        refine pw_blkr hT 4 (pc := 20) (lo := [some (pvR 0), some (pvI n1), some (pvI n2), some (pvI n3)]) (st := []) (M := M) (z := (pvbs 2 + Int32.toNatClampNeg n1)) rfl ⟨trivial, rfl, trivial, ⟨rfl, (zr_in (n := 6) b13_ (by decide) (by decide))⟩, trivial⟩ (fun q46_ e48_ => ?_)
        have k47_ : pvkl q46_ = 7 := pvel_2 (zr_in (n := 6) b13_ (by decide) (by decide)) e48_
        refine pw_blk hT 2 (S' := (22, [some (pvR 0), some (pvI n1), some (pvI n2), some (pvI n3)], [pvI 0, pvI (-1), pvR q46_], M)) rfl ⟨trivial, trivial, trivial⟩ ?_
        refine pw_callV hT (as := [pvR q46_, pvI (-1), pvI 0]) (lo1 := [some (pvR q46_), some (pvI (-1)), some (pvI 0), none]) (d1 := d) (rest := []) rfl rfl rfl rfl rfl (fun _ => k47_) (Nat.zero_le _) rfl rfl rfl (sf_X8_become_x_x_x M hok q46_ (-1) 0 k47_ (zr_wide (show (-1) ≤ Int32.toInt (-1) ∧ Int32.toInt (-1) ≤ (-1) from (by decide)) (by decide) (by decide)) d) (fun M50_ o52_ g53_ => ?_)
        have f54_ : pvFr fp_eX9_tape_0_x_x_x M M50_ := pvfr_t g53_ pvfr_0 fp_eX9_tape_0_x_x_x_fp_X8_become_x_x_x
        refine pw_blk hT 1 (S' := (26, [some (pvR 0), some (pvI n1), some (pvI n2), some (pvI n3)], [pvI 1], M50_)) rfl ⟨trivial, trivial⟩ ?_
        exact pw_ret hT rfl (r := some (pvI 1)) (M' := M50_) ⟨rfl, rfl⟩ ⟨⟨_, rfl, (zr_wide (show 1 ≤ Int32.toInt 1 ∧ Int32.toInt 1 ≤ 1 from (by decide)) (by decide) (by decide)), (by rw [if_neg c6_, if_neg c10_, if_pos c15_])⟩, o52_, f54_⟩
def fpL_eX6_becomeAs_100_101 : List (Nat × Nat × Nat) := [(0, 100, 1), (0, 108, 0), (0, 116, 0)]
def fp_eX6_becomeAs_100_101 (q k : Nat) : Bool := pvfp fpL_eX6_becomeAs_100_101 q k
theorem fp_eX6_becomeAs_100_101_fp_eX6_append_100_x_x (a b : Nat) (h : fp_eX6_append_100_x_x a b = true) : fp_eX6_becomeAs_100_101 a b = true := pvfp_sub (l1 := fpL_eX6_append_100_x_x) (l2 := fpL_eX6_becomeAs_100_101) (by decide) a b h
theorem fp_eX6_becomeAs_100_101_fp_eX6_clear_100 (a b : Nat) (h : fp_eX6_clear_100 a b = true) : fp_eX6_becomeAs_100_101 a b = true := pvfp_sub (l1 := fpL_eX6_clear_100) (l2 := fpL_eX6_becomeAs_100_101) (by decide) a b h
set_option maxHeartbeats 4000000 in
set_option maxRecDepth 10000 in
theorem se_X6_becomeAs_100_101 (M : pvM) (hok : pvOk M) (d : Nat) : PW 152 d (0, [some (pvR 100), some (pvR 101), none], [], M) (fun r X => r = none ∧ pvOk X ∧ pvFr fp_eX6_becomeAs_100_101 M X ∧ X.1 100 0 = (M.1 101 0)) := by
  have hT : pvdom 152 = pvD_152 := rfl
  refine pw_blk hT 1 (S' := (1, [some (pvR 100), some (pvR 101), none], [pvR 100], M)) rfl ⟨trivial, trivial⟩ ?_
  refine pw_callGd hT (as := [pvR 100]) (lo1 := [some (pvR 100)]) (d1 := d) (rest := []) rfl rfl rfl rfl rfl (fun _ => rfl) (Nat.zero_le _) rfl rfl rfl (se_X6_clear_100 M hok d) (fun x2_ M3_ b4_ o5_ g6_ d1_ => ?_)
  have f7_ : pvFr fp_eX6_becomeAs_100_101 M M3_ := pvfr_t g6_ pvfr_0 fp_eX6_becomeAs_100_101_fp_eX6_clear_100
  obtain ⟨b8_, d9_⟩ := b4_
  subst d9_
  refine pw_blk hT 3 (S' := (7, [some (pvR 100), some (pvR 101), some (pvI 0)], [], M3_)) rfl ⟨trivial, trivial, trivial, trivial⟩ ?_
  have hlz90_ : ∀ (nz90_ : Nat) (i2z90_ : Int32) (Mz90_ : pvM), (pvOk Mz90_) → (pvFr fp_eX6_becomeAs_100_101 M Mz90_) → (0 ≤ Int32.toInt i2z90_ ∧ Int32.toInt i2z90_ ≤ 7) → (Mz90_.1 100 0 = i2z90_) → (Int32.toInt i2z90_ ≤ Int32.toInt (Mz90_.1 101 0)) → (zhide ((8 - Int32.toInt i2z90_).toNat < nz90_)) → PW 152 d (7, [some (pvR 100), some (pvR 101), some (pvI i2z90_)], [], Mz90_) (fun r X => r = none ∧ pvOk X ∧ pvFr fp_eX6_becomeAs_100_101 M X ∧ X.1 100 0 = (M.1 101 0)) := by
    intro nz90_
    induction nz90_ with
    | zero => intro i2z90_ Mz90_ oz90_ fz90_ h2z90_ j0z90_ j1z90_ hmz90_; exact absurd (zshow hmz90_) (Nat.not_lt_zero _)
    | succ nz90_ ihz90_ =>
      intro i2z90_ Mz90_ oz90_ fz90_ h2z90_ j0z90_ j1z90_ hmz90_
      have b91_ : 0 ≤ Int32.toInt (Mz90_.1 101 0) ∧ Int32.toInt (Mz90_.1 101 0) ≤ 7 := pvok_r oz90_ 101 0 rfl
      refine pw_blk hT 3 (S' := (12, [some (pvR 100), some (pvR 101), some (pvI i2z90_)], [pvI (Mz90_.1 101 0), pvI i2z90_], Mz90_)) rfl ⟨trivial, trivial, rfl, trivial⟩ ?_
      refine pw_ic hT (c := (Mz90_.1 101 0) ≤ i2z90_) rfl rfl (fun c92_ => ?_) (fun c92_ => ?_)
      · have d93_ : Int32.toInt (Mz90_.1 101 0) ≤ Int32.toInt i2z90_ := (zi_le _ _).mp c92_
        exact pw_ret hT rfl (r := none) (M' := Mz90_) ⟨rfl, rfl⟩ ⟨rfl, oz90_, fz90_, (Int32.toInt_inj.mp (by have z3 : Mz90_.1 101 0 = M.1 101 0 := fz90_ 101 0 rfl; have z4 := congrArg Int32.toInt z3; have z5 := congrArg Int32.toInt j0z90_; omega))⟩
      · have b94_ : 1 ≤ Int32.toInt (Mz90_.1 101 0) ∧ Int32.toInt (Mz90_.1 101 0) ≤ 7 := zr_nle_l 1 c92_ b91_ h2z90_ (by decide)
        have b95_ : 0 ≤ Int32.toInt i2z90_ ∧ Int32.toInt i2z90_ ≤ 6 := zr_nle_r 6 c92_ h2z90_ b94_ (by decide)
        have d96_ : Int32.toInt (Mz90_.1 101 0) > Int32.toInt i2z90_ := Int.not_le.mp ((not_congr (zi_le _ _)).mp c92_)
        have b97_ : 0 ≤ Int32.toInt (Mz90_.1 109 (Int32.toNatClampNeg i2z90_)) ∧ Int32.toInt (Mz90_.1 109 (Int32.toNatClampNeg i2z90_)) ≤ 6 := pvok_r oz90_ 109 (Int32.toNatClampNeg i2z90_) rfl
        have b98_ : 0 ≤ Int32.toInt (Mz90_.1 117 (Int32.toNatClampNeg i2z90_)) ∧ Int32.toInt (Mz90_.1 117 (Int32.toNatClampNeg i2z90_)) ≤ 9999 := pvok_r oz90_ 117 (Int32.toNatClampNeg i2z90_) rfl
        refine pw_blk hT 9 (S' := (28, [some (pvR 100), some (pvR 101), some (pvI i2z90_)], [pvI (Mz90_.1 117 (Int32.toNatClampNeg i2z90_)), pvI (Mz90_.1 109 (Int32.toNatClampNeg i2z90_)), pvR 100], Mz90_)) rfl ⟨trivial, trivial, rfl, trivial, ⟨rfl, (zr_in (n := 7) b95_ (by decide) (by decide))⟩, trivial, rfl, trivial, ⟨rfl, (zr_in (n := 7) b95_ (by decide) (by decide))⟩, trivial⟩ ?_
        refine pw_callGd hT (as := [pvR 100, pvI (Mz90_.1 109 (Int32.toNatClampNeg i2z90_)), pvI (Mz90_.1 117 (Int32.toNatClampNeg i2z90_))]) (lo1 := [some (pvR 100), some (pvI (Mz90_.1 109 (Int32.toNatClampNeg i2z90_))), some (pvI (Mz90_.1 117 (Int32.toNatClampNeg i2z90_)))]) (d1 := d) (rest := []) rfl rfl rfl rfl rfl (fun _ => rfl) (Nat.zero_le _) rfl rfl rfl (se_X6_append_100_x_x Mz90_ oz90_ (Mz90_.1 109 (Int32.toNatClampNeg i2z90_)) (Mz90_.1 117 (Int32.toNatClampNeg i2z90_)) b97_ b98_ d) (fun x100_ M101_ b102_ o103_ g104_ d99_ => ?_)
        have f105_ : pvFr fp_eX6_becomeAs_100_101 M M101_ := pvfr_t g104_ fz90_ fp_eX6_becomeAs_100_101_fp_eX6_append_100_x_x
        obtain ⟨b106_, d107_⟩ := b102_
        subst d107_
        obtain ⟨q109_, b108_⟩ : (Int32.toInt (i2z90_ + 1) = Int32.toInt i2z90_ + 1) ∧ (1 ≤ Int32.toInt (i2z90_ + 1) ∧ Int32.toInt (i2z90_ + 1) ≤ 7) := zadd_k i2z90_ 1 1 1 7 b95_ (by decide) (by decide) (by decide) (by decide) (by decide)
        refine pw_blk hT 3 (S' := (7, [some (pvR 100), some (pvR 101), some (pvI (i2z90_ + 1))], [], M101_)) rfl ⟨trivial, trivial, trivial, trivial⟩ ?_
        have j110_ : M101_.1 100 0 = (i2z90_ + 1) := (by have z1 : Int32.toInt (Int32.ofNat 7) = 7 := (by decide); have z2 := pvok_r oz90_ 101 0 rfl; have z3 : Mz90_.1 101 0 = M.1 101 0 := fz90_ 101 0 rfl; have z4 := congrArg Int32.toInt z3; rw [d99_, j0z90_, if_pos ((zi_lt _ _).mpr (by omega))])
        have j111_ : Int32.toInt (i2z90_ + 1) ≤ Int32.toInt (M101_.1 101 0) := by omega
        exact ihz90_ (i2z90_ + 1) M101_ o103_ f105_ (zr_wide b108_ (by decide) (by decide)) j110_ j111_ (zhid (pvms_up (zshow hmz90_) h2z90_ q109_ (by decide) (by decide)))
  have u112_ : Int32.toInt 0 = 0 := by decide
  have j113_ : M3_.1 100 0 = 0 := d1_
  have j114_ : Int32.toInt 0 ≤ Int32.toInt (M3_.1 101 0) := by omega
  exact hlz90_ _ 0 M3_ o5_ f7_ (zr_wide (show 0 ≤ Int32.toInt 0 ∧ Int32.toInt 0 ≤ 0 from (by decide)) (by decide) (by decide)) j113_ j114_ (zhid (Nat.lt_succ_self _))
def fpL_eX6_becomeAs_102_103 : List (Nat × Nat × Nat) := [(0, 102, 1), (0, 110, 0), (0, 118, 0)]
def fp_eX6_becomeAs_102_103 (q k : Nat) : Bool := pvfp fpL_eX6_becomeAs_102_103 q k
theorem fp_eX6_becomeAs_102_103_fp_eX6_append_102_x_x (a b : Nat) (h : fp_eX6_append_102_x_x a b = true) : fp_eX6_becomeAs_102_103 a b = true := pvfp_sub (l1 := fpL_eX6_append_102_x_x) (l2 := fpL_eX6_becomeAs_102_103) (by decide) a b h
theorem fp_eX6_becomeAs_102_103_fp_eX6_clear_102 (a b : Nat) (h : fp_eX6_clear_102 a b = true) : fp_eX6_becomeAs_102_103 a b = true := pvfp_sub (l1 := fpL_eX6_clear_102) (l2 := fpL_eX6_becomeAs_102_103) (by decide) a b h
set_option maxHeartbeats 4000000 in
set_option maxRecDepth 10000 in
theorem se_X6_becomeAs_102_103 (M : pvM) (hok : pvOk M) (d : Nat) : PW 152 d (0, [some (pvR 102), some (pvR 103), none], [], M) (fun r X => r = none ∧ pvOk X ∧ pvFr fp_eX6_becomeAs_102_103 M X ∧ X.1 102 0 = (M.1 103 0)) := by
  have hT : pvdom 152 = pvD_152 := rfl
  refine pw_blk hT 1 (S' := (1, [some (pvR 102), some (pvR 103), none], [pvR 102], M)) rfl ⟨trivial, trivial⟩ ?_
  refine pw_callGd hT (as := [pvR 102]) (lo1 := [some (pvR 102)]) (d1 := d) (rest := []) rfl rfl rfl rfl rfl (fun _ => rfl) (Nat.zero_le _) rfl rfl rfl (se_X6_clear_102 M hok d) (fun x2_ M3_ b4_ o5_ g6_ d1_ => ?_)
  have f7_ : pvFr fp_eX6_becomeAs_102_103 M M3_ := pvfr_t g6_ pvfr_0 fp_eX6_becomeAs_102_103_fp_eX6_clear_102
  obtain ⟨b8_, d9_⟩ := b4_
  subst d9_
  refine pw_blk hT 3 (S' := (7, [some (pvR 102), some (pvR 103), some (pvI 0)], [], M3_)) rfl ⟨trivial, trivial, trivial, trivial⟩ ?_
  have hlz90_ : ∀ (nz90_ : Nat) (i2z90_ : Int32) (Mz90_ : pvM), (pvOk Mz90_) → (pvFr fp_eX6_becomeAs_102_103 M Mz90_) → (0 ≤ Int32.toInt i2z90_ ∧ Int32.toInt i2z90_ ≤ 6) → (Mz90_.1 102 0 = i2z90_) → (Int32.toInt i2z90_ ≤ Int32.toInt (Mz90_.1 103 0)) → (zhide ((7 - Int32.toInt i2z90_).toNat < nz90_)) → PW 152 d (7, [some (pvR 102), some (pvR 103), some (pvI i2z90_)], [], Mz90_) (fun r X => r = none ∧ pvOk X ∧ pvFr fp_eX6_becomeAs_102_103 M X ∧ X.1 102 0 = (M.1 103 0)) := by
    intro nz90_
    induction nz90_ with
    | zero => intro i2z90_ Mz90_ oz90_ fz90_ h2z90_ j0z90_ j1z90_ hmz90_; exact absurd (zshow hmz90_) (Nat.not_lt_zero _)
    | succ nz90_ ihz90_ =>
      intro i2z90_ Mz90_ oz90_ fz90_ h2z90_ j0z90_ j1z90_ hmz90_
      have b91_ : 0 ≤ Int32.toInt (Mz90_.1 103 0) ∧ Int32.toInt (Mz90_.1 103 0) ≤ 6 := pvok_r oz90_ 103 0 rfl
      refine pw_blk hT 3 (S' := (12, [some (pvR 102), some (pvR 103), some (pvI i2z90_)], [pvI (Mz90_.1 103 0), pvI i2z90_], Mz90_)) rfl ⟨trivial, trivial, rfl, trivial⟩ ?_
      refine pw_ic hT (c := (Mz90_.1 103 0) ≤ i2z90_) rfl rfl (fun c92_ => ?_) (fun c92_ => ?_)
      · have d93_ : Int32.toInt (Mz90_.1 103 0) ≤ Int32.toInt i2z90_ := (zi_le _ _).mp c92_
        exact pw_ret hT rfl (r := none) (M' := Mz90_) ⟨rfl, rfl⟩ ⟨rfl, oz90_, fz90_, (Int32.toInt_inj.mp (by have z3 : Mz90_.1 103 0 = M.1 103 0 := fz90_ 103 0 rfl; have z4 := congrArg Int32.toInt z3; have z5 := congrArg Int32.toInt j0z90_; omega))⟩
      · have b94_ : 1 ≤ Int32.toInt (Mz90_.1 103 0) ∧ Int32.toInt (Mz90_.1 103 0) ≤ 6 := zr_nle_l 1 c92_ b91_ h2z90_ (by decide)
        have b95_ : 0 ≤ Int32.toInt i2z90_ ∧ Int32.toInt i2z90_ ≤ 5 := zr_nle_r 5 c92_ h2z90_ b94_ (by decide)
        have d96_ : Int32.toInt (Mz90_.1 103 0) > Int32.toInt i2z90_ := Int.not_le.mp ((not_congr (zi_le _ _)).mp c92_)
        have b97_ : 0 ≤ Int32.toInt (Mz90_.1 111 (Int32.toNatClampNeg i2z90_)) ∧ Int32.toInt (Mz90_.1 111 (Int32.toNatClampNeg i2z90_)) ≤ 6 := pvok_r oz90_ 111 (Int32.toNatClampNeg i2z90_) rfl
        have b98_ : 0 ≤ Int32.toInt (Mz90_.1 119 (Int32.toNatClampNeg i2z90_)) ∧ Int32.toInt (Mz90_.1 119 (Int32.toNatClampNeg i2z90_)) ≤ 9999 := pvok_r oz90_ 119 (Int32.toNatClampNeg i2z90_) rfl
        refine pw_blk hT 9 (S' := (28, [some (pvR 102), some (pvR 103), some (pvI i2z90_)], [pvI (Mz90_.1 119 (Int32.toNatClampNeg i2z90_)), pvI (Mz90_.1 111 (Int32.toNatClampNeg i2z90_)), pvR 102], Mz90_)) rfl ⟨trivial, trivial, rfl, trivial, ⟨rfl, (zr_in (n := 6) b95_ (by decide) (by decide))⟩, trivial, rfl, trivial, ⟨rfl, (zr_in (n := 6) b95_ (by decide) (by decide))⟩, trivial⟩ ?_
        refine pw_callGd hT (as := [pvR 102, pvI (Mz90_.1 111 (Int32.toNatClampNeg i2z90_)), pvI (Mz90_.1 119 (Int32.toNatClampNeg i2z90_))]) (lo1 := [some (pvR 102), some (pvI (Mz90_.1 111 (Int32.toNatClampNeg i2z90_))), some (pvI (Mz90_.1 119 (Int32.toNatClampNeg i2z90_)))]) (d1 := d) (rest := []) rfl rfl rfl rfl rfl (fun _ => rfl) (Nat.zero_le _) rfl rfl rfl (se_X6_append_102_x_x Mz90_ oz90_ (Mz90_.1 111 (Int32.toNatClampNeg i2z90_)) (Mz90_.1 119 (Int32.toNatClampNeg i2z90_)) b97_ b98_ d) (fun x100_ M101_ b102_ o103_ g104_ d99_ => ?_)
        have f105_ : pvFr fp_eX6_becomeAs_102_103 M M101_ := pvfr_t g104_ fz90_ fp_eX6_becomeAs_102_103_fp_eX6_append_102_x_x
        obtain ⟨b106_, d107_⟩ := b102_
        subst d107_
        obtain ⟨q109_, b108_⟩ : (Int32.toInt (i2z90_ + 1) = Int32.toInt i2z90_ + 1) ∧ (1 ≤ Int32.toInt (i2z90_ + 1) ∧ Int32.toInt (i2z90_ + 1) ≤ 6) := zadd_k i2z90_ 1 1 1 6 b95_ (by decide) (by decide) (by decide) (by decide) (by decide)
        refine pw_blk hT 3 (S' := (7, [some (pvR 102), some (pvR 103), some (pvI (i2z90_ + 1))], [], M101_)) rfl ⟨trivial, trivial, trivial, trivial⟩ ?_
        have j110_ : M101_.1 102 0 = (i2z90_ + 1) := (by have z1 : Int32.toInt (Int32.ofNat 6) = 6 := (by decide); have z2 := pvok_r oz90_ 103 0 rfl; have z3 : Mz90_.1 103 0 = M.1 103 0 := fz90_ 103 0 rfl; have z4 := congrArg Int32.toInt z3; rw [d99_, j0z90_, if_pos ((zi_lt _ _).mpr (by omega))])
        have j111_ : Int32.toInt (i2z90_ + 1) ≤ Int32.toInt (M101_.1 103 0) := by omega
        exact ihz90_ (i2z90_ + 1) M101_ o103_ f105_ (zr_wide b108_ (by decide) (by decide)) j110_ j111_ (zhid (pvms_up (zshow hmz90_) h2z90_ q109_ (by decide) (by decide)))
  have u112_ : Int32.toInt 0 = 0 := by decide
  have j113_ : M3_.1 102 0 = 0 := d1_
  have j114_ : Int32.toInt 0 ≤ Int32.toInt (M3_.1 103 0) := by omega
  exact hlz90_ _ 0 M3_ o5_ f7_ (zr_wide (show 0 ≤ Int32.toInt 0 ∧ Int32.toInt 0 ≤ 0 from (by decide)) (by decide) (by decide)) j113_ j114_ (zhid (Nat.lt_succ_self _))
def fpL_eX6_becomeAs_104_105 : List (Nat × Nat × Nat) := [(0, 104, 1), (0, 112, 0), (0, 120, 0)]
def fp_eX6_becomeAs_104_105 (q k : Nat) : Bool := pvfp fpL_eX6_becomeAs_104_105 q k
theorem fp_eX6_becomeAs_104_105_fp_eX6_append_104_x_x (a b : Nat) (h : fp_eX6_append_104_x_x a b = true) : fp_eX6_becomeAs_104_105 a b = true := pvfp_sub (l1 := fpL_eX6_append_104_x_x) (l2 := fpL_eX6_becomeAs_104_105) (by decide) a b h
theorem fp_eX6_becomeAs_104_105_fp_eX6_clear_104 (a b : Nat) (h : fp_eX6_clear_104 a b = true) : fp_eX6_becomeAs_104_105 a b = true := pvfp_sub (l1 := fpL_eX6_clear_104) (l2 := fpL_eX6_becomeAs_104_105) (by decide) a b h
set_option maxHeartbeats 4000000 in
set_option maxRecDepth 10000 in
theorem se_X6_becomeAs_104_105 (M : pvM) (hok : pvOk M) (d : Nat) : PW 152 d (0, [some (pvR 104), some (pvR 105), none], [], M) (fun r X => r = none ∧ pvOk X ∧ pvFr fp_eX6_becomeAs_104_105 M X ∧ X.1 104 0 = (M.1 105 0)) := by
  have hT : pvdom 152 = pvD_152 := rfl
  refine pw_blk hT 1 (S' := (1, [some (pvR 104), some (pvR 105), none], [pvR 104], M)) rfl ⟨trivial, trivial⟩ ?_
  refine pw_callGd hT (as := [pvR 104]) (lo1 := [some (pvR 104)]) (d1 := d) (rest := []) rfl rfl rfl rfl rfl (fun _ => rfl) (Nat.zero_le _) rfl rfl rfl (se_X6_clear_104 M hok d) (fun x2_ M3_ b4_ o5_ g6_ d1_ => ?_)
  have f7_ : pvFr fp_eX6_becomeAs_104_105 M M3_ := pvfr_t g6_ pvfr_0 fp_eX6_becomeAs_104_105_fp_eX6_clear_104
  obtain ⟨b8_, d9_⟩ := b4_
  subst d9_
  refine pw_blk hT 3 (S' := (7, [some (pvR 104), some (pvR 105), some (pvI 0)], [], M3_)) rfl ⟨trivial, trivial, trivial, trivial⟩ ?_
  have hlz90_ : ∀ (nz90_ : Nat) (i2z90_ : Int32) (Mz90_ : pvM), (pvOk Mz90_) → (pvFr fp_eX6_becomeAs_104_105 M Mz90_) → (0 ≤ Int32.toInt i2z90_ ∧ Int32.toInt i2z90_ ≤ 8) → (Mz90_.1 104 0 = i2z90_) → (Int32.toInt i2z90_ ≤ Int32.toInt (Mz90_.1 105 0)) → (zhide ((9 - Int32.toInt i2z90_).toNat < nz90_)) → PW 152 d (7, [some (pvR 104), some (pvR 105), some (pvI i2z90_)], [], Mz90_) (fun r X => r = none ∧ pvOk X ∧ pvFr fp_eX6_becomeAs_104_105 M X ∧ X.1 104 0 = (M.1 105 0)) := by
    intro nz90_
    induction nz90_ with
    | zero => intro i2z90_ Mz90_ oz90_ fz90_ h2z90_ j0z90_ j1z90_ hmz90_; exact absurd (zshow hmz90_) (Nat.not_lt_zero _)
    | succ nz90_ ihz90_ =>
      intro i2z90_ Mz90_ oz90_ fz90_ h2z90_ j0z90_ j1z90_ hmz90_
      have b91_ : 0 ≤ Int32.toInt (Mz90_.1 105 0) ∧ Int32.toInt (Mz90_.1 105 0) ≤ 8 := pvok_r oz90_ 105 0 rfl
      refine pw_blk hT 3 (S' := (12, [some (pvR 104), some (pvR 105), some (pvI i2z90_)], [pvI (Mz90_.1 105 0), pvI i2z90_], Mz90_)) rfl ⟨trivial, trivial, rfl, trivial⟩ ?_
      refine pw_ic hT (c := (Mz90_.1 105 0) ≤ i2z90_) rfl rfl (fun c92_ => ?_) (fun c92_ => ?_)
      · have d93_ : Int32.toInt (Mz90_.1 105 0) ≤ Int32.toInt i2z90_ := (zi_le _ _).mp c92_
        exact pw_ret hT rfl (r := none) (M' := Mz90_) ⟨rfl, rfl⟩ ⟨rfl, oz90_, fz90_, (Int32.toInt_inj.mp (by have z3 : Mz90_.1 105 0 = M.1 105 0 := fz90_ 105 0 rfl; have z4 := congrArg Int32.toInt z3; have z5 := congrArg Int32.toInt j0z90_; omega))⟩
      · have b94_ : 1 ≤ Int32.toInt (Mz90_.1 105 0) ∧ Int32.toInt (Mz90_.1 105 0) ≤ 8 := zr_nle_l 1 c92_ b91_ h2z90_ (by decide)
        have b95_ : 0 ≤ Int32.toInt i2z90_ ∧ Int32.toInt i2z90_ ≤ 7 := zr_nle_r 7 c92_ h2z90_ b94_ (by decide)
        have d96_ : Int32.toInt (Mz90_.1 105 0) > Int32.toInt i2z90_ := Int.not_le.mp ((not_congr (zi_le _ _)).mp c92_)
        have b97_ : 0 ≤ Int32.toInt (Mz90_.1 113 (Int32.toNatClampNeg i2z90_)) ∧ Int32.toInt (Mz90_.1 113 (Int32.toNatClampNeg i2z90_)) ≤ 6 := pvok_r oz90_ 113 (Int32.toNatClampNeg i2z90_) rfl
        have b98_ : 0 ≤ Int32.toInt (Mz90_.1 121 (Int32.toNatClampNeg i2z90_)) ∧ Int32.toInt (Mz90_.1 121 (Int32.toNatClampNeg i2z90_)) ≤ 9999 := pvok_r oz90_ 121 (Int32.toNatClampNeg i2z90_) rfl
        refine pw_blk hT 9 (S' := (28, [some (pvR 104), some (pvR 105), some (pvI i2z90_)], [pvI (Mz90_.1 121 (Int32.toNatClampNeg i2z90_)), pvI (Mz90_.1 113 (Int32.toNatClampNeg i2z90_)), pvR 104], Mz90_)) rfl ⟨trivial, trivial, rfl, trivial, ⟨rfl, (zr_in (n := 8) b95_ (by decide) (by decide))⟩, trivial, rfl, trivial, ⟨rfl, (zr_in (n := 8) b95_ (by decide) (by decide))⟩, trivial⟩ ?_
        refine pw_callGd hT (as := [pvR 104, pvI (Mz90_.1 113 (Int32.toNatClampNeg i2z90_)), pvI (Mz90_.1 121 (Int32.toNatClampNeg i2z90_))]) (lo1 := [some (pvR 104), some (pvI (Mz90_.1 113 (Int32.toNatClampNeg i2z90_))), some (pvI (Mz90_.1 121 (Int32.toNatClampNeg i2z90_)))]) (d1 := d) (rest := []) rfl rfl rfl rfl rfl (fun _ => rfl) (Nat.zero_le _) rfl rfl rfl (se_X6_append_104_x_x Mz90_ oz90_ (Mz90_.1 113 (Int32.toNatClampNeg i2z90_)) (Mz90_.1 121 (Int32.toNatClampNeg i2z90_)) b97_ b98_ d) (fun x100_ M101_ b102_ o103_ g104_ d99_ => ?_)
        have f105_ : pvFr fp_eX6_becomeAs_104_105 M M101_ := pvfr_t g104_ fz90_ fp_eX6_becomeAs_104_105_fp_eX6_append_104_x_x
        obtain ⟨b106_, d107_⟩ := b102_
        subst d107_
        obtain ⟨q109_, b108_⟩ : (Int32.toInt (i2z90_ + 1) = Int32.toInt i2z90_ + 1) ∧ (1 ≤ Int32.toInt (i2z90_ + 1) ∧ Int32.toInt (i2z90_ + 1) ≤ 8) := zadd_k i2z90_ 1 1 1 8 b95_ (by decide) (by decide) (by decide) (by decide) (by decide)
        refine pw_blk hT 3 (S' := (7, [some (pvR 104), some (pvR 105), some (pvI (i2z90_ + 1))], [], M101_)) rfl ⟨trivial, trivial, trivial, trivial⟩ ?_
        have j110_ : M101_.1 104 0 = (i2z90_ + 1) := (by have z1 : Int32.toInt (Int32.ofNat 8) = 8 := (by decide); have z2 := pvok_r oz90_ 105 0 rfl; have z3 : Mz90_.1 105 0 = M.1 105 0 := fz90_ 105 0 rfl; have z4 := congrArg Int32.toInt z3; rw [d99_, j0z90_, if_pos ((zi_lt _ _).mpr (by omega))])
        have j111_ : Int32.toInt (i2z90_ + 1) ≤ Int32.toInt (M101_.1 105 0) := by omega
        exact ihz90_ (i2z90_ + 1) M101_ o103_ f105_ (zr_wide b108_ (by decide) (by decide)) j110_ j111_ (zhid (pvms_up (zshow hmz90_) h2z90_ q109_ (by decide) (by decide)))
  have u112_ : Int32.toInt 0 = 0 := by decide
  have j113_ : M3_.1 104 0 = 0 := d1_
  have j114_ : Int32.toInt 0 ≤ Int32.toInt (M3_.1 105 0) := by omega
  exact hlz90_ _ 0 M3_ o5_ f7_ (zr_wide (show 0 ≤ Int32.toInt 0 ∧ Int32.toInt 0 ≤ 0 from (by decide)) (by decide) (by decide)) j113_ j114_ (zhid (Nat.lt_succ_self _))
def fpL_eX7_becomeAs_8_9 : List (Nat × Nat × Nat) := [(0, 100, 1), (0, 102, 1), (0, 104, 1), (0, 108, 0), (0, 110, 0), (0, 112, 0), (0, 116, 0), (0, 118, 0), (0, 120, 0), (0, 8, 2), (0, 8, 3), (0, 8, 4), (0, 8, 5), (0, 8, 6), (0, 8, 7), (0, 8, 8), (0, 8, 9), (1, 113, 0), (1, 3, 1), (1, 3, 2), (1, 3, 3), (1, 3, 4), (1, 3, 5), (1, 3, 6)]
def fp_eX7_becomeAs_8_9 (q k : Nat) : Bool := pvfp fpL_eX7_becomeAs_8_9 q k
theorem fp_eX7_becomeAs_8_9_fp_X4_becomeAs_x_x (a b : Nat) (h : fp_X4_becomeAs_x_x a b = true) : fp_eX7_becomeAs_8_9 a b = true := pvfp_sub (l1 := fpL_X4_becomeAs_x_x) (l2 := fpL_eX7_becomeAs_8_9) (by decide) a b h
theorem fp_eX7_becomeAs_8_9_fp_eX6_becomeAs_100_101 (a b : Nat) (h : fp_eX6_becomeAs_100_101 a b = true) : fp_eX7_becomeAs_8_9 a b = true := pvfp_sub (l1 := fpL_eX6_becomeAs_100_101) (l2 := fpL_eX7_becomeAs_8_9) (by decide) a b h
theorem fp_eX7_becomeAs_8_9_fp_eX6_becomeAs_102_103 (a b : Nat) (h : fp_eX6_becomeAs_102_103 a b = true) : fp_eX7_becomeAs_8_9 a b = true := pvfp_sub (l1 := fpL_eX6_becomeAs_102_103) (l2 := fpL_eX7_becomeAs_8_9) (by decide) a b h
theorem fp_eX7_becomeAs_8_9_fp_eX6_becomeAs_104_105 (a b : Nat) (h : fp_eX6_becomeAs_104_105 a b = true) : fp_eX7_becomeAs_8_9 a b = true := pvfp_sub (l1 := fpL_eX6_becomeAs_104_105) (l2 := fpL_eX7_becomeAs_8_9) (by decide) a b h
set_option maxHeartbeats 4000000 in
set_option maxRecDepth 10000 in
theorem se_X7_becomeAs_8_9 (M : pvM) (hok : pvOk M) (d : Nat) : PW 158 d (0, [some (pvR 8), some (pvR 9), none], [], M) (fun r X => r = none ∧ pvOk X ∧ pvFr fp_eX7_becomeAs_8_9 M X ∧ X.1 8 1 = (M.1 9 1) ∧ X.1 8 2 = (M.1 9 2) ∧ X.1 8 3 = (M.1 9 3) ∧ X.1 102 0 = (M.1 103 0) ∧ X.1 104 0 = (M.1 105 0)) := by
  have hT : pvdom 158 = pvD_158 := rfl
  have b1_ : 0 ≤ Int32.toInt (M.1 9 1) ∧ Int32.toInt (M.1 9 1) ≤ 7 := pvok_r hok 9 1 rfl
  refine pw_blkw hT 4 (pc := 8) (lo := [some (pvR 8), some (pvR 9), none]) (st := []) (M := pvu M 8 1 (M.1 9 1)) rfl ⟨trivial, trivial, rfl, rfl, trivial⟩ (fun M2_ e3_ => ?_)
  have o4_ : pvOk M2_ := pvok_u2 e3_ hok rfl b1_
  have f5_ : pvFr fp_eX7_becomeAs_8_9 M M2_ := pvfr_u e3_ pvfr_0 rfl
  refine pw_blk hT 2 (S' := (10, [some (pvR 8), some (pvR 9), some (pvI 0)], [], M2_)) rfl ⟨trivial, trivial, trivial⟩ ?_
  have hlz322_ : ∀ (nz322_ : Nat) (i2z322_ : Int32) (Mz322_ : pvM), (pvOk Mz322_) → (pvFr fp_eX7_becomeAs_8_9 M Mz322_) → (0 ≤ Int32.toInt i2z322_ ∧ Int32.toInt i2z322_ ≤ 7) → (Mz322_.1 8 1 = (M.1 9 1)) → (zhide ((8 - Int32.toInt i2z322_).toNat < nz322_)) → PW 158 d (10, [some (pvR 8), some (pvR 9), some (pvI i2z322_)], [], Mz322_) (fun r X => r = none ∧ pvOk X ∧ pvFr fp_eX7_becomeAs_8_9 M X ∧ X.1 8 1 = (M.1 9 1) ∧ X.1 8 2 = (M.1 9 2) ∧ X.1 8 3 = (M.1 9 3) ∧ X.1 102 0 = (M.1 103 0) ∧ X.1 104 0 = (M.1 105 0)) := by
    intro nz322_
    induction nz322_ with
    | zero => intro i2z322_ Mz322_ oz322_ fz322_ h2z322_ j0z322_ hmz322_; exact absurd (zshow hmz322_) (Nat.not_lt_zero _)
    | succ nz322_ ihz322_ =>
      intro i2z322_ Mz322_ oz322_ fz322_ h2z322_ j0z322_ hmz322_
      have b323_ : 0 ≤ Int32.toInt (Mz322_.1 8 1) ∧ Int32.toInt (Mz322_.1 8 1) ≤ 7 := pvok_r oz322_ 8 1 rfl
      refine pw_blk hT 3 (S' := (15, [some (pvR 8), some (pvR 9), some (pvI i2z322_)], [pvI (Mz322_.1 8 1), pvI i2z322_], Mz322_)) rfl ⟨trivial, trivial, rfl, trivial⟩ ?_
      refine pw_ic hT (c := (Mz322_.1 8 1) ≤ i2z322_) rfl rfl (fun c324_ => ?_) (fun c324_ => ?_)
      · have d325_ : Int32.toInt (Mz322_.1 8 1) ≤ Int32.toInt i2z322_ := (zi_le _ _).mp c324_
        have b326_ : 0 ≤ Int32.toInt (Mz322_.1 9 2) ∧ Int32.toInt (Mz322_.1 9 2) ≤ 99 := pvok_r oz322_ 9 2 rfl
        refine pw_blkw hT 4 (pc := 47) (lo := [some (pvR 8), some (pvR 9), some (pvI i2z322_)]) (st := []) (M := pvu Mz322_ 8 2 (Mz322_.1 9 2)) rfl ⟨trivial, trivial, rfl, rfl, trivial⟩ (fun M327_ e328_ => ?_)
        have o329_ : pvOk M327_ := pvok_u2 e328_ oz322_ rfl b326_
        have f330_ : pvFr fp_eX7_becomeAs_8_9 M M327_ := pvfr_u e328_ fz322_ rfl
        have b331_ : 0 ≤ Int32.toInt (M327_.1 9 3) ∧ Int32.toInt (M327_.1 9 3) ≤ 3 := pvok_r o329_ 9 3 rfl
        refine pw_blkw hT 4 (pc := 55) (lo := [some (pvR 8), some (pvR 9), some (pvI i2z322_)]) (st := []) (M := pvu M327_ 8 3 (M327_.1 9 3)) rfl ⟨trivial, trivial, rfl, rfl, trivial⟩ (fun M332_ e333_ => ?_)
        have o334_ : pvOk M332_ := pvok_u2 e333_ o329_ rfl b331_
        have f335_ : pvFr fp_eX7_becomeAs_8_9 M M332_ := pvfr_u e333_ f330_ rfl
        have b336_ : 0 ≤ Int32.toInt (M332_.1 9 4) ∧ Int32.toInt (M332_.1 9 4) ≤ 9999 := pvok_r o334_ 9 4 rfl
        refine pw_blkw hT 4 (pc := 63) (lo := [some (pvR 8), some (pvR 9), some (pvI i2z322_)]) (st := []) (M := pvu M332_ 8 4 (M332_.1 9 4)) rfl ⟨trivial, trivial, rfl, rfl, trivial⟩ (fun M337_ e338_ => ?_)
        have o339_ : pvOk M337_ := pvok_u2 e338_ o334_ rfl b336_
        have f340_ : pvFr fp_eX7_becomeAs_8_9 M M337_ := pvfr_u e338_ f335_ rfl
        refine pw_blkw hT 4 (pc := 71) (lo := [some (pvR 8), some (pvR 9), some (pvI i2z322_)]) (st := []) (M := pvu M337_ 8 5 (M337_.1 9 5)) rfl ⟨trivial, trivial, rfl, rfl, trivial⟩ (fun M341_ e342_ => ?_)
        have o343_ : pvOk M341_ := pvok_u2 e342_ o339_ rfl (zbnd (M337_.1 9 5))
        have f344_ : pvFr fp_eX7_becomeAs_8_9 M M341_ := pvfr_u e342_ f340_ rfl
        have b345_ : 0 ≤ Int32.toInt (M341_.1 9 6) ∧ Int32.toInt (M341_.1 9 6) ≤ 3 := pvok_r o343_ 9 6 rfl
        refine pw_blkw hT 4 (pc := 79) (lo := [some (pvR 8), some (pvR 9), some (pvI i2z322_)]) (st := []) (M := pvu M341_ 8 6 (M341_.1 9 6)) rfl ⟨trivial, trivial, rfl, rfl, trivial⟩ (fun M346_ e347_ => ?_)
        have o348_ : pvOk M346_ := pvok_u2 e347_ o343_ rfl b345_
        have f349_ : pvFr fp_eX7_becomeAs_8_9 M M346_ := pvfr_u e347_ f344_ rfl
        have b350_ : 0 ≤ Int32.toInt (M346_.1 9 7) ∧ Int32.toInt (M346_.1 9 7) ≤ 4 := pvok_r o348_ 9 7 rfl
        refine pw_blkw hT 4 (pc := 87) (lo := [some (pvR 8), some (pvR 9), some (pvI i2z322_)]) (st := []) (M := pvu M346_ 8 7 (M346_.1 9 7)) rfl ⟨trivial, trivial, rfl, rfl, trivial⟩ (fun M351_ e352_ => ?_)
        have o353_ : pvOk M351_ := pvok_u2 e352_ o348_ rfl b350_
        have f354_ : pvFr fp_eX7_becomeAs_8_9 M M351_ := pvfr_u e352_ f349_ rfl
        have b355_ : 15 ≤ Int32.toInt (M351_.1 9 8) ∧ Int32.toInt (M351_.1 9 8) ≤ 23 := pvok_r o353_ 9 8 rfl
        refine pw_blkr hT 3 (pc := 92) (lo := [some (pvR 8), some (pvR 9), some (pvI i2z322_)]) (st := [pvR 8]) (M := M351_) (z := (pvhp (M351_.1 9 8))) rfl ⟨trivial, trivial, rfl, trivial⟩ (fun q356_ e358_ => ?_)
        have k357_ : pvkl q356_ = 2 := pvhp_k b355_ e358_
        refine pw_blkw hT 1 (pc := 95) (lo := [some (pvR 8), some (pvR 9), some (pvI i2z322_)]) (st := []) (M := pvu M351_ 8 8 (nI q356_)) rfl ⟨⟨rfl, k357_⟩, trivial⟩ (fun M359_ e360_ => ?_)
        have o361_ : pvOk M359_ := pvok_u2 e360_ o353_ rfl (pvhp_r k357_)
        have f362_ : pvFr fp_eX7_becomeAs_8_9 M M359_ := pvfr_u e360_ f354_ rfl
        refine pw_blk hT 4 (S' := (103, [some (pvR 8), some (pvR 9), some (pvI i2z322_)], [pvR 101, pvR 100], M359_)) rfl ⟨trivial, rfl, trivial, rfl, trivial⟩ ?_
        refine pw_callVd hT (as := [pvR 100, pvR 101]) (lo1 := [some (pvR 100), some (pvR 101), none]) (d1 := d) (rest := []) rfl rfl rfl rfl rfl (fun _ => rfl) (Nat.zero_le _) rfl rfl rfl (se_X6_becomeAs_100_101 M359_ o361_ d) (fun M365_ o367_ g368_ d363_ => ?_)
        have f369_ : pvFr fp_eX7_becomeAs_8_9 M M365_ := pvfr_t g368_ f362_ fp_eX7_becomeAs_8_9_fp_eX6_becomeAs_100_101
        refine pw_blk hT 4 (S' := (114, [some (pvR 8), some (pvR 9), some (pvI i2z322_)], [pvR 103, pvR 102], M365_)) rfl ⟨trivial, rfl, trivial, rfl, trivial⟩ ?_
        refine pw_callVd hT (as := [pvR 102, pvR 103]) (lo1 := [some (pvR 102), some (pvR 103), none]) (d1 := d) (rest := []) rfl rfl rfl rfl rfl (fun _ => rfl) (Nat.zero_le _) rfl rfl rfl (se_X6_becomeAs_102_103 M365_ o367_ d) (fun M372_ o374_ g375_ d370_ => ?_)
        have f376_ : pvFr fp_eX7_becomeAs_8_9 M M372_ := pvfr_t g375_ f369_ fp_eX7_becomeAs_8_9_fp_eX6_becomeAs_102_103
        refine pw_blk hT 4 (S' := (125, [some (pvR 8), some (pvR 9), some (pvI i2z322_)], [pvR 105, pvR 104], M372_)) rfl ⟨trivial, rfl, trivial, rfl, trivial⟩ ?_
        refine pw_callVd hT (as := [pvR 104, pvR 105]) (lo1 := [some (pvR 104), some (pvR 105), none]) (d1 := d) (rest := []) rfl rfl rfl rfl rfl (fun _ => rfl) (Nat.zero_le _) rfl rfl rfl (se_X6_becomeAs_104_105 M372_ o374_ d) (fun M379_ o381_ g382_ d377_ => ?_)
        have f383_ : pvFr fp_eX7_becomeAs_8_9 M M379_ := pvfr_t g382_ f376_ fp_eX7_becomeAs_8_9_fp_eX6_becomeAs_104_105
        exact pw_ret hT rfl (r := none) (M' := M379_) ⟨rfl, rfl⟩ ⟨rfl, o381_, f383_, (((((((((((g382_ 8 1 rfl).trans (g375_ 8 1 rfl)).trans (g368_ 8 1 rfl)).trans (pvu_n e360_ 8 1 (Or.inr (by decide)))).trans (pvu_n e352_ 8 1 (Or.inr (by decide)))).trans (pvu_n e347_ 8 1 (Or.inr (by decide)))).trans (pvu_n e342_ 8 1 (Or.inr (by decide)))).trans (pvu_n e338_ 8 1 (Or.inr (by decide)))).trans (pvu_n e333_ 8 1 (Or.inr (by decide)))).trans (pvu_n e328_ 8 1 (Or.inr (by decide)))).trans (j0z322_)), (((((((((((g382_ 8 2 rfl).trans (g375_ 8 2 rfl)).trans (g368_ 8 2 rfl)).trans (pvu_n e360_ 8 2 (Or.inr (by decide)))).trans (pvu_n e352_ 8 2 (Or.inr (by decide)))).trans (pvu_n e347_ 8 2 (Or.inr (by decide)))).trans (pvu_n e342_ 8 2 (Or.inr (by decide)))).trans (pvu_n e338_ 8 2 (Or.inr (by decide)))).trans (pvu_n e333_ 8 2 (Or.inr (by decide)))).trans (pvu_s e328_)).trans (fz322_ 9 2 rfl)), ((((((((((g382_ 8 3 rfl).trans (g375_ 8 3 rfl)).trans (g368_ 8 3 rfl)).trans (pvu_n e360_ 8 3 (Or.inr (by decide)))).trans (pvu_n e352_ 8 3 (Or.inr (by decide)))).trans (pvu_n e347_ 8 3 (Or.inr (by decide)))).trans (pvu_n e342_ 8 3 (Or.inr (by decide)))).trans (pvu_n e338_ 8 3 (Or.inr (by decide)))).trans (pvu_s e333_)).trans ((pvu_n e328_ 9 3 (Or.inl (by decide))).trans (fz322_ 9 3 rfl))), (((g382_ 102 0 rfl).trans (d370_)).trans (((((((((g368_ 103 0 rfl).trans (pvu_n e360_ 103 0 (Or.inl (by decide)))).trans (pvu_n e352_ 103 0 (Or.inl (by decide)))).trans (pvu_n e347_ 103 0 (Or.inl (by decide)))).trans (pvu_n e342_ 103 0 (Or.inl (by decide)))).trans (pvu_n e338_ 103 0 (Or.inl (by decide)))).trans (pvu_n e333_ 103 0 (Or.inl (by decide)))).trans (pvu_n e328_ 103 0 (Or.inl (by decide)))).trans (fz322_ 103 0 rfl))), (d377_.trans ((((((((((g375_ 105 0 rfl).trans (g368_ 105 0 rfl)).trans (pvu_n e360_ 105 0 (Or.inl (by decide)))).trans (pvu_n e352_ 105 0 (Or.inl (by decide)))).trans (pvu_n e347_ 105 0 (Or.inl (by decide)))).trans (pvu_n e342_ 105 0 (Or.inl (by decide)))).trans (pvu_n e338_ 105 0 (Or.inl (by decide)))).trans (pvu_n e333_ 105 0 (Or.inl (by decide)))).trans (pvu_n e328_ 105 0 (Or.inl (by decide)))).trans (fz322_ 105 0 rfl)))⟩
      · have b384_ : 1 ≤ Int32.toInt (Mz322_.1 8 1) ∧ Int32.toInt (Mz322_.1 8 1) ≤ 7 := zr_nle_l 1 c324_ b323_ h2z322_ (by decide)
        have b385_ : 0 ≤ Int32.toInt i2z322_ ∧ Int32.toInt i2z322_ ≤ 6 := zr_nle_r 6 c324_ h2z322_ b384_ (by decide)
        have d386_ : Int32.toInt (Mz322_.1 8 1) > Int32.toInt i2z322_ := Int.not_le.mp ((not_congr (zi_le _ _)).mp c324_)
        refine pw_blkr hT 4 (pc := 24) (lo := [some (pvR 8), some (pvR 9), some (pvI i2z322_)]) (st := []) (M := Mz322_) (z := (pvbs 10 + Int32.toNatClampNeg i2z322_)) rfl ⟨trivial, rfl, trivial, ⟨rfl, (zr_in (n := 7) b385_ (by decide) (by decide))⟩, trivial⟩ (fun q387_ e389_ => ?_)
        have k388_ : pvkl q387_ = 3 := pvel_10 (zr_in (n := 7) b385_ (by decide) (by decide)) e389_
        refine pw_blkr hT 4 (pc := 30) (lo := [some (pvR 8), some (pvR 9), some (pvI i2z322_)]) (st := [pvR q387_]) (M := Mz322_) (z := (pvbs 11 + Int32.toNatClampNeg i2z322_)) rfl ⟨trivial, rfl, trivial, ⟨rfl, (zr_in (n := 7) b385_ (by decide) (by decide))⟩, trivial⟩ (fun q390_ e392_ => ?_)
        have k391_ : pvkl q390_ = 3 := pvel_11 (zr_in (n := 7) b385_ (by decide) (by decide)) e392_
        refine pw_callV hT (as := [pvR q387_, pvR q390_]) (lo1 := [some (pvR q387_), some (pvR q390_)]) (d1 := d) (rest := []) rfl rfl rfl rfl rfl (fun _ => k388_) (Nat.zero_le _) rfl rfl rfl (sf_X4_becomeAs_x_x Mz322_ oz322_ q387_ q390_ k388_ k391_ d) (fun M394_ o396_ g397_ => ?_)
        have f398_ : pvFr fp_eX7_becomeAs_8_9 M M394_ := pvfr_t g397_ fz322_ fp_eX7_becomeAs_8_9_fp_X4_becomeAs_x_x
        obtain ⟨q400_, b399_⟩ : (Int32.toInt (i2z322_ + 1) = Int32.toInt i2z322_ + 1) ∧ (1 ≤ Int32.toInt (i2z322_ + 1) ∧ Int32.toInt (i2z322_ + 1) ≤ 7) := zadd_k i2z322_ 1 1 1 7 b385_ (by decide) (by decide) (by decide) (by decide) (by decide)
        refine pw_blk hT 2 (S' := (10, [some (pvR 8), some (pvR 9), some (pvI (i2z322_ + 1))], [], M394_)) rfl ⟨trivial, trivial, trivial⟩ ?_
        have j401_ : M394_.1 8 1 = (M.1 9 1) := ((g397_ 8 1 rfl).trans (j0z322_))
        exact ihz322_ (i2z322_ + 1) M394_ o396_ f398_ (zr_wide b399_ (by decide) (by decide)) j401_ (zhid (pvms_up (zshow hmz322_) h2z322_ q400_ (by decide) (by decide)))
  have u402_ : Int32.toInt 0 = 0 := by decide
  have j403_ : M2_.1 8 1 = (M.1 9 1) := (pvu_s e3_)
  exact hlz322_ _ 0 M2_ o4_ f5_ (zr_wide (show 0 ≤ Int32.toInt 0 ∧ Int32.toInt 0 ≤ 0 from (by decide)) (by decide) (by decide)) j403_ (zhid (Nat.lt_succ_self _))
def fpL_eX9_undo_0 : List (Nat × Nat × Nat) := [(0, 100, 1), (0, 102, 1), (0, 104, 1), (0, 108, 0), (0, 110, 0), (0, 112, 0), (0, 116, 0), (0, 118, 0), (0, 120, 0), (0, 14, 0), (0, 8, 2), (0, 8, 3), (0, 8, 4), (0, 8, 5), (0, 8, 6), (0, 8, 7), (0, 8, 8), (0, 8, 9), (1, 113, 0), (1, 3, 1), (1, 3, 2), (1, 3, 3), (1, 3, 4), (1, 3, 5), (1, 3, 6)]
def fp_eX9_undo_0 (q k : Nat) : Bool := pvfp fpL_eX9_undo_0 q k
theorem fp_eX9_undo_0_fp_X1_forget_5 (a b : Nat) (h : fp_X1_forget_5 a b = true) : fp_eX9_undo_0 a b = true := pvfp_sub (l1 := fpL_X1_forget_5) (l2 := fpL_eX9_undo_0) (by decide) a b h
theorem fp_eX9_undo_0_fp_eX7_becomeAs_8_9 (a b : Nat) (h : fp_eX7_becomeAs_8_9 a b = true) : fp_eX9_undo_0 a b = true := pvfp_sub (l1 := fpL_eX7_becomeAs_8_9) (l2 := fpL_eX9_undo_0) (by decide) a b h
set_option maxHeartbeats 4000000 in
set_option maxRecDepth 10000 in
theorem se_X9_undo_0 (M : pvM) (hok : pvOk M) (d : Nat) : PW 208 d (0, [some (pvR 0)], [], M) (fun r X => (∃ x : Int32, r = some (pvI x) ∧ ((-3) ≤ Int32.toInt x ∧ Int32.toInt x ≤ 7) ∧ x = (if (M.1 0 5) = 0 then (-3) else (M.1 9 1))) ∧ pvOk X ∧ pvFr fp_eX9_undo_0 M X ∧ X.1 8 1 = (if (M.1 0 5) = 0 then (M.1 8 1) else (M.1 9 1)) ∧ X.1 8 2 = (if (M.1 0 5) = 0 then (M.1 8 2) else (M.1 9 2)) ∧ X.1 8 3 = (if (M.1 0 5) = 0 then (M.1 8 3) else (M.1 9 3)) ∧ X.1 102 0 = (if (M.1 0 5) = 0 then (M.1 102 0) else (M.1 103 0)) ∧ X.1 104 0 = (if (M.1 0 5) = 0 then (M.1 104 0) else (M.1 105 0))) := by
  have hT : pvdom 208 = pvD_208 := rfl
  have b1_ : 0 ≤ Int32.toInt (M.1 0 5) ∧ Int32.toInt (M.1 0 5) ≤ 1 := pvok_r hok 0 5 rfl
  refine pw_blk hT 2 (S' := (4, [some (pvR 0)], [pvI (M.1 0 5)], M)) rfl ⟨trivial, rfl, trivial⟩ ?_
  refine pw_ifn hT (c := (M.1 0 5) = 0) rfl rfl (fun c2_ => ?_) (fun c2_ => ?_)
  · have b3_ : 1 ≤ Int32.toInt (M.1 0 5) ∧ Int32.toInt (M.1 0 5) ≤ 1 := (by have u0 := b1_; have u1 := (not_congr (zi_eq _ _)).mp c2_; have u2 := (show 0 ≤ Int32.toInt 0 ∧ Int32.toInt 0 ≤ 0 from (by decide)); omega)
    refine pw_blk hT 4 (S' := (18, [some (pvR 0)], [pvR 9, pvR 8], M)) rfl ⟨trivial, rfl, trivial, rfl, trivial⟩ ?_
    refine pw_callVd hT (as := [pvR 8, pvR 9]) (lo1 := [some (pvR 8), some (pvR 9), none]) (d1 := d) (rest := []) rfl rfl rfl rfl rfl (fun _ => rfl) (Nat.zero_le _) rfl rfl rfl (se_X7_becomeAs_8_9 M hok d) (fun M6_ o8_ g9_ d4_ => ?_)
    have f10_ : pvFr fp_eX9_undo_0 M M6_ := pvfr_t g9_ pvfr_0 fp_eX9_undo_0_fp_eX7_becomeAs_8_9
    refine pw_blk hT 2 (S' := (25, [some (pvR 0)], [pvR 5], M6_)) rfl ⟨trivial, rfl, trivial⟩ ?_
    refine pw_callV hT (as := [pvR 5]) (lo1 := [some (pvR 5), none]) (d1 := d) (rest := []) rfl rfl rfl rfl rfl (fun _ => rfl) (Nat.zero_le _) rfl rfl rfl (sf_X1_forget_5 M6_ o8_ d) (fun M12_ o14_ g15_ => ?_)
    have f16_ : pvFr fp_eX9_undo_0 M M12_ := pvfr_t g15_ f10_ fp_eX9_undo_0_fp_X1_forget_5
    have b17_ : 0 ≤ Int32.toInt (M12_.1 8 1) ∧ Int32.toInt (M12_.1 8 1) ≤ 7 := pvok_r o14_ 8 1 rfl
    refine pw_blk hT 3 (S' := (35, [some (pvR 0)], [pvI (M12_.1 8 1)], M12_)) rfl ⟨trivial, rfl, rfl, trivial⟩ ?_
    exact pw_ret hT rfl (r := some (pvI (M12_.1 8 1))) (M' := M12_) ⟨rfl, rfl⟩ ⟨⟨_, rfl, (zr_wide b17_ (by decide) (by decide)), (by rw [if_neg c2_]; exact (show (M12_.1 8 1) = (M.1 9 1) from by rw [((g15_ 8 1 rfl).trans (d4_.1))]))⟩, o14_, f16_, (by rw [if_neg c2_]; exact ((g15_ 8 1 rfl).trans (d4_.1))), (by rw [if_neg c2_]; exact ((g15_ 8 2 rfl).trans (d4_.2.1))), (by rw [if_neg c2_]; exact ((g15_ 8 3 rfl).trans (d4_.2.2.1))), (by rw [if_neg c2_]; exact ((g15_ 102 0 rfl).trans (d4_.2.2.2.1))), (by rw [if_neg c2_]; exact ((g15_ 104 0 rfl).trans (d4_.2.2.2.2)))⟩
  · have b18_ : 0 ≤ Int32.toInt (M.1 0 5) ∧ Int32.toInt (M.1 0 5) ≤ 0 := (by have u0 := b1_; have u1 := (zi_eq _ _).mp c2_; have u2 := (show 0 ≤ Int32.toInt 0 ∧ Int32.toInt 0 ≤ 0 from (by decide)); omega)
    refine pw_blk hT 1 (S' := (9, [some (pvR 0)], [pvI (-3)], M)) rfl ⟨trivial, trivial⟩ ?_
    exact pw_ret hT rfl (r := some (pvI (-3))) (M' := M) ⟨rfl, rfl⟩ ⟨⟨_, rfl, (zr_wide (show (-3) ≤ Int32.toInt (-3) ∧ Int32.toInt (-3) ≤ (-3) from (by decide)) (by decide) (by decide)), (by rw [if_pos c2_])⟩, hok, pvfr_0, (by rw [if_pos c2_]; exact rfl), (by rw [if_pos c2_]; exact rfl), (by rw [if_pos c2_]; exact rfl), (by rw [if_pos c2_]; exact rfl), (by rw [if_pos c2_]; exact rfl)⟩
def fpL_eX9_window_0_x_x_x_x_x : List (Nat × Nat × Nat) := [(0, 14, 0), (0, 8, 2), (1, 113, 0), (1, 3, 1), (1, 3, 2), (1, 3, 3), (1, 3, 4), (1, 3, 5), (1, 3, 6)]
def fp_eX9_window_0_x_x_x_x_x (q k : Nat) : Bool := pvfp fpL_eX9_window_0_x_x_x_x_x q k
theorem fp_eX9_window_0_x_x_x_x_x_fp_X1_forget_5 (a b : Nat) (h : fp_X1_forget_5 a b = true) : fp_eX9_window_0_x_x_x_x_x a b = true := pvfp_sub (l1 := fpL_X1_forget_5) (l2 := fpL_eX9_window_0_x_x_x_x_x) (by decide) a b h
theorem fp_eX9_window_0_x_x_x_x_x_fp_X4_becomeNew_x_x_x_x_x_x (a b : Nat) (h : fp_X4_becomeNew_x_x_x_x_x_x a b = true) : fp_eX9_window_0_x_x_x_x_x a b = true := pvfp_sub (l1 := fpL_X4_becomeNew_x_x_x_x_x_x) (l2 := fpL_eX9_window_0_x_x_x_x_x) (by decide) a b h
set_option maxHeartbeats 4000000 in
set_option maxRecDepth 10000 in
theorem se_X9_window_0_x_x_x_x_x (M : pvM) (hok : pvOk M) (n1 : Int32) (n2 : Int32) (n3 : Int32) (n4 : Int32) (n5 : Int32) (d : Nat) : PW 210 d (0, [some (pvR 0), some (pvI n1), some (pvI n2), some (pvI n3), some (pvI n4), some (pvI n5), none], [], M) (fun r X => (∃ x : Int32, r = some (pvI x) ∧ ((-4) ≤ Int32.toInt x ∧ Int32.toInt x ≤ 6) ∧ x = (if n1 < 0 then (-1) else (if 6 < n1 then (-1) else (if n2 < 0 then (-2) else (if 9 < n2 then (-2) else (if n3 < 0 then (-2) else (if 3 < n3 then (-2) else (if n4 < 0 then (-2) else (if 4 < n4 then (-2) else (if n5 < 1 then (-2) else (if 9 < n5 then (-2) else (if (M.1 8 1) < 7 then (M.1 8 1) else (-4))))))))))))) ∧ pvOk X ∧ pvFr fp_eX9_window_0_x_x_x_x_x M X ∧ X.1 8 1 = (if n1 < 0 then (M.1 8 1) else (if 6 < n1 then (M.1 8 1) else (if n2 < 0 then (M.1 8 1) else (if 9 < n2 then (M.1 8 1) else (if n3 < 0 then (M.1 8 1) else (if 3 < n3 then (M.1 8 1) else (if n4 < 0 then (M.1 8 1) else (if 4 < n4 then (M.1 8 1) else (if n5 < 1 then (M.1 8 1) else (if 9 < n5 then (M.1 8 1) else (if (M.1 8 1) < 7 then ((M.1 8 1) + 1) else (M.1 8 1))))))))))))) := by
  have hT : pvdom 210 = pvD_210 := rfl
  refine pw_blk hT 3 (S' := (4, [some (pvR 0), some (pvI n1), some (pvI n2), some (pvI n3), some (pvI n4), some (pvI n5), none], [pvI 6, pvI 0, pvI n1], M)) rfl ⟨trivial, trivial, trivial, trivial⟩ ?_
  refine pw_callT hT (as := [pvI n1, pvI 0, pvI 6]) (lo1 := [some (pvI n1), some (pvI 0), some (pvI 6)]) (d1 := d) (rest := []) rfl rfl rfl rfl rfl (fun h => absurd h (by decide)) (Nat.zero_le _) rfl rfl rfl (sf_X9_within_x_x_x M hok n1 0 6 d) ?_
  by_cases c6_ : n1 < 0
  · refine pw_eqI (if_pos c6_) ?_
    have b7_ : (-2147483648) ≤ Int32.toInt n1 ∧ Int32.toInt n1 ≤ (-1) := zr_lt_l (-1) c6_ (zbnd n1) (show 0 ≤ Int32.toInt 0 ∧ Int32.toInt 0 ≤ 0 from (by decide)) (by decide)
    show PW 210 d (7, [some (pvR 0), some (pvI n1), some (pvI n2), some (pvI n3), some (pvI n4), some (pvI n5), none], [pvI 0], M) _
    refine pw_ifn hT (c := 0 = 0) rfl rfl (fun c8_ => absurd (by decide) c8_) (fun c8_ => ?_)
    refine pw_blk hT 1 (S' := (11, [some (pvR 0), some (pvI n1), some (pvI n2), some (pvI n3), some (pvI n4), some (pvI n5), none], [pvI (-1)], M)) rfl ⟨trivial, trivial⟩ ?_
    exact pw_ret hT rfl (r := some (pvI (-1))) (M' := M) ⟨rfl, rfl⟩ ⟨⟨_, rfl, (zr_wide (show (-1) ≤ Int32.toInt (-1) ∧ Int32.toInt (-1) ≤ (-1) from (by decide)) (by decide) (by decide)), (by rw [if_pos c6_])⟩, hok, pvfr_0, (by rw [if_pos c6_]; exact rfl)⟩
  · refine pw_eqI (if_neg c6_) ?_
    have b9_ : 0 ≤ Int32.toInt n1 ∧ Int32.toInt n1 ≤ 2147483647 := zr_nlt_l 0 c6_ (zbnd n1) (show 0 ≤ Int32.toInt 0 ∧ Int32.toInt 0 ≤ 0 from (by decide)) (by decide)
    by_cases c10_ : 6 < n1
    · refine pw_eqI (if_pos c10_) ?_
      have b11_ : 7 ≤ Int32.toInt n1 ∧ Int32.toInt n1 ≤ 2147483647 := zr_lt_r 7 c10_ b9_ (show 6 ≤ Int32.toInt 6 ∧ Int32.toInt 6 ≤ 6 from (by decide)) (by decide)
      show PW 210 d (7, [some (pvR 0), some (pvI n1), some (pvI n2), some (pvI n3), some (pvI n4), some (pvI n5), none], [pvI 0], M) _
      refine pw_ifn hT (c := 0 = 0) rfl rfl (fun c12_ => absurd (by decide) c12_) (fun c12_ => ?_)
      refine pw_blk hT 1 (S' := (11, [some (pvR 0), some (pvI n1), some (pvI n2), some (pvI n3), some (pvI n4), some (pvI n5), none], [pvI (-1)], M)) rfl ⟨trivial, trivial⟩ ?_
      exact pw_ret hT rfl (r := some (pvI (-1))) (M' := M) ⟨rfl, rfl⟩ ⟨⟨_, rfl, (zr_wide (show (-1) ≤ Int32.toInt (-1) ∧ Int32.toInt (-1) ≤ (-1) from (by decide)) (by decide) (by decide)), (by rw [if_neg c6_, if_pos c10_])⟩, hok, pvfr_0, (by rw [if_neg c6_, if_pos c10_]; exact rfl)⟩
    · refine pw_eqI (if_neg c10_) ?_
      have b13_ : 0 ≤ Int32.toInt n1 ∧ Int32.toInt n1 ≤ 6 := zr_nlt_r 6 c10_ b9_ (show 6 ≤ Int32.toInt 6 ∧ Int32.toInt 6 ≤ 6 from (by decide)) (by decide)
      show PW 210 d (7, [some (pvR 0), some (pvI n1), some (pvI n2), some (pvI n3), some (pvI n4), some (pvI n5), none], [pvI 1], M) _
      refine pw_ifn hT (c := 1 = 0) rfl rfl (fun c14_ => ?_) (fun c14_ => absurd c14_ (by decide))
      refine pw_blk hT 3 (S' := (16, [some (pvR 0), some (pvI n1), some (pvI n2), some (pvI n3), some (pvI n4), some (pvI n5), none], [pvI 9, pvI 0, pvI n2], M)) rfl ⟨trivial, trivial, trivial, trivial⟩ ?_
      refine pw_callT hT (as := [pvI n2, pvI 0, pvI 9]) (lo1 := [some (pvI n2), some (pvI 0), some (pvI 9)]) (d1 := d) (rest := []) rfl rfl rfl rfl rfl (fun h => absurd h (by decide)) (Nat.zero_le _) rfl rfl rfl (sf_X9_within_x_x_x M hok n2 0 9 d) ?_
      by_cases c20_ : n2 < 0
      · refine pw_eqI (if_pos c20_) ?_
        have b21_ : (-2147483648) ≤ Int32.toInt n2 ∧ Int32.toInt n2 ≤ (-1) := zr_lt_l (-1) c20_ (zbnd n2) (show 0 ≤ Int32.toInt 0 ∧ Int32.toInt 0 ≤ 0 from (by decide)) (by decide)
        show PW 210 d (19, [some (pvR 0), some (pvI n1), some (pvI n2), some (pvI n3), some (pvI n4), some (pvI n5), none], [pvI 0], M) _
        refine pw_if hT (c := 0 = 0) rfl rfl (fun c22_ => ?_) (fun c22_ => absurd (by decide) c22_)
        refine pw_blk hT 1 (S' := (44, [some (pvR 0), some (pvI n1), some (pvI n2), some (pvI n3), some (pvI n4), some (pvI n5), none], [pvI (-2)], M)) rfl ⟨trivial, trivial⟩ ?_
        exact pw_ret hT rfl (r := some (pvI (-2))) (M' := M) ⟨rfl, rfl⟩ ⟨⟨_, rfl, (zr_wide (show (-2) ≤ Int32.toInt (-2) ∧ Int32.toInt (-2) ≤ (-2) from (by decide)) (by decide) (by decide)), (by rw [if_neg c6_, if_neg c10_, if_pos c20_])⟩, hok, pvfr_0, (by rw [if_neg c6_, if_neg c10_, if_pos c20_]; exact rfl)⟩
      · refine pw_eqI (if_neg c20_) ?_
        have b23_ : 0 ≤ Int32.toInt n2 ∧ Int32.toInt n2 ≤ 2147483647 := zr_nlt_l 0 c20_ (zbnd n2) (show 0 ≤ Int32.toInt 0 ∧ Int32.toInt 0 ≤ 0 from (by decide)) (by decide)
        by_cases c24_ : 9 < n2
        · refine pw_eqI (if_pos c24_) ?_
          have b25_ : 10 ≤ Int32.toInt n2 ∧ Int32.toInt n2 ≤ 2147483647 := zr_lt_r 10 c24_ b23_ (show 9 ≤ Int32.toInt 9 ∧ Int32.toInt 9 ≤ 9 from (by decide)) (by decide)
          show PW 210 d (19, [some (pvR 0), some (pvI n1), some (pvI n2), some (pvI n3), some (pvI n4), some (pvI n5), none], [pvI 0], M) _
          refine pw_if hT (c := 0 = 0) rfl rfl (fun c26_ => ?_) (fun c26_ => absurd (by decide) c26_)
          refine pw_blk hT 1 (S' := (44, [some (pvR 0), some (pvI n1), some (pvI n2), some (pvI n3), some (pvI n4), some (pvI n5), none], [pvI (-2)], M)) rfl ⟨trivial, trivial⟩ ?_
          exact pw_ret hT rfl (r := some (pvI (-2))) (M' := M) ⟨rfl, rfl⟩ ⟨⟨_, rfl, (zr_wide (show (-2) ≤ Int32.toInt (-2) ∧ Int32.toInt (-2) ≤ (-2) from (by decide)) (by decide) (by decide)), (by rw [if_neg c6_, if_neg c10_, if_neg c20_, if_pos c24_])⟩, hok, pvfr_0, (by rw [if_neg c6_, if_neg c10_, if_neg c20_, if_pos c24_]; exact rfl)⟩
        · refine pw_eqI (if_neg c24_) ?_
          have b27_ : 0 ≤ Int32.toInt n2 ∧ Int32.toInt n2 ≤ 9 := zr_nlt_r 9 c24_ b23_ (show 9 ≤ Int32.toInt 9 ∧ Int32.toInt 9 ≤ 9 from (by decide)) (by decide)
          show PW 210 d (19, [some (pvR 0), some (pvI n1), some (pvI n2), some (pvI n3), some (pvI n4), some (pvI n5), none], [pvI 1], M) _
          refine pw_if hT (c := 1 = 0) rfl rfl (fun c28_ => absurd c28_ (by decide)) (fun c28_ => ?_)
          refine pw_blk hT 2 (S' := (25, [some (pvR 0), some (pvI n1), some (pvI n2), some (pvI n3), some (pvI n4), some (pvI n5), none], [pvI n4, pvI n3], M)) rfl ⟨trivial, trivial, trivial⟩ ?_
          refine pw_callT hT (as := [pvI n3, pvI n4]) (lo1 := [some (pvI n3), some (pvI n4)]) (d1 := d) (rest := []) rfl rfl rfl rfl rfl (fun h => absurd h (by decide)) (Nat.zero_le _) rfl rfl rfl (sf_X9_isPlace_x_x M hok n3 n4 d) ?_
          by_cases c34_ : n3 < 0
          · refine pw_eqI (if_pos c34_) ?_
            have b35_ : (-2147483648) ≤ Int32.toInt n3 ∧ Int32.toInt n3 ≤ (-1) := zr_lt_l (-1) c34_ (zbnd n3) (show 0 ≤ Int32.toInt 0 ∧ Int32.toInt 0 ≤ 0 from (by decide)) (by decide)
            show PW 210 d (28, [some (pvR 0), some (pvI n1), some (pvI n2), some (pvI n3), some (pvI n4), some (pvI n5), none], [pvI 0], M) _
            refine pw_if hT (c := 0 = 0) rfl rfl (fun c36_ => ?_) (fun c36_ => absurd (by decide) c36_)
            refine pw_blk hT 1 (S' := (44, [some (pvR 0), some (pvI n1), some (pvI n2), some (pvI n3), some (pvI n4), some (pvI n5), none], [pvI (-2)], M)) rfl ⟨trivial, trivial⟩ ?_
            exact pw_ret hT rfl (r := some (pvI (-2))) (M' := M) ⟨rfl, rfl⟩ ⟨⟨_, rfl, (zr_wide (show (-2) ≤ Int32.toInt (-2) ∧ Int32.toInt (-2) ≤ (-2) from (by decide)) (by decide) (by decide)), (by rw [if_neg c6_, if_neg c10_, if_neg c20_, if_neg c24_, if_pos c34_])⟩, hok, pvfr_0, (by rw [if_neg c6_, if_neg c10_, if_neg c20_, if_neg c24_, if_pos c34_]; exact rfl)⟩
          · refine pw_eqI (if_neg c34_) ?_
            have b37_ : 0 ≤ Int32.toInt n3 ∧ Int32.toInt n3 ≤ 2147483647 := zr_nlt_l 0 c34_ (zbnd n3) (show 0 ≤ Int32.toInt 0 ∧ Int32.toInt 0 ≤ 0 from (by decide)) (by decide)
            by_cases c38_ : 3 < n3
            · refine pw_eqI (if_pos c38_) ?_
              have b39_ : 4 ≤ Int32.toInt n3 ∧ Int32.toInt n3 ≤ 2147483647 := zr_lt_r 4 c38_ b37_ (show 3 ≤ Int32.toInt 3 ∧ Int32.toInt 3 ≤ 3 from (by decide)) (by decide)
              show PW 210 d (28, [some (pvR 0), some (pvI n1), some (pvI n2), some (pvI n3), some (pvI n4), some (pvI n5), none], [pvI 0], M) _
              refine pw_if hT (c := 0 = 0) rfl rfl (fun c40_ => ?_) (fun c40_ => absurd (by decide) c40_)
              refine pw_blk hT 1 (S' := (44, [some (pvR 0), some (pvI n1), some (pvI n2), some (pvI n3), some (pvI n4), some (pvI n5), none], [pvI (-2)], M)) rfl ⟨trivial, trivial⟩ ?_
              exact pw_ret hT rfl (r := some (pvI (-2))) (M' := M) ⟨rfl, rfl⟩ ⟨⟨_, rfl, (zr_wide (show (-2) ≤ Int32.toInt (-2) ∧ Int32.toInt (-2) ≤ (-2) from (by decide)) (by decide) (by decide)), (by rw [if_neg c6_, if_neg c10_, if_neg c20_, if_neg c24_, if_neg c34_, if_pos c38_])⟩, hok, pvfr_0, (by rw [if_neg c6_, if_neg c10_, if_neg c20_, if_neg c24_, if_neg c34_, if_pos c38_]; exact rfl)⟩
            · refine pw_eqI (if_neg c38_) ?_
              have b41_ : 0 ≤ Int32.toInt n3 ∧ Int32.toInt n3 ≤ 3 := zr_nlt_r 3 c38_ b37_ (show 3 ≤ Int32.toInt 3 ∧ Int32.toInt 3 ≤ 3 from (by decide)) (by decide)
              by_cases c42_ : n4 < 0
              · refine pw_eqI (if_pos c42_) ?_
                have b43_ : (-2147483648) ≤ Int32.toInt n4 ∧ Int32.toInt n4 ≤ (-1) := zr_lt_l (-1) c42_ (zbnd n4) (show 0 ≤ Int32.toInt 0 ∧ Int32.toInt 0 ≤ 0 from (by decide)) (by decide)
                show PW 210 d (28, [some (pvR 0), some (pvI n1), some (pvI n2), some (pvI n3), some (pvI n4), some (pvI n5), none], [pvI 0], M) _
                refine pw_if hT (c := 0 = 0) rfl rfl (fun c44_ => ?_) (fun c44_ => absurd (by decide) c44_)
                refine pw_blk hT 1 (S' := (44, [some (pvR 0), some (pvI n1), some (pvI n2), some (pvI n3), some (pvI n4), some (pvI n5), none], [pvI (-2)], M)) rfl ⟨trivial, trivial⟩ ?_
                exact pw_ret hT rfl (r := some (pvI (-2))) (M' := M) ⟨rfl, rfl⟩ ⟨⟨_, rfl, (zr_wide (show (-2) ≤ Int32.toInt (-2) ∧ Int32.toInt (-2) ≤ (-2) from (by decide)) (by decide) (by decide)), (by rw [if_neg c6_, if_neg c10_, if_neg c20_, if_neg c24_, if_neg c34_, if_neg c38_, if_pos c42_])⟩, hok, pvfr_0, (by rw [if_neg c6_, if_neg c10_, if_neg c20_, if_neg c24_, if_neg c34_, if_neg c38_, if_pos c42_]; exact rfl)⟩
              · refine pw_eqI (if_neg c42_) ?_
                have b45_ : 0 ≤ Int32.toInt n4 ∧ Int32.toInt n4 ≤ 2147483647 := zr_nlt_l 0 c42_ (zbnd n4) (show 0 ≤ Int32.toInt 0 ∧ Int32.toInt 0 ≤ 0 from (by decide)) (by decide)
                by_cases c46_ : 4 < n4
                · refine pw_eqI (if_pos c46_) ?_
                  have b47_ : 5 ≤ Int32.toInt n4 ∧ Int32.toInt n4 ≤ 2147483647 := zr_lt_r 5 c46_ b45_ (show 4 ≤ Int32.toInt 4 ∧ Int32.toInt 4 ≤ 4 from (by decide)) (by decide)
                  show PW 210 d (28, [some (pvR 0), some (pvI n1), some (pvI n2), some (pvI n3), some (pvI n4), some (pvI n5), none], [pvI 0], M) _
                  refine pw_if hT (c := 0 = 0) rfl rfl (fun c48_ => ?_) (fun c48_ => absurd (by decide) c48_)
                  refine pw_blk hT 1 (S' := (44, [some (pvR 0), some (pvI n1), some (pvI n2), some (pvI n3), some (pvI n4), some (pvI n5), none], [pvI (-2)], M)) rfl ⟨trivial, trivial⟩ ?_
                  exact pw_ret hT rfl (r := some (pvI (-2))) (M' := M) ⟨rfl, rfl⟩ ⟨⟨_, rfl, (zr_wide (show (-2) ≤ Int32.toInt (-2) ∧ Int32.toInt (-2) ≤ (-2) from (by decide)) (by decide) (by decide)), (by rw [if_neg c6_, if_neg c10_, if_neg c20_, if_neg c24_, if_neg c34_, if_neg c38_, if_neg c42_, if_pos c46_])⟩, hok, pvfr_0, (by rw [if_neg c6_, if_neg c10_, if_neg c20_, if_neg c24_, if_neg c34_, if_neg c38_, if_neg c42_, if_pos c46_]; exact rfl)⟩
                · refine pw_eqI (if_neg c46_) ?_
                  have b49_ : 0 ≤ Int32.toInt n4 ∧ Int32.toInt n4 ≤ 4 := zr_nlt_r 4 c46_ b45_ (show 4 ≤ Int32.toInt 4 ∧ Int32.toInt 4 ≤ 4 from (by decide)) (by decide)
                  show PW 210 d (28, [some (pvR 0), some (pvI n1), some (pvI n2), some (pvI n3), some (pvI n4), some (pvI n5), none], [pvI 1], M) _
                  refine pw_if hT (c := 1 = 0) rfl rfl (fun c50_ => absurd c50_ (by decide)) (fun c50_ => ?_)
                  refine pw_blk hT 3 (S' := (36, [some (pvR 0), some (pvI n1), some (pvI n2), some (pvI n3), some (pvI n4), some (pvI n5), none], [pvI 9, pvI 1, pvI n5], M)) rfl ⟨trivial, trivial, trivial, trivial⟩ ?_
                  refine pw_callT hT (as := [pvI n5, pvI 1, pvI 9]) (lo1 := [some (pvI n5), some (pvI 1), some (pvI 9)]) (d1 := d) (rest := []) rfl rfl rfl rfl rfl (fun h => absurd h (by decide)) (Nat.zero_le _) rfl rfl rfl (sf_X9_within_x_x_x M hok n5 1 9 d) ?_
                  by_cases c56_ : n5 < 1
                  · refine pw_eqI (if_pos c56_) ?_
                    have b57_ : (-2147483648) ≤ Int32.toInt n5 ∧ Int32.toInt n5 ≤ 0 := zr_lt_l 0 c56_ (zbnd n5) (show 1 ≤ Int32.toInt 1 ∧ Int32.toInt 1 ≤ 1 from (by decide)) (by decide)
                    show PW 210 d (39, [some (pvR 0), some (pvI n1), some (pvI n2), some (pvI n3), some (pvI n4), some (pvI n5), none], [pvI 0], M) _
                    refine pw_ifn hT (c := 0 = 0) rfl rfl (fun c58_ => absurd (by decide) c58_) (fun c58_ => ?_)
                    refine pw_blk hT 1 (S' := (44, [some (pvR 0), some (pvI n1), some (pvI n2), some (pvI n3), some (pvI n4), some (pvI n5), none], [pvI (-2)], M)) rfl ⟨trivial, trivial⟩ ?_
                    exact pw_ret hT rfl (r := some (pvI (-2))) (M' := M) ⟨rfl, rfl⟩ ⟨⟨_, rfl, (zr_wide (show (-2) ≤ Int32.toInt (-2) ∧ Int32.toInt (-2) ≤ (-2) from (by decide)) (by decide) (by decide)), (by rw [if_neg c6_, if_neg c10_, if_neg c20_, if_neg c24_, if_neg c34_, if_neg c38_, if_neg c42_, if_neg c46_, if_pos c56_])⟩, hok, pvfr_0, (by rw [if_neg c6_, if_neg c10_, if_neg c20_, if_neg c24_, if_neg c34_, if_neg c38_, if_neg c42_, if_neg c46_, if_pos c56_]; exact rfl)⟩
                  · refine pw_eqI (if_neg c56_) ?_
                    have b59_ : 1 ≤ Int32.toInt n5 ∧ Int32.toInt n5 ≤ 2147483647 := zr_nlt_l 1 c56_ (zbnd n5) (show 1 ≤ Int32.toInt 1 ∧ Int32.toInt 1 ≤ 1 from (by decide)) (by decide)
                    by_cases c60_ : 9 < n5
                    · refine pw_eqI (if_pos c60_) ?_
                      have b61_ : 10 ≤ Int32.toInt n5 ∧ Int32.toInt n5 ≤ 2147483647 := zr_lt_r 10 c60_ b59_ (show 9 ≤ Int32.toInt 9 ∧ Int32.toInt 9 ≤ 9 from (by decide)) (by decide)
                      show PW 210 d (39, [some (pvR 0), some (pvI n1), some (pvI n2), some (pvI n3), some (pvI n4), some (pvI n5), none], [pvI 0], M) _
                      refine pw_ifn hT (c := 0 = 0) rfl rfl (fun c62_ => absurd (by decide) c62_) (fun c62_ => ?_)
                      refine pw_blk hT 1 (S' := (44, [some (pvR 0), some (pvI n1), some (pvI n2), some (pvI n3), some (pvI n4), some (pvI n5), none], [pvI (-2)], M)) rfl ⟨trivial, trivial⟩ ?_
                      exact pw_ret hT rfl (r := some (pvI (-2))) (M' := M) ⟨rfl, rfl⟩ ⟨⟨_, rfl, (zr_wide (show (-2) ≤ Int32.toInt (-2) ∧ Int32.toInt (-2) ≤ (-2) from (by decide)) (by decide) (by decide)), (by rw [if_neg c6_, if_neg c10_, if_neg c20_, if_neg c24_, if_neg c34_, if_neg c38_, if_neg c42_, if_neg c46_, if_neg c56_, if_pos c60_])⟩, hok, pvfr_0, (by rw [if_neg c6_, if_neg c10_, if_neg c20_, if_neg c24_, if_neg c34_, if_neg c38_, if_neg c42_, if_neg c46_, if_neg c56_, if_pos c60_]; exact rfl)⟩
                    · refine pw_eqI (if_neg c60_) ?_
                      have b63_ : 1 ≤ Int32.toInt n5 ∧ Int32.toInt n5 ≤ 9 := zr_nlt_r 9 c60_ b59_ (show 9 ≤ Int32.toInt 9 ∧ Int32.toInt 9 ≤ 9 from (by decide)) (by decide)
                      show PW 210 d (39, [some (pvR 0), some (pvI n1), some (pvI n2), some (pvI n3), some (pvI n4), some (pvI n5), none], [pvI 1], M) _
                      refine pw_ifn hT (c := 1 = 0) rfl rfl (fun c64_ => ?_) (fun c64_ => absurd c64_ (by decide))
                      have b65_ : 0 ≤ Int32.toInt (M.1 8 1) ∧ Int32.toInt (M.1 8 1) ≤ 7 := pvok_r hok 8 1 rfl
                      refine pw_blk hT 4 (S' := (54, [some (pvR 0), some (pvI n1), some (pvI n2), some (pvI n3), some (pvI n4), some (pvI n5), none], [pvI 7, pvI (M.1 8 1)], M)) rfl ⟨trivial, rfl, rfl, trivial, trivial⟩ ?_
                      refine pw_ic hT (c := (M.1 8 1) < 7) rfl rfl (fun c66_ => ?_) (fun c66_ => ?_)
                      · have b67_ : 0 ≤ Int32.toInt (M.1 8 1) ∧ Int32.toInt (M.1 8 1) ≤ 6 := zr_lt_l 6 c66_ b65_ (show 7 ≤ Int32.toInt 7 ∧ Int32.toInt 7 ≤ 7 from (by decide)) (by decide)
                        obtain ⟨q69_, b68_⟩ : (Int32.toInt ((M.1 8 1) + 1) = Int32.toInt (M.1 8 1) + 1) ∧ (1 ≤ Int32.toInt ((M.1 8 1) + 1) ∧ Int32.toInt ((M.1 8 1) + 1) ≤ 7) := zadd_k (M.1 8 1) 1 1 1 7 b67_ (by decide) (by decide) (by decide) (by decide) (by decide)
                        refine pw_blkw hT 8 (pc := 74) (lo := [some (pvR 0), some (pvI n1), some (pvI n2), some (pvI n3), some (pvI n4), some (pvI n5), none]) (st := [pvI (M.1 8 1)]) (M := pvu M 8 1 ((M.1 8 1) + 1)) rfl ⟨trivial, rfl, trivial, rfl, trivial, trivial, trivial, rfl, trivial⟩ (fun M70_ e71_ => ?_)
                        have o72_ : pvOk M70_ := pvok_u2 e71_ hok rfl (zr_wide b68_ (by decide) (by decide))
                        have f73_ : pvFr fp_eX9_window_0_x_x_x_x_x M M70_ := pvfr_u e71_ pvfr_0 rfl
                        refine pw_blkr hT 6 (pc := 86) (lo := [some (pvR 0), some (pvI n1), some (pvI n2), some (pvI n3), some (pvI n4), some (pvI n5), some (pvI (M.1 8 1))]) (st := []) (M := M70_) (z := (pvbs 10 + Int32.toNatClampNeg (M.1 8 1))) rfl ⟨trivial, trivial, rfl, rfl, trivial, ⟨rfl, (zr_in (n := 7) b67_ (by decide) (by decide))⟩, trivial⟩ (fun q74_ e76_ => ?_)
                        have k75_ : pvkl q74_ = 3 := pvel_10 (zr_in (n := 7) b67_ (by decide) (by decide)) e76_
                        refine pw_blk hT 5 (S' := (93, [some (pvR 0), some (pvI n1), some (pvI n2), some (pvI n3), some (pvI n4), some (pvI n5), some (pvI (M.1 8 1))], [pvI n5, pvI n4, pvI n3, pvI n2, pvI n1, pvR q74_], M70_)) rfl ⟨trivial, trivial, trivial, trivial, trivial, trivial⟩ ?_
                        refine pw_callV hT (as := [pvR q74_, pvI n1, pvI n2, pvI n3, pvI n4, pvI n5]) (lo1 := [some (pvR q74_), some (pvI n1), some (pvI n2), some (pvI n3), some (pvI n4), some (pvI n5), none]) (d1 := d) (rest := []) rfl rfl rfl rfl rfl (fun _ => k75_) (Nat.zero_le _) rfl rfl rfl (sf_X4_becomeNew_x_x_x_x_x_x M70_ o72_ q74_ n1 n2 n3 n4 n5 k75_ b13_ b27_ b41_ b49_ (zr_wide b63_ (by decide) (by decide)) d) (fun M78_ o80_ g81_ => ?_)
                        have f82_ : pvFr fp_eX9_window_0_x_x_x_x_x M M78_ := pvfr_t g81_ f73_ fp_eX9_window_0_x_x_x_x_x_fp_X4_becomeNew_x_x_x_x_x_x
                        refine pw_blk hT 2 (S' := (100, [some (pvR 0), some (pvI n1), some (pvI n2), some (pvI n3), some (pvI n4), some (pvI n5), some (pvI (M.1 8 1))], [pvR 5], M78_)) rfl ⟨trivial, rfl, trivial⟩ ?_
                        refine pw_callV hT (as := [pvR 5]) (lo1 := [some (pvR 5), none]) (d1 := d) (rest := []) rfl rfl rfl rfl rfl (fun _ => rfl) (Nat.zero_le _) rfl rfl rfl (sf_X1_forget_5 M78_ o80_ d) (fun M84_ o86_ g87_ => ?_)
                        have f88_ : pvFr fp_eX9_window_0_x_x_x_x_x M M84_ := pvfr_t g87_ f82_ fp_eX9_window_0_x_x_x_x_x_fp_X1_forget_5
                        refine pw_blk hT 1 (S' := (105, [some (pvR 0), some (pvI n1), some (pvI n2), some (pvI n3), some (pvI n4), some (pvI n5), some (pvI (M.1 8 1))], [pvI (M.1 8 1)], M84_)) rfl ⟨trivial, trivial⟩ ?_
                        exact pw_ret hT rfl (r := some (pvI (M.1 8 1))) (M' := M84_) ⟨rfl, rfl⟩ ⟨⟨_, rfl, (zr_wide b67_ (by decide) (by decide)), (by rw [if_neg c6_, if_neg c10_, if_neg c20_, if_neg c24_, if_neg c34_, if_neg c38_, if_neg c42_, if_neg c46_, if_neg c56_, if_neg c60_, if_pos c66_])⟩, o86_, f88_, (by rw [if_neg c6_, if_neg c10_, if_neg c20_, if_neg c24_, if_neg c34_, if_neg c38_, if_neg c42_, if_neg c46_, if_neg c56_, if_neg c60_, if_pos c66_]; exact (((g87_ 8 1 rfl).trans (g81_ 8 1 rfl)).trans (pvu_s e71_)))⟩
                      · have b89_ : 7 ≤ Int32.toInt (M.1 8 1) ∧ Int32.toInt (M.1 8 1) ≤ 7 := zr_nlt_l 7 c66_ b65_ (show 7 ≤ Int32.toInt 7 ∧ Int32.toInt 7 ≤ 7 from (by decide)) (by decide)
                        refine pw_blk hT 1 (S' := (59, [some (pvR 0), some (pvI n1), some (pvI n2), some (pvI n3), some (pvI n4), some (pvI n5), none], [pvI (-4)], M)) rfl ⟨trivial, trivial⟩ ?_
                        exact pw_ret hT rfl (r := some (pvI (-4))) (M' := M) ⟨rfl, rfl⟩ ⟨⟨_, rfl, (zr_wide (show (-4) ≤ Int32.toInt (-4) ∧ Int32.toInt (-4) ≤ (-4) from (by decide)) (by decide) (by decide)), (by rw [if_neg c6_, if_neg c10_, if_neg c20_, if_neg c24_, if_neg c34_, if_neg c38_, if_neg c42_, if_neg c46_, if_neg c56_, if_neg c60_, if_neg c66_])⟩, hok, pvfr_0, (by rw [if_neg c6_, if_neg c10_, if_neg c20_, if_neg c24_, if_neg c34_, if_neg c38_, if_neg c42_, if_neg c46_, if_neg c56_, if_neg c60_, if_neg c66_]; exact rfl)⟩
