def fpL_eX10_begin_124_x : List (Nat × Nat × Nat) := [(0, 124, 4), (0, 124, 33), (0, 124, 36), (0, 141, 0), (0, 142, 0), (0, 143, 0), (0, 144, 0)]
def fp_eX10_begin_124_x (q k : Nat) : Bool := pvfp fpL_eX10_begin_124_x q k
theorem fp_eX10_begin_124_x_fp_X10_costOfPath_124_x (a b : Nat) (h : fp_X10_costOfPath_124_x a b = true) : fp_eX10_begin_124_x a b = true := pvfp_sub (l1 := fpL_X10_costOfPath_124_x) (l2 := fpL_eX10_begin_124_x) (by decide) a b h
theorem fp_eX10_begin_124_x_fp_X10_layRain_124 (a b : Nat) (h : fp_X10_layRain_124 a b = true) : fp_eX10_begin_124_x a b = true := pvfp_sub (l1 := fpL_X10_layRain_124) (l2 := fpL_eX10_begin_124_x) (by decide) a b h
theorem fp_eX10_begin_124_x_fp_X10_layRound_124 (a b : Nat) (h : fp_X10_layRound_124 a b = true) : fp_eX10_begin_124_x a b = true := pvfp_sub (l1 := fpL_X10_layRound_124) (l2 := fpL_eX10_begin_124_x) (by decide) a b h
set_option maxHeartbeats 4000000 in
set_option maxRecDepth 10000 in
theorem se_X10_begin_124_x (M : pvM) (hok : pvOk M) (n1 : Int32) (hz : pvWF M) (d : Nat) : PW 8 d (0, [some (pvR 124), some (pvI n1), none, none, none, none], [], M) (fun r X => (∃ x : Int32, r = some (pvI x) ∧ (-1) ≤ Int32.toInt x ∧ Int32.toInt x ≤ 2147483647) ∧ pvOk X ∧ pvFr fp_eX10_begin_124_x M X ∧ X.1 124 3 = M.1 124 3) := by
  have hT : pvdom 8 = pvD_8 := rfl
  refine pw_blk hT 4 (S' := (4, [some (pvR 124), some (pvI n1), none, none, none, none], [pvI 1, pvI 0, pvI n1, pvR 124], M)) rfl ⟨trivial, trivial, trivial, trivial, trivial⟩ ?_
  refine pw_callT hT (as := [pvR 124, pvI n1, pvI 0, pvI 1]) (lo1 := [some (pvR 124), some (pvI n1), some (pvI 0), some (pvI 1)]) (d1 := d) (rest := []) rfl rfl rfl rfl rfl (fun _ => rfl) (Nat.zero_le _) rfl rfl rfl (sf_X10_in_124_x_x_x M hok n1 0 1 d) ?_
  by_cases c6_ : n1 < 0
  · refine pw_eqI (if_pos c6_) ?_
    have b7_ : (-2147483648) ≤ Int32.toInt n1 ∧ Int32.toInt n1 ≤ (-1) := zr_lt_l (-1) c6_ (zbnd n1) (show 0 ≤ Int32.toInt 0 ∧ Int32.toInt 0 ≤ 0 from (by decide)) (by decide)
    show PW 8 d (7, [some (pvR 124), some (pvI n1), none, none, none, none], [pvI 0], M) _
    refine pw_ifn hT (c := 0 = 0) rfl rfl (fun c8_ => absurd (by decide) c8_) (fun c8_ => ?_)
    refine pw_blk hT 1 (S' := (11, [some (pvR 124), some (pvI n1), none, none, none, none], [pvI (-1)], M)) rfl ⟨trivial, trivial⟩ ?_
    exact pw_ret hT rfl (r := some (pvI (-1))) (M' := M) ⟨rfl, rfl⟩ ⟨⟨_, rfl, (zr_wide (show (-1) ≤ Int32.toInt (-1) ∧ Int32.toInt (-1) ≤ (-1) from (by decide)) (by decide) (by decide))⟩, hok, pvfr_0, rfl⟩
  · refine pw_eqI (if_neg c6_) ?_
    have b9_ : 0 ≤ Int32.toInt n1 ∧ Int32.toInt n1 ≤ 2147483647 := zr_nlt_l 0 c6_ (zbnd n1) (show 0 ≤ Int32.toInt 0 ∧ Int32.toInt 0 ≤ 0 from (by decide)) (by decide)
    by_cases c10_ : 1 < n1
    · refine pw_eqI (if_pos c10_) ?_
      have b11_ : 2 ≤ Int32.toInt n1 ∧ Int32.toInt n1 ≤ 2147483647 := zr_lt_r 2 c10_ b9_ (show 1 ≤ Int32.toInt 1 ∧ Int32.toInt 1 ≤ 1 from (by decide)) (by decide)
      show PW 8 d (7, [some (pvR 124), some (pvI n1), none, none, none, none], [pvI 0], M) _
      refine pw_ifn hT (c := 0 = 0) rfl rfl (fun c12_ => absurd (by decide) c12_) (fun c12_ => ?_)
      refine pw_blk hT 1 (S' := (11, [some (pvR 124), some (pvI n1), none, none, none, none], [pvI (-1)], M)) rfl ⟨trivial, trivial⟩ ?_
      exact pw_ret hT rfl (r := some (pvI (-1))) (M' := M) ⟨rfl, rfl⟩ ⟨⟨_, rfl, (zr_wide (show (-1) ≤ Int32.toInt (-1) ∧ Int32.toInt (-1) ≤ (-1) from (by decide)) (by decide) (by decide))⟩, hok, pvfr_0, rfl⟩
    · refine pw_eqI (if_neg c10_) ?_
      have b13_ : 0 ≤ Int32.toInt n1 ∧ Int32.toInt n1 ≤ 1 := zr_nlt_r 1 c10_ b9_ (show 1 ≤ Int32.toInt 1 ∧ Int32.toInt 1 ≤ 1 from (by decide)) (by decide)
      show PW 8 d (7, [some (pvR 124), some (pvI n1), none, none, none, none], [pvI 1], M) _
      refine pw_ifn hT (c := 1 = 0) rfl rfl (fun c14_ => ?_) (fun c14_ => absurd c14_ (by decide))
      have b15_ : 0 ≤ Int32.toInt (M.1 124 3) ∧ Int32.toInt (M.1 124 3) ≤ 108 := pvok_r hok 124 3 rfl
      refine pw_blk hT 8 (S' := (23, [some (pvR 124), some (pvI n1), some (pvI (M.1 124 3)), some (pvI 0), some (pvI (-1)), none], [pvR 124], M)) rfl ⟨trivial, rfl, trivial, trivial, trivial, trivial, trivial, trivial, trivial⟩ ?_
      refine pw_callV hT (as := [pvR 124]) (lo1 := [some (pvR 124), none, none]) (d1 := d) (rest := []) rfl rfl rfl rfl rfl (fun _ => rfl) (Nat.zero_le _) rfl rfl rfl (sf_X10_layRain_124 M hok hz d) (fun M17_ o19_ g20_ => ?_)
      have f21_ : pvFr fp_eX10_begin_124_x M M17_ := pvfr_t g20_ pvfr_0 fp_eX10_begin_124_x_fp_X10_layRain_124
      refine pw_blk hT 1 (S' := (27, [some (pvR 124), some (pvI n1), some (pvI (M.1 124 3)), some (pvI 0), some (pvI (-1)), none], [pvR 124], M17_)) rfl ⟨trivial, trivial⟩ ?_
      refine pw_callV hT (as := [pvR 124]) (lo1 := [some (pvR 124), none]) (d1 := d) (rest := []) rfl rfl rfl rfl rfl (fun _ => rfl) (Nat.zero_le _) rfl rfl rfl (sf_X10_layRound_124 M17_ o19_ d) (fun M23_ o25_ g26_ => ?_)
      have f27_ : pvFr fp_eX10_begin_124_x M M23_ := pvfr_t g26_ f21_ fp_eX10_begin_124_x_fp_X10_layRound_124
      refine pw_blkw hT 3 (pc := 35) (lo := [some (pvR 124), some (pvI n1), some (pvI (M.1 124 3)), some (pvI 0), some (pvI (-1)), none]) (st := []) (M := pvu M23_ 124 3 0) rfl ⟨trivial, trivial, rfl, trivial⟩ (fun M28_ e29_ => ?_)
      have o30_ : pvOk M28_ := pvok_u2 e29_ o25_ rfl (zr_wide (show 0 ≤ Int32.toInt 0 ∧ Int32.toInt 0 ≤ 0 from (by decide)) (by decide) (by decide))
      have f31_ : pvFr fp_eX10_begin_124_x M M28_ := pvfr_u e29_ f27_ rfl
      have hlz160_ : ∀ (nz160_ : Nat) (i3z160_ : Int32) (i4z160_ : Int32) (v5z160_ : Option pvV) (Mz160_ : pvM), (pvOk Mz160_) → (pvFr fp_eX10_begin_124_x M Mz160_) → (0 ≤ Int32.toInt i3z160_ ∧ Int32.toInt i3z160_ ≤ 2147483647) → ((-1) ≤ Int32.toInt i4z160_ ∧ Int32.toInt i4z160_ ≤ 2147483647) → (zhide ((101 - Int32.toInt (Mz160_.1 124 3)).toNat < nz160_)) → PW 8 d (35, [some (pvR 124), some (pvI n1), some (pvI (M.1 124 3)), some (pvI i3z160_), some (pvI i4z160_), v5z160_], [], Mz160_) (fun r X => (∃ x : Int32, r = some (pvI x) ∧ (-1) ≤ Int32.toInt x ∧ Int32.toInt x ≤ 2147483647) ∧ pvOk X ∧ pvFr fp_eX10_begin_124_x M X ∧ X.1 124 3 = M.1 124 3) := by
        intro nz160_
        induction nz160_ with
        | zero => intro i3z160_ i4z160_ v5z160_ Mz160_ oz160_ fz160_ h3z160_ h4z160_ hmz160_; exact absurd (zshow hmz160_) (Nat.not_lt_zero _)
        | succ nz160_ ihz160_ =>
          intro i3z160_ i4z160_ v5z160_ Mz160_ oz160_ fz160_ h3z160_ h4z160_ hmz160_
          have b161_ : 0 ≤ Int32.toInt (Mz160_.1 124 3) ∧ Int32.toInt (Mz160_.1 124 3) ≤ 108 := pvok_r oz160_ 124 3 rfl
          refine pw_blk hT 3 (S' := (41, [some (pvR 124), some (pvI n1), some (pvI (M.1 124 3)), some (pvI i3z160_), some (pvI i4z160_), v5z160_], [pvI 100, pvI (Mz160_.1 124 3)], Mz160_)) rfl ⟨trivial, rfl, trivial, trivial⟩ ?_
          refine pw_ic hT (c := 100 ≤ (Mz160_.1 124 3)) rfl rfl (fun c162_ => ?_) (fun c162_ => ?_)
          · have b163_ : 100 ≤ Int32.toInt (Mz160_.1 124 3) ∧ Int32.toInt (Mz160_.1 124 3) ≤ 108 := zr_le_r 100 c162_ b161_ (show 100 ≤ Int32.toInt 100 ∧ Int32.toInt 100 ≤ 100 from (by decide)) (by decide)
            refine pw_blkw hT 3 (pc := 88) (lo := [some (pvR 124), some (pvI n1), some (pvI (M.1 124 3)), some (pvI i3z160_), some (pvI i4z160_), v5z160_]) (st := []) (M := pvu Mz160_ 124 3 (M.1 124 3)) rfl ⟨trivial, trivial, rfl, trivial⟩ (fun M164_ e165_ => ?_)
            have o166_ : pvOk M164_ := pvok_u2 e165_ oz160_ rfl b15_
            have f167_ : pvFr fp_eX10_begin_124_x M M164_ := pvfr_u e165_ fz160_ rfl
            refine pw_blk hT 1 (S' := (89, [some (pvR 124), some (pvI n1), some (pvI (M.1 124 3)), some (pvI i3z160_), some (pvI i4z160_), v5z160_], [pvI n1], M164_)) rfl ⟨trivial, trivial⟩ ?_
            refine pw_ifn hT (c := n1 = 0) rfl rfl (fun c168_ => ?_) (fun c168_ => ?_)
            · have b169_ : 1 ≤ Int32.toInt n1 ∧ Int32.toInt n1 ≤ 1 := (by have u0 := b13_; have u1 := (not_congr (zi_eq _ _)).mp c168_; have u2 := (show 0 ≤ Int32.toInt 0 ∧ Int32.toInt 0 ≤ 0 from (by decide)); omega)
              refine pw_blk hT 1 (S' := (98, [some (pvR 124), some (pvI n1), some (pvI (M.1 124 3)), some (pvI i3z160_), some (pvI i4z160_), v5z160_], [pvI i4z160_], M164_)) rfl ⟨trivial, trivial⟩ ?_
              exact pw_ret hT rfl (r := some (pvI i4z160_)) (M' := M164_) ⟨rfl, rfl⟩ ⟨⟨_, rfl, h4z160_⟩, o166_, f167_, (pvu_s e165_)⟩
            · have b170_ : 0 ≤ Int32.toInt n1 ∧ Int32.toInt n1 ≤ 0 := (by have u0 := b13_; have u1 := (zi_eq _ _).mp c168_; have u2 := (show 0 ≤ Int32.toInt 0 ∧ Int32.toInt 0 ≤ 0 from (by decide)); omega)
              refine pw_blk hT 2 (S' := (98, [some (pvR 124), some (pvI n1), some (pvI (M.1 124 3)), some (pvI i3z160_), some (pvI i4z160_), v5z160_], [pvI i3z160_], M164_)) rfl ⟨trivial, trivial, trivial⟩ ?_
              exact pw_ret hT rfl (r := some (pvI i3z160_)) (M' := M164_) ⟨rfl, rfl⟩ ⟨⟨_, rfl, (zr_wide h3z160_ (by decide) (by decide))⟩, o166_, f167_, (pvu_s e165_)⟩
          · have b171_ : 0 ≤ Int32.toInt (Mz160_.1 124 3) ∧ Int32.toInt (Mz160_.1 124 3) ≤ 99 := zr_nle_r 99 c162_ b161_ (show 100 ≤ Int32.toInt 100 ∧ Int32.toInt 100 ≤ 100 from (by decide)) (by decide)
            refine pw_blk hT 2 (S' := (46, [some (pvR 124), some (pvI n1), some (pvI (M.1 124 3)), some (pvI i3z160_), some (pvI i4z160_), v5z160_], [pvI 0, pvR 124], Mz160_)) rfl ⟨trivial, trivial, trivial⟩ ?_
            refine pw_callG hT (as := [pvR 124, pvI 0]) (lo1 := [some (pvR 124), some (pvI 0), none]) (d1 := d) (rest := []) rfl rfl rfl rfl rfl (fun _ => rfl) (Nat.zero_le _) rfl rfl rfl (sf_X10_costOfPath_124_x Mz160_ oz160_ 0 (zr_wide (show 0 ≤ Int32.toInt 0 ∧ Int32.toInt 0 ≤ 0 from (by decide)) (by decide) (by decide)) d) (fun x172_ M173_ b174_ o175_ g176_ => ?_)
            have f177_ : pvFr fp_eX10_begin_124_x M M173_ := pvfr_t g176_ fz160_ fp_eX10_begin_124_x_fp_X10_costOfPath_124_x
            refine pw_blk hT 3 (S' := (55, [some (pvR 124), some (pvI n1), some (pvI (M.1 124 3)), some (pvI i3z160_), some (pvI i4z160_), some (pvI x172_)], [pvI i4z160_, pvI x172_], M173_)) rfl ⟨trivial, trivial, trivial, trivial⟩ ?_
            refine pw_ic hT (c := i4z160_ < x172_) rfl rfl (fun c178_ => ?_) (fun c178_ => ?_)
            · have b179_ : (-1) ≤ Int32.toInt i4z160_ ∧ Int32.toInt i4z160_ ≤ 8999999 := zr_lt_l 8999999 c178_ h4z160_ b174_ (by decide)
              have d180_ : Int32.toInt i4z160_ < Int32.toInt x172_ := (zi_lt _ _).mp c178_
              have e181_ : (M173_.1 124 3) = (Mz160_.1 124 3) := (g176_ 124 3 rfl)
              have b182_ : 0 ≤ Int32.toInt (M173_.1 124 3) ∧ Int32.toInt (M173_.1 124 3) ≤ 99 := (by rw [e181_]; exact b171_)
              obtain ⟨q184_, b183_⟩ : (Int32.toInt ((M173_.1 124 3) + 1) = Int32.toInt (M173_.1 124 3) + 1) ∧ (1 ≤ Int32.toInt ((M173_.1 124 3) + 1) ∧ Int32.toInt ((M173_.1 124 3) + 1) ≤ 100) := zadd_k (M173_.1 124 3) 1 1 1 100 b182_ (by decide) (by decide) (by decide) (by decide) (by decide)
              refine pw_blkw hT 11 (pc := 80) (lo := [some (pvR 124), some (pvI n1), some (pvI (M.1 124 3)), some (pvI (M173_.1 124 3)), some (pvI x172_), some (pvI x172_)]) (st := []) (M := pvu M173_ 124 3 ((M173_.1 124 3) + 1)) rfl ⟨trivial, rfl, trivial, trivial, trivial, trivial, trivial, rfl, trivial, trivial, rfl, trivial⟩ (fun M185_ e186_ => ?_)
              have o187_ : pvOk M185_ := pvok_u2 e186_ o175_ rfl (zr_wide b183_ (by decide) (by decide))
              have f188_ : pvFr fp_eX10_begin_124_x M M185_ := pvfr_u e186_ f177_ rfl
              refine pw_blk hT 1 (S' := (35, [some (pvR 124), some (pvI n1), some (pvI (M.1 124 3)), some (pvI (M173_.1 124 3)), some (pvI x172_), some (pvI x172_)], [], M185_)) rfl ⟨trivial, trivial⟩ ?_
              exact ihz160_ (M173_.1 124 3) x172_ (some (pvI x172_)) M185_ o187_ f188_ (zr_wide b182_ (by decide) (by decide)) (zr_wide b174_ (by decide) (by decide)) (zhid (by have hm0 := zshow hmz160_; have z1 : Int32.toInt (M185_.1 124 3) = Int32.toInt ((M173_.1 124 3) + 1) := congrArg Int32.toInt (pvu_s e186_); have z2 : Int32.toInt (M173_.1 124 3) = Int32.toInt (Mz160_.1 124 3) := congrArg Int32.toInt (g176_ 124 3 rfl); omega))
            · have b189_ : 0 ≤ Int32.toInt i4z160_ ∧ Int32.toInt i4z160_ ≤ 2147483647 := zr_nlt_l 0 c178_ h4z160_ b174_ (by decide)
              have d190_ : Int32.toInt i4z160_ ≥ Int32.toInt x172_ := Int.not_lt.mp ((not_congr (zi_lt _ _)).mp c178_)
              have e191_ : (M173_.1 124 3) = (Mz160_.1 124 3) := (g176_ 124 3 rfl)
              have b192_ : 0 ≤ Int32.toInt (M173_.1 124 3) ∧ Int32.toInt (M173_.1 124 3) ≤ 99 := (by rw [e191_]; exact b171_)
              obtain ⟨q194_, b193_⟩ : (Int32.toInt ((M173_.1 124 3) + 1) = Int32.toInt (M173_.1 124 3) + 1) ∧ (1 ≤ Int32.toInt ((M173_.1 124 3) + 1) ∧ Int32.toInt ((M173_.1 124 3) + 1) ≤ 100) := zadd_k (M173_.1 124 3) 1 1 1 100 b192_ (by decide) (by decide) (by decide) (by decide) (by decide)
              refine pw_blkw hT 7 (pc := 80) (lo := [some (pvR 124), some (pvI n1), some (pvI (M.1 124 3)), some (pvI i3z160_), some (pvI i4z160_), some (pvI x172_)]) (st := []) (M := pvu M173_ 124 3 ((M173_.1 124 3) + 1)) rfl ⟨trivial, trivial, trivial, rfl, trivial, trivial, rfl, trivial⟩ (fun M195_ e196_ => ?_)
              have o197_ : pvOk M195_ := pvok_u2 e196_ o175_ rfl (zr_wide b193_ (by decide) (by decide))
              have f198_ : pvFr fp_eX10_begin_124_x M M195_ := pvfr_u e196_ f177_ rfl
              refine pw_blk hT 1 (S' := (35, [some (pvR 124), some (pvI n1), some (pvI (M.1 124 3)), some (pvI i3z160_), some (pvI i4z160_), some (pvI x172_)], [], M195_)) rfl ⟨trivial, trivial⟩ ?_
              exact ihz160_ i3z160_ i4z160_ (some (pvI x172_)) M195_ o197_ f198_ h3z160_ (zr_wide b189_ (by decide) (by decide)) (zhid (by have hm0 := zshow hmz160_; have z1 : Int32.toInt (M195_.1 124 3) = Int32.toInt ((M173_.1 124 3) + 1) := congrArg Int32.toInt (pvu_s e196_); have z2 : Int32.toInt (M173_.1 124 3) = Int32.toInt (Mz160_.1 124 3) := congrArg Int32.toInt (g176_ 124 3 rfl); omega))
      exact hlz160_ _ 0 (-1) none M28_ o30_ f31_ (zr_wide (show 0 ≤ Int32.toInt 0 ∧ Int32.toInt 0 ≤ 0 from (by decide)) (by decide) (by decide)) (zr_wide (show (-1) ≤ Int32.toInt (-1) ∧ Int32.toInt (-1) ≤ (-1) from (by decide)) (by decide) (by decide)) (zhid (Nat.lt_succ_self _))
def fpL_eX10_book_124_x_x : List (Nat × Nat × Nat) := [(0, 124, 44), (0, 149, 0), (0, 150, 0)]
def fp_eX10_book_124_x_x (q k : Nat) : Bool := pvfp fpL_eX10_book_124_x_x q k
set_option maxHeartbeats 4000000 in
set_option maxRecDepth 10000 in
theorem se_X10_book_124_x_x (M : pvM) (hok : pvOk M) (n1 : Int32) (n2 : Int32) (d : Nat) : PW 12 d (0, [some (pvR 124), some (pvI n1), some (pvI n2)], [], M) (fun r X => (∃ x : Int32, r = some (pvI x) ∧ ((-4) ≤ Int32.toInt x ∧ Int32.toInt x ≤ 8) ∧ x = (if n1 = (-1) then 0 else (if n1 < 0 then (-1) else (if ((M.1 124 0) - 1) < n1 then (-1) else (if n2 < 0 then (-2) else (if 9999 < n2 then (-2) else (if (M.1 124 43) = 8 then (-4) else ((M.1 124 43) + 1)))))))) ∧ pvOk X ∧ pvFr fp_eX10_book_124_x_x M X ∧ X.1 124 43 = (if n1 = (-1) then 0 else (if n1 < 0 then (M.1 124 43) else (if ((M.1 124 0) - 1) < n1 then (M.1 124 43) else (if n2 < 0 then (M.1 124 43) else (if 9999 < n2 then (M.1 124 43) else (if (M.1 124 43) = 8 then (M.1 124 43) else ((M.1 124 43) + 1)))))))) := by
  have hT : pvdom 12 = pvD_12 := rfl
  refine pw_blk hT 2 (S' := (2, [some (pvR 124), some (pvI n1), some (pvI n2)], [pvI (-1), pvI n1], M)) rfl ⟨trivial, trivial, trivial⟩ ?_
  refine pw_icn hT (c := n1 = (-1)) rfl rfl (fun c1_ => ?_) (fun c1_ => ?_)
  · refine pw_blk hT 2 (S' := (14, [some (pvR 124), some (pvI n1), some (pvI n2)], [pvI n1, pvR 124], M)) rfl ⟨trivial, trivial, trivial⟩ ?_
    refine pw_callT hT (as := [pvR 124, pvI n1]) (lo1 := [some (pvR 124), some (pvI n1)]) (d1 := d) (rest := []) rfl rfl rfl rfl rfl (fun _ => rfl) (Nat.zero_le _) rfl rfl rfl (sf_X10_isWindow_124_x M hok n1 d) ?_
    by_cases c7_ : n1 < 0
    · refine pw_eqI (if_pos c7_) ?_
      have b8_ : (-2147483648) ≤ Int32.toInt n1 ∧ Int32.toInt n1 ≤ (-2) := (by have u0 := (zbnd n1); have u9 := (show _ ∧ _ from ⟨(zi_lt _ _).mp c7_, (show 0 ≤ Int32.toInt 0 ∧ Int32.toInt 0 ≤ 0 from (by decide))⟩); have v1 := (not_congr (zi_eq _ _)).mp c1_; have w1 : ((-1) : Int32).toInt = -1 := (by decide); omega)
      show PW 12 d (17, [some (pvR 124), some (pvI n1), some (pvI n2)], [pvI 0], M) _
      refine pw_ifn hT (c := 0 = 0) rfl rfl (fun c9_ => absurd (by decide) c9_) (fun c9_ => ?_)
      refine pw_blk hT 1 (S' := (21, [some (pvR 124), some (pvI n1), some (pvI n2)], [pvI (-1)], M)) rfl ⟨trivial, trivial⟩ ?_
      exact pw_ret hT rfl (r := some (pvI (-1))) (M' := M) ⟨rfl, rfl⟩ ⟨⟨_, rfl, (zr_wide (show (-1) ≤ Int32.toInt (-1) ∧ Int32.toInt (-1) ≤ (-1) from (by decide)) (by decide) (by decide)), (by rw [if_neg c1_, if_pos c7_]; first | done | (rw [if_pos c7_]; done))⟩, hok, pvfr_0, (by rw [if_neg c1_, if_pos c7_]; first | done | exact rfl | (rw [if_pos c7_]; done) | (rw [if_pos c7_]; exact rfl))⟩
    · refine pw_eqI (if_neg c7_) ?_
      have b10_ : 0 ≤ Int32.toInt n1 ∧ Int32.toInt n1 ≤ 2147483647 := zr_nlt_l 0 c7_ (zbnd n1) (show 0 ≤ Int32.toInt 0 ∧ Int32.toInt 0 ≤ 0 from (by decide)) (by decide)
      have b11_ : 0 ≤ Int32.toInt (M.1 124 0) ∧ Int32.toInt (M.1 124 0) ≤ 7 := pvok_r hok 124 0 rfl
      obtain ⟨q13_, b12_⟩ : (Int32.toInt ((M.1 124 0) - 1) = Int32.toInt (M.1 124 0) - 1) ∧ ((-1) ≤ Int32.toInt ((M.1 124 0) - 1) ∧ Int32.toInt ((M.1 124 0) - 1) ≤ 6) := zsub_k (M.1 124 0) 1 1 (-1) 6 b11_ (by decide) (by decide) (by decide) (by decide) (by decide)
      by_cases c14_ : ((M.1 124 0) - 1) < n1
      · refine pw_eqI (if_pos c14_) ?_
        have d15_ : Int32.toInt ((M.1 124 0) - 1) < Int32.toInt n1 := (zi_lt _ _).mp c14_
        show PW 12 d (17, [some (pvR 124), some (pvI n1), some (pvI n2)], [pvI 0], M) _
        refine pw_ifn hT (c := 0 = 0) rfl rfl (fun c16_ => absurd (by decide) c16_) (fun c16_ => ?_)
        refine pw_blk hT 1 (S' := (21, [some (pvR 124), some (pvI n1), some (pvI n2)], [pvI (-1)], M)) rfl ⟨trivial, trivial⟩ ?_
        exact pw_ret hT rfl (r := some (pvI (-1))) (M' := M) ⟨rfl, rfl⟩ ⟨⟨_, rfl, (zr_wide (show (-1) ≤ Int32.toInt (-1) ∧ Int32.toInt (-1) ≤ (-1) from (by decide)) (by decide) (by decide)), (by rw [if_neg c1_, if_neg c7_, if_pos c14_]; first | done | (rw [if_pos c14_]; done))⟩, hok, pvfr_0, (by rw [if_neg c1_, if_neg c7_, if_pos c14_]; first | done | exact rfl | (rw [if_pos c14_]; done) | (rw [if_pos c14_]; exact rfl))⟩
      · refine pw_eqI (if_neg c14_) ?_
        have b17_ : 0 ≤ Int32.toInt ((M.1 124 0) - 1) ∧ Int32.toInt ((M.1 124 0) - 1) ≤ 6 := zr_nlt_l 0 c14_ b12_ b10_ (by decide)
        have b18_ : 0 ≤ Int32.toInt n1 ∧ Int32.toInt n1 ≤ 6 := zr_nlt_r 6 c14_ b10_ b17_ (by decide)
        have d19_ : Int32.toInt ((M.1 124 0) - 1) ≥ Int32.toInt n1 := Int.not_lt.mp ((not_congr (zi_lt _ _)).mp c14_)
        show PW 12 d (17, [some (pvR 124), some (pvI n1), some (pvI n2)], [pvI 1], M) _
        refine pw_ifn hT (c := 1 = 0) rfl rfl (fun c20_ => ?_) (fun c20_ => absurd c20_ (by decide))
        refine pw_blk hT 4 (S' := (28, [some (pvR 124), some (pvI n1), some (pvI n2)], [pvI 9999, pvI 0, pvI n2, pvR 124], M)) rfl ⟨trivial, trivial, trivial, trivial, trivial⟩ ?_
        refine pw_callT hT (as := [pvR 124, pvI n2, pvI 0, pvI 9999]) (lo1 := [some (pvR 124), some (pvI n2), some (pvI 0), some (pvI 9999)]) (d1 := d) (rest := []) rfl rfl rfl rfl rfl (fun _ => rfl) (Nat.zero_le _) rfl rfl rfl (sf_X10_in_124_x_x_x M hok n2 0 9999 d) ?_
        by_cases c26_ : n2 < 0
        · refine pw_eqI (if_pos c26_) ?_
          have b27_ : (-2147483648) ≤ Int32.toInt n2 ∧ Int32.toInt n2 ≤ (-1) := zr_lt_l (-1) c26_ (zbnd n2) (show 0 ≤ Int32.toInt 0 ∧ Int32.toInt 0 ≤ 0 from (by decide)) (by decide)
          show PW 12 d (31, [some (pvR 124), some (pvI n1), some (pvI n2)], [pvI 0], M) _
          refine pw_ifn hT (c := 0 = 0) rfl rfl (fun c28_ => absurd (by decide) c28_) (fun c28_ => ?_)
          refine pw_blk hT 1 (S' := (36, [some (pvR 124), some (pvI n1), some (pvI n2)], [pvI (-2)], M)) rfl ⟨trivial, trivial⟩ ?_
          exact pw_ret hT rfl (r := some (pvI (-2))) (M' := M) ⟨rfl, rfl⟩ ⟨⟨_, rfl, (zr_wide (show (-2) ≤ Int32.toInt (-2) ∧ Int32.toInt (-2) ≤ (-2) from (by decide)) (by decide) (by decide)), (by rw [if_neg c1_, if_neg c7_, if_neg c14_, if_pos c26_]; first | done | (rw [if_pos c26_]; done))⟩, hok, pvfr_0, (by rw [if_neg c1_, if_neg c7_, if_neg c14_, if_pos c26_]; first | done | exact rfl | (rw [if_pos c26_]; done) | (rw [if_pos c26_]; exact rfl))⟩
        · refine pw_eqI (if_neg c26_) ?_
          have b29_ : 0 ≤ Int32.toInt n2 ∧ Int32.toInt n2 ≤ 2147483647 := zr_nlt_l 0 c26_ (zbnd n2) (show 0 ≤ Int32.toInt 0 ∧ Int32.toInt 0 ≤ 0 from (by decide)) (by decide)
          by_cases c30_ : 9999 < n2
          · refine pw_eqI (if_pos c30_) ?_
            have b31_ : 10000 ≤ Int32.toInt n2 ∧ Int32.toInt n2 ≤ 2147483647 := zr_lt_r 10000 c30_ b29_ (show 9999 ≤ Int32.toInt 9999 ∧ Int32.toInt 9999 ≤ 9999 from (by decide)) (by decide)
            show PW 12 d (31, [some (pvR 124), some (pvI n1), some (pvI n2)], [pvI 0], M) _
            refine pw_ifn hT (c := 0 = 0) rfl rfl (fun c32_ => absurd (by decide) c32_) (fun c32_ => ?_)
            refine pw_blk hT 1 (S' := (36, [some (pvR 124), some (pvI n1), some (pvI n2)], [pvI (-2)], M)) rfl ⟨trivial, trivial⟩ ?_
            exact pw_ret hT rfl (r := some (pvI (-2))) (M' := M) ⟨rfl, rfl⟩ ⟨⟨_, rfl, (zr_wide (show (-2) ≤ Int32.toInt (-2) ∧ Int32.toInt (-2) ≤ (-2) from (by decide)) (by decide) (by decide)), (by rw [if_neg c1_, if_neg c7_, if_neg c14_, if_neg c26_, if_pos c30_]; first | done | (rw [if_pos c30_]; done))⟩, hok, pvfr_0, (by rw [if_neg c1_, if_neg c7_, if_neg c14_, if_neg c26_, if_pos c30_]; first | done | exact rfl | (rw [if_pos c30_]; done) | (rw [if_pos c30_]; exact rfl))⟩
          · refine pw_eqI (if_neg c30_) ?_
            have b33_ : 0 ≤ Int32.toInt n2 ∧ Int32.toInt n2 ≤ 9999 := zr_nlt_r 9999 c30_ b29_ (show 9999 ≤ Int32.toInt 9999 ∧ Int32.toInt 9999 ≤ 9999 from (by decide)) (by decide)
            show PW 12 d (31, [some (pvR 124), some (pvI n1), some (pvI n2)], [pvI 1], M) _
            refine pw_ifn hT (c := 1 = 0) rfl rfl (fun c34_ => ?_) (fun c34_ => absurd c34_ (by decide))
            have b35_ : 0 ≤ Int32.toInt (M.1 124 43) ∧ Int32.toInt (M.1 124 43) ≤ 8 := pvok_r hok 124 43 rfl
            refine pw_blk hT 3 (S' := (43, [some (pvR 124), some (pvI n1), some (pvI n2)], [pvI 8, pvI (M.1 124 43)], M)) rfl ⟨trivial, rfl, trivial, trivial⟩ ?_
            refine pw_icn hT (c := (M.1 124 43) = 8) rfl rfl (fun c36_ => ?_) (fun c36_ => ?_)
            · have b37_ : 0 ≤ Int32.toInt (M.1 124 43) ∧ Int32.toInt (M.1 124 43) ≤ 7 := (by have u0 := b35_; have u1 := (not_congr (zi_eq _ _)).mp c36_; have u2 := (show 8 ≤ Int32.toInt 8 ∧ Int32.toInt 8 ≤ 8 from (by decide)); omega)
              refine pw_blkw hT 6 (pc := 59) (lo := [some (pvR 124), some (pvI n1), some (pvI n2)]) (st := []) (M := pvu M 149 (Int32.toNatClampNeg (M.1 124 43)) n1) rfl ⟨trivial, rfl, trivial, rfl, trivial, ⟨rfl, (zr_in (n := 8) b37_ (by decide) (by decide))⟩, trivial⟩ (fun M38_ e39_ => ?_)
              have o40_ : pvOk M38_ := pvok_u2 e39_ hok rfl b18_
              have f41_ : pvFr fp_eX10_book_124_x_x M M38_ := pvfr_u e39_ pvfr_0 rfl
              have e42_ : (M38_.1 124 43) = (M.1 124 43) := (pvu_n e39_ 124 43 (Or.inl (by decide)))
              have b43_ : 0 ≤ Int32.toInt (M38_.1 124 43) ∧ Int32.toInt (M38_.1 124 43) ≤ 7 := (by rw [e42_]; exact b37_)
              refine pw_blkw hT 6 (pc := 69) (lo := [some (pvR 124), some (pvI n1), some (pvI n2)]) (st := []) (M := pvu M38_ 150 (Int32.toNatClampNeg (M38_.1 124 43)) n2) rfl ⟨trivial, rfl, trivial, rfl, trivial, ⟨rfl, (zr_in (n := 8) b43_ (by decide) (by decide))⟩, trivial⟩ (fun M44_ e45_ => ?_)
              have o46_ : pvOk M44_ := pvok_u2 e45_ o40_ rfl b33_
              have f47_ : pvFr fp_eX10_book_124_x_x M M44_ := pvfr_u e45_ f41_ rfl
              have e48_ : (M44_.1 124 43) = (M38_.1 124 43) := (pvu_n e45_ 124 43 (Or.inl (by decide)))
              have b49_ : 0 ≤ Int32.toInt (M44_.1 124 43) ∧ Int32.toInt (M44_.1 124 43) ≤ 7 := (by rw [e48_]; exact b43_)
              obtain ⟨q51_, b50_⟩ : (Int32.toInt ((M44_.1 124 43) + 1) = Int32.toInt (M44_.1 124 43) + 1) ∧ (1 ≤ Int32.toInt ((M44_.1 124 43) + 1) ∧ Int32.toInt ((M44_.1 124 43) + 1) ≤ 8) := zadd_k (M44_.1 124 43) 1 1 1 8 b49_ (by decide) (by decide) (by decide) (by decide) (by decide)
              refine pw_blkw hT 6 (pc := 79) (lo := [some (pvR 124), some (pvI n1), some (pvI n2)]) (st := []) (M := pvu M44_ 124 43 ((M44_.1 124 43) + 1)) rfl ⟨trivial, trivial, rfl, trivial, trivial, rfl, trivial⟩ (fun M52_ e53_ => ?_)
              have o54_ : pvOk M52_ := pvok_u2 e53_ o46_ rfl (zr_wide b50_ (by decide) (by decide))
              have f55_ : pvFr fp_eX10_book_124_x_x M M52_ := pvfr_u e53_ f47_ rfl
              have e56_ : (M52_.1 124 43) = ((M44_.1 124 43) + 1) := (pvu_s e53_)
              have b57_ : 1 ≤ Int32.toInt (M52_.1 124 43) ∧ Int32.toInt (M52_.1 124 43) ≤ 8 := (by rw [e56_]; exact b50_)
              refine pw_blk hT 2 (S' := (83, [some (pvR 124), some (pvI n1), some (pvI n2)], [pvI (M52_.1 124 43)], M52_)) rfl ⟨trivial, rfl, trivial⟩ ?_
              exact pw_ret hT rfl (r := some (pvI (M52_.1 124 43))) (M' := M52_) ⟨rfl, rfl⟩ ⟨⟨_, rfl, (zr_wide b57_ (by decide) (by decide)), (by rw [if_neg c1_, if_neg c7_, if_neg c14_, if_neg c26_, if_neg c30_, if_neg c36_]; first | done | exact (show (M52_.1 124 43) = ((M.1 124 43) + 1) from by rw [((pvu_s e53_).trans (show ((M44_.1 124 43) + 1) = ((M.1 124 43) + 1) from by rw [((pvu_n e45_ 124 43 (Or.inl (by decide))).trans (pvu_n e39_ 124 43 (Or.inl (by decide))))]))]) | (rw [if_neg c36_]; exact (show (M52_.1 124 43) = ((M.1 124 43) + 1) from by rw [((pvu_s e53_).trans (show ((M44_.1 124 43) + 1) = ((M.1 124 43) + 1) from by rw [((pvu_n e45_ 124 43 (Or.inl (by decide))).trans (pvu_n e39_ 124 43 (Or.inl (by decide))))]))])))⟩, o54_, f55_, (by rw [if_neg c1_, if_neg c7_, if_neg c14_, if_neg c26_, if_neg c30_, if_neg c36_]; first | done | exact ((pvu_s e53_).trans (show ((M44_.1 124 43) + 1) = ((M.1 124 43) + 1) from by rw [((pvu_n e45_ 124 43 (Or.inl (by decide))).trans (pvu_n e39_ 124 43 (Or.inl (by decide))))])) | (rw [if_neg c36_]; done) | (rw [if_neg c36_]; exact ((pvu_s e53_).trans (show ((M44_.1 124 43) + 1) = ((M.1 124 43) + 1) from by rw [((pvu_n e45_ 124 43 (Or.inl (by decide))).trans (pvu_n e39_ 124 43 (Or.inl (by decide))))]))))⟩
            · have b58_ : 8 ≤ Int32.toInt (M.1 124 43) ∧ Int32.toInt (M.1 124 43) ≤ 8 := (by have u0 := b35_; have u1 := (zi_eq _ _).mp c36_; have u2 := (show 8 ≤ Int32.toInt 8 ∧ Int32.toInt 8 ≤ 8 from (by decide)); omega)
              refine pw_blk hT 1 (S' := (48, [some (pvR 124), some (pvI n1), some (pvI n2)], [pvI (-4)], M)) rfl ⟨trivial, trivial⟩ ?_
              exact pw_ret hT rfl (r := some (pvI (-4))) (M' := M) ⟨rfl, rfl⟩ ⟨⟨_, rfl, (zr_wide (show (-4) ≤ Int32.toInt (-4) ∧ Int32.toInt (-4) ≤ (-4) from (by decide)) (by decide) (by decide)), (by rw [if_neg c1_, if_neg c7_, if_neg c14_, if_neg c26_, if_neg c30_, if_pos c36_]; first | done | (rw [if_pos c36_]; done))⟩, hok, pvfr_0, (by rw [if_neg c1_, if_neg c7_, if_neg c14_, if_neg c26_, if_neg c30_, if_pos c36_]; first | done | exact rfl | (rw [if_pos c36_]; done) | (rw [if_pos c36_]; exact rfl))⟩
  · have b59_ : (-1) ≤ Int32.toInt n1 ∧ Int32.toInt n1 ≤ (-1) := (by have u0 := (zbnd n1); have u1 := (zi_eq _ _).mp c1_; have u2 := (show (-1) ≤ Int32.toInt (-1) ∧ Int32.toInt (-1) ≤ (-1) from (by decide)); omega)
    refine pw_blkw hT 3 (pc := 10) (lo := [some (pvR 124), some (pvI n1), some (pvI n2)]) (st := []) (M := pvu M 124 43 0) rfl ⟨trivial, trivial, rfl, trivial⟩ (fun M60_ e61_ => ?_)
    have o62_ : pvOk M60_ := pvok_u2 e61_ hok rfl (zr_wide (show 0 ≤ Int32.toInt 0 ∧ Int32.toInt 0 ≤ 0 from (by decide)) (by decide) (by decide))
    have f63_ : pvFr fp_eX10_book_124_x_x M M60_ := pvfr_u e61_ pvfr_0 rfl
    refine pw_blk hT 1 (S' := (11, [some (pvR 124), some (pvI n1), some (pvI n2)], [pvI 0], M60_)) rfl ⟨trivial, trivial⟩ ?_
    exact pw_ret hT rfl (r := some (pvI 0)) (M' := M60_) ⟨rfl, rfl⟩ ⟨⟨_, rfl, (zr_wide (show 0 ≤ Int32.toInt 0 ∧ Int32.toInt 0 ≤ 0 from (by decide)) (by decide) (by decide)), (by rw [if_pos c1_]; first | done | (rw [if_pos c1_]; done))⟩, o62_, f63_, (by rw [if_pos c1_]; first | done | exact (pvu_s e61_) | (rw [if_pos c1_]; done) | (rw [if_pos c1_]; exact (pvu_s e61_)))⟩
def fpL_eX10_from_124 : List (Nat × Nat × Nat) := [(0, 124, 33), (0, 124, 5), (0, 141, 0), (0, 142, 0), (0, 143, 0)]
def fp_eX10_from_124 (q k : Nat) : Bool := pvfp fpL_eX10_from_124 q k
theorem fp_eX10_from_124_fp_X10_layOpen_124 (a b : Nat) (h : fp_X10_layOpen_124 a b = true) : fp_eX10_from_124 a b = true := pvfp_sub (l1 := fpL_X10_layOpen_124) (l2 := fpL_eX10_from_124) (by decide) a b h
theorem fp_eX10_from_124_fp_X10_layRain_124 (a b : Nat) (h : fp_X10_layRain_124 a b = true) : fp_eX10_from_124 a b = true := pvfp_sub (l1 := fpL_X10_layRain_124) (l2 := fpL_eX10_from_124) (by decide) a b h
set_option maxHeartbeats 4000000 in
set_option maxRecDepth 10000 in
theorem se_X10_from_124 (M : pvM) (hok : pvOk M) (hz : pvWF M) (d : Nat) : PW 22 d (0, [some (pvR 124), none, none, none, none], [], M) (fun r X => (∃ x : Int32, r = some (pvI x) ∧ True) ∧ pvOk X ∧ pvFr fp_eX10_from_124 M X ∧ X.1 124 4 = M.1 124 4) := by
  have hT : pvdom 22 = pvD_22 := rfl
  have b1_ : 0 ≤ Int32.toInt (M.1 124 4) ∧ Int32.toInt (M.1 124 4) ≤ 4 := pvok_r hok 124 4 rfl
  refine pw_blk hT 6 (S' := (8, [some (pvR 124), some (pvI (M.1 124 4)), some (pvI 0), none, none], [pvR 124], M)) rfl ⟨trivial, rfl, trivial, trivial, trivial, trivial, trivial⟩ ?_
  refine pw_callV hT (as := [pvR 124]) (lo1 := [some (pvR 124), none]) (d1 := d) (rest := []) rfl rfl rfl rfl rfl (fun _ => rfl) (Nat.zero_le _) rfl rfl rfl (sf_X10_layOpen_124 M hok d) (fun M3_ o5_ g6_ => ?_)
  have f7_ : pvFr fp_eX10_from_124 M M3_ := pvfr_t g6_ pvfr_0 fp_eX10_from_124_fp_X10_layOpen_124
  refine pw_blkw hT 3 (pc := 16) (lo := [some (pvR 124), some (pvI (M.1 124 4)), some (pvI 0), none, none]) (st := []) (M := pvu M3_ 124 4 0) rfl ⟨trivial, trivial, rfl, trivial⟩ (fun M8_ e9_ => ?_)
  have o10_ : pvOk M8_ := pvok_u2 e9_ o5_ rfl (zr_wide (show 0 ≤ Int32.toInt 0 ∧ Int32.toInt 0 ≤ 0 from (by decide)) (by decide) (by decide))
  have f11_ : pvFr fp_eX10_from_124 M M8_ := pvfr_u e9_ f7_ rfl
  have hlz553_ : ∀ (nz553_ : Nat) (i2z553_ : Int32) (v3z553_ : Option pvV) (v4z553_ : Option pvV) (Mz553_ : pvM), (pvOk Mz553_) → (pvFr fp_eX10_from_124 M Mz553_) → (zhide ((5 - Int32.toInt (Mz553_.1 124 4)).toNat < nz553_)) → PW 22 d (16, [some (pvR 124), some (pvI (M.1 124 4)), some (pvI i2z553_), v3z553_, v4z553_], [], Mz553_) (fun r X => (∃ x : Int32, r = some (pvI x) ∧ True) ∧ pvOk X ∧ pvFr fp_eX10_from_124 M X ∧ X.1 124 4 = M.1 124 4) := by
    intro nz553_
    induction nz553_ with
    | zero => intro i2z553_ v3z553_ v4z553_ Mz553_ oz553_ fz553_ hmz553_; exact absurd (zshow hmz553_) (Nat.not_lt_zero _)
    | succ nz553_ ihz553_ =>
      intro i2z553_ v3z553_ v4z553_ Mz553_ oz553_ fz553_ hmz553_
      have b554_ : 0 ≤ Int32.toInt (Mz553_.1 124 4) ∧ Int32.toInt (Mz553_.1 124 4) ≤ 4 := pvok_r oz553_ 124 4 rfl
      refine pw_blk hT 3 (S' := (21, [some (pvR 124), some (pvI (M.1 124 4)), some (pvI i2z553_), v3z553_, v4z553_], [pvI 4, pvI (Mz553_.1 124 4)], Mz553_)) rfl ⟨trivial, rfl, trivial, trivial⟩ ?_
      refine pw_ic hT (c := 4 ≤ (Mz553_.1 124 4)) rfl rfl (fun c555_ => ?_) (fun c555_ => ?_)
      · have b556_ : 4 ≤ Int32.toInt (Mz553_.1 124 4) ∧ Int32.toInt (Mz553_.1 124 4) ≤ 4 := zr_le_r 4 c555_ b554_ (show 4 ≤ Int32.toInt 4 ∧ Int32.toInt 4 ≤ 4 from (by decide)) (by decide)
        refine pw_blkw hT 3 (pc := 114) (lo := [some (pvR 124), some (pvI (M.1 124 4)), some (pvI i2z553_), v3z553_, v4z553_]) (st := []) (M := pvu Mz553_ 124 4 (M.1 124 4)) rfl ⟨trivial, trivial, rfl, trivial⟩ (fun M557_ e558_ => ?_)
        have o559_ : pvOk M557_ := pvok_u2 e558_ oz553_ rfl b1_
        have f560_ : pvFr fp_eX10_from_124 M M557_ := pvfr_u e558_ fz553_ rfl
        refine pw_blk hT 1 (S' := (115, [some (pvR 124), some (pvI (M.1 124 4)), some (pvI i2z553_), v3z553_, v4z553_], [pvI i2z553_], M557_)) rfl ⟨trivial, trivial⟩ ?_
        exact pw_ret hT rfl (r := some (pvI i2z553_)) (M' := M557_) ⟨rfl, rfl⟩ ⟨⟨_, rfl, trivial⟩, o559_, f560_, (pvu_s e558_)⟩
      · have b561_ : 0 ≤ Int32.toInt (Mz553_.1 124 4) ∧ Int32.toInt (Mz553_.1 124 4) ≤ 3 := zr_nle_r 3 c555_ b554_ (show 4 ≤ Int32.toInt 4 ∧ Int32.toInt 4 ≤ 4 from (by decide)) (by decide)
        refine pw_blk hT 1 (S' := (25, [some (pvR 124), some (pvI (M.1 124 4)), some (pvI i2z553_), v3z553_, v4z553_], [pvR 124], Mz553_)) rfl ⟨trivial, trivial⟩ ?_
        refine pw_callV hT (as := [pvR 124]) (lo1 := [some (pvR 124), none, none]) (d1 := d) (rest := []) rfl rfl rfl rfl rfl (fun _ => rfl) (Nat.zero_le _) rfl rfl rfl (sf_X10_layRain_124 Mz553_ oz553_ (pvWF_fr (L := fpL_eX10_from_124) rfl fz553_ hz) d) (fun M563_ o565_ g566_ => ?_)
        have f567_ : pvFr fp_eX10_from_124 M M563_ := pvfr_t g566_ fz553_ fp_eX10_from_124_fp_X10_layRain_124
        refine pw_blk hT 4 (S' := (33, [some (pvR 124), some (pvI (M.1 124 4)), some (pvI i2z553_), some (pvI 1), some (pvI 0)], [], M563_)) rfl ⟨trivial, trivial, trivial, trivial, trivial⟩ ?_
        have e568_ : (M563_.1 124 4) = (Mz553_.1 124 4) := (g566_ 124 4 rfl)
        have b569_ : 0 ≤ Int32.toInt (M563_.1 124 4) ∧ Int32.toInt (M563_.1 124 4) ≤ 3 := (by rw [e568_]; exact b561_)
        have hlz689_ : ∀ (nz689_ : Nat) (i3z689_ : Int32) (i4z689_ : Int32), (0 ≤ Int32.toInt i3z689_ ∧ Int32.toInt i3z689_ ≤ 1) → (0 ≤ Int32.toInt i4z689_ ∧ Int32.toInt i4z689_ ≤ 6) → (zhide ((7 - Int32.toInt i4z689_).toNat < nz689_)) → PW 22 d (33, [some (pvR 124), some (pvI (M.1 124 4)), some (pvI i2z553_), some (pvI i3z689_), some (pvI i4z689_)], [], M563_) (fun r X => (∃ x : Int32, r = some (pvI x) ∧ True) ∧ pvOk X ∧ pvFr fp_eX10_from_124 M X ∧ X.1 124 4 = M.1 124 4) := by
          intro nz689_
          induction nz689_ with
          | zero => intro i3z689_ i4z689_ h3z689_ h4z689_ hmz689_; exact absurd (zshow hmz689_) (Nat.not_lt_zero _)
          | succ nz689_ ihz689_ =>
            intro i3z689_ i4z689_ h3z689_ h4z689_ hmz689_
            have b690_ : 0 ≤ Int32.toInt (M563_.1 124 40) ∧ Int32.toInt (M563_.1 124 40) ≤ 6 := pvok_r o565_ 124 40 rfl
            refine pw_blk hT 3 (S' := (39, [some (pvR 124), some (pvI (M.1 124 4)), some (pvI i2z553_), some (pvI i3z689_), some (pvI i4z689_)], [pvI (M563_.1 124 40), pvI i4z689_], M563_)) rfl ⟨trivial, trivial, rfl, trivial⟩ ?_
            refine pw_ic hT (c := (M563_.1 124 40) ≤ i4z689_) rfl rfl (fun c691_ => ?_) (fun c691_ => ?_)
            · have d692_ : Int32.toInt (M563_.1 124 40) ≤ Int32.toInt i4z689_ := (zi_le _ _).mp c691_
              refine pw_blk hT 2 (S' := (81, [some (pvR 124), some (pvI (M.1 124 4)), some (pvI i2z553_), some (pvI i3z689_), some (pvI i4z689_)], [pvI i3z689_, pvI i2z553_], M563_)) rfl ⟨trivial, trivial, trivial⟩ ?_
              refine pw_if hT (c := i3z689_ = 0) rfl rfl (fun c693_ => ?_) (fun c693_ => ?_)
              · have b694_ : 0 ≤ Int32.toInt i3z689_ ∧ Int32.toInt i3z689_ ≤ 0 := (by have u0 := h3z689_; have u1 := (zi_eq _ _).mp c693_; have u2 := (show 0 ≤ Int32.toInt 0 ∧ Int32.toInt 0 ≤ 0 from (by decide)); omega)
                obtain ⟨q696_, b695_⟩ : (Int32.toInt ((M563_.1 124 4) + 1) = Int32.toInt (M563_.1 124 4) + 1) ∧ (1 ≤ Int32.toInt ((M563_.1 124 4) + 1) ∧ Int32.toInt ((M563_.1 124 4) + 1) ≤ 4) := zadd_k (M563_.1 124 4) 1 1 1 4 b569_ (by decide) (by decide) (by decide) (by decide) (by decide)
                refine pw_blkw hT 9 (pc := 106) (lo := [some (pvR 124), some (pvI (M.1 124 4)), some (pvI (i2z553_ ||| 0)), some (pvI i3z689_), some (pvI i4z689_)]) (st := []) (M := pvu M563_ 124 4 ((M563_.1 124 4) + 1)) rfl ⟨trivial, trivial, trivial, trivial, trivial, rfl, trivial, trivial, rfl, trivial⟩ (fun M697_ e698_ => ?_)
                have o699_ : pvOk M697_ := pvok_u2 e698_ o565_ rfl (zr_wide b695_ (by decide) (by decide))
                have f700_ : pvFr fp_eX10_from_124 M M697_ := pvfr_u e698_ f567_ rfl
                refine pw_blk hT 1 (S' := (16, [some (pvR 124), some (pvI (M.1 124 4)), some (pvI (i2z553_ ||| 0)), some (pvI i3z689_), some (pvI i4z689_)], [], M697_)) rfl ⟨trivial, trivial⟩ ?_
                exact ihz553_ (i2z553_ ||| 0) (some (pvI i3z689_)) (some (pvI i4z689_)) M697_ o699_ f700_ (zhid (by have hm0 := zshow hmz553_; have z1 : Int32.toInt (M697_.1 124 4) = Int32.toInt ((M563_.1 124 4) + 1) := congrArg Int32.toInt (pvu_s e698_); have z2 : Int32.toInt (M563_.1 124 4) = Int32.toInt (Mz553_.1 124 4) := congrArg Int32.toInt (g566_ 124 4 rfl); omega))
              · have b701_ : 1 ≤ Int32.toInt i3z689_ ∧ Int32.toInt i3z689_ ≤ 1 := (by have u0 := h3z689_; have u1 := (not_congr (zi_eq _ _)).mp c693_; have u2 := (show 0 ≤ Int32.toInt 0 ∧ Int32.toInt 0 ≤ 0 from (by decide)); omega)
                obtain ⟨q703_, b702_⟩ : (Int32.toInt ((M563_.1 124 4) + 1) = Int32.toInt (M563_.1 124 4) + 1) ∧ (1 ≤ Int32.toInt ((M563_.1 124 4) + 1) ∧ Int32.toInt ((M563_.1 124 4) + 1) ≤ 4) := zadd_k (M563_.1 124 4) 1 1 1 4 b569_ (by decide) (by decide) (by decide) (by decide) (by decide)
                refine pw_blkw hT 13 (pc := 106) (lo := [some (pvR 124), some (pvI (M.1 124 4)), some (pvI (i2z553_ ||| (1 <<< ((M563_.1 124 4) &&& 31)))), some (pvI i3z689_), some (pvI i4z689_)]) (st := []) (M := pvu M563_ 124 4 ((M563_.1 124 4) + 1)) rfl ⟨trivial, trivial, rfl, trivial, trivial, trivial, trivial, trivial, trivial, rfl, trivial, trivial, rfl, trivial⟩ (fun M704_ e705_ => ?_)
                have o706_ : pvOk M704_ := pvok_u2 e705_ o565_ rfl (zr_wide b702_ (by decide) (by decide))
                have f707_ : pvFr fp_eX10_from_124 M M704_ := pvfr_u e705_ f567_ rfl
                refine pw_blk hT 1 (S' := (16, [some (pvR 124), some (pvI (M.1 124 4)), some (pvI (i2z553_ ||| (1 <<< ((M563_.1 124 4) &&& 31)))), some (pvI i3z689_), some (pvI i4z689_)], [], M704_)) rfl ⟨trivial, trivial⟩ ?_
                exact ihz553_ (i2z553_ ||| (1 <<< ((M563_.1 124 4) &&& 31))) (some (pvI i3z689_)) (some (pvI i4z689_)) M704_ o706_ f707_ (zhid (by have hm0 := zshow hmz553_; have z1 : Int32.toInt (M704_.1 124 4) = Int32.toInt ((M563_.1 124 4) + 1) := congrArg Int32.toInt (pvu_s e705_); have z2 : Int32.toInt (M563_.1 124 4) = Int32.toInt (Mz553_.1 124 4) := congrArg Int32.toInt (g566_ 124 4 rfl); omega))
            · have b708_ : 1 ≤ Int32.toInt (M563_.1 124 40) ∧ Int32.toInt (M563_.1 124 40) ≤ 6 := zr_nle_l 1 c691_ b690_ h4z689_ (by decide)
              have b709_ : 0 ≤ Int32.toInt i4z689_ ∧ Int32.toInt i4z689_ ≤ 5 := zr_nle_r 5 c691_ h4z689_ b708_ (by decide)
              have d710_ : Int32.toInt (M563_.1 124 40) > Int32.toInt i4z689_ := Int.not_le.mp ((not_congr (zi_le _ _)).mp c691_)
              refine pw_blk hT 1 (S' := (43, [some (pvR 124), some (pvI (M.1 124 4)), some (pvI i2z553_), some (pvI i3z689_), some (pvI i4z689_)], [pvI i3z689_], M563_)) rfl ⟨trivial, trivial⟩ ?_
              refine pw_if hT (c := i3z689_ = 0) rfl rfl (fun c711_ => ?_) (fun c711_ => ?_)
              · have b712_ : 0 ≤ Int32.toInt i3z689_ ∧ Int32.toInt i3z689_ ≤ 0 := (by have u0 := h3z689_; have u1 := (zi_eq _ _).mp c711_; have u2 := (show 0 ≤ Int32.toInt 0 ∧ Int32.toInt 0 ≤ 0 from (by decide)); omega)
                refine pw_blk hT 2 (S' := (81, [some (pvR 124), some (pvI (M.1 124 4)), some (pvI i2z553_), some (pvI i3z689_), some (pvI i4z689_)], [pvI i3z689_, pvI i2z553_], M563_)) rfl ⟨trivial, trivial, trivial⟩ ?_
                refine pw_if hT (c := i3z689_ = 0) rfl rfl (fun c713_ => ?_) (fun c713_ => absurd c711_ c713_)
                obtain ⟨q715_, b714_⟩ : (Int32.toInt ((M563_.1 124 4) + 1) = Int32.toInt (M563_.1 124 4) + 1) ∧ (1 ≤ Int32.toInt ((M563_.1 124 4) + 1) ∧ Int32.toInt ((M563_.1 124 4) + 1) ≤ 4) := zadd_k (M563_.1 124 4) 1 1 1 4 b569_ (by decide) (by decide) (by decide) (by decide) (by decide)
                refine pw_blkw hT 9 (pc := 106) (lo := [some (pvR 124), some (pvI (M.1 124 4)), some (pvI (i2z553_ ||| 0)), some (pvI i3z689_), some (pvI i4z689_)]) (st := []) (M := pvu M563_ 124 4 ((M563_.1 124 4) + 1)) rfl ⟨trivial, trivial, trivial, trivial, trivial, rfl, trivial, trivial, rfl, trivial⟩ (fun M716_ e717_ => ?_)
                have o718_ : pvOk M716_ := pvok_u2 e717_ o565_ rfl (zr_wide b714_ (by decide) (by decide))
                have f719_ : pvFr fp_eX10_from_124 M M716_ := pvfr_u e717_ f567_ rfl
                refine pw_blk hT 1 (S' := (16, [some (pvR 124), some (pvI (M.1 124 4)), some (pvI (i2z553_ ||| 0)), some (pvI i3z689_), some (pvI i4z689_)], [], M716_)) rfl ⟨trivial, trivial⟩ ?_
                exact ihz553_ (i2z553_ ||| 0) (some (pvI i3z689_)) (some (pvI i4z689_)) M716_ o718_ f719_ (zhid (by have hm0 := zshow hmz553_; have z1 : Int32.toInt (M716_.1 124 4) = Int32.toInt ((M563_.1 124 4) + 1) := congrArg Int32.toInt (pvu_s e717_); have z2 : Int32.toInt (M563_.1 124 4) = Int32.toInt (Mz553_.1 124 4) := congrArg Int32.toInt (g566_ 124 4 rfl); omega))
              · have b720_ : 1 ≤ Int32.toInt i3z689_ ∧ Int32.toInt i3z689_ ≤ 1 := (by have u0 := h3z689_; have u1 := (not_congr (zi_eq _ _)).mp c711_; have u2 := (show 0 ≤ Int32.toInt 0 ∧ Int32.toInt 0 ≤ 0 from (by decide)); omega)
                have b721_ : 0 ≤ Int32.toInt (M563_.1 147 (Int32.toNatClampNeg i4z689_)) ∧ Int32.toInt (M563_.1 147 (Int32.toNatClampNeg i4z689_)) ≤ 6 := pvok_r o565_ 147 (Int32.toNatClampNeg i4z689_) rfl
                refine pw_blk hT 5 (S' := (54, [some (pvR 124), some (pvI (M.1 124 4)), some (pvI i2z553_), some (pvI i3z689_), some (pvI i4z689_)], [pvI (M563_.1 147 (Int32.toNatClampNeg i4z689_)), pvR 124], M563_)) rfl ⟨trivial, trivial, rfl, trivial, ⟨rfl, (zr_in (n := 6) b709_ (by decide) (by decide))⟩, trivial⟩ ?_
                refine pw_callGp hT (as := [pvR 124, pvI (M563_.1 147 (Int32.toNatClampNeg i4z689_))]) (lo1 := [some (pvR 124), some (pvI (M563_.1 147 (Int32.toNatClampNeg i4z689_))), none, none]) (d1 := d) (rest := []) rfl rfl rfl rfl rfl (fun _ => rfl) (Nat.zero_le _) rfl rfl rfl (sf_X10_harmOf_124_x M563_ o565_ (M563_.1 147 (Int32.toNatClampNeg i4z689_)) b721_ d) (fun x722_ b724_ => ?_)
                have b727_ : 0 ≤ Int32.toInt (M563_.1 148 (Int32.toNatClampNeg i4z689_)) ∧ Int32.toInt (M563_.1 148 (Int32.toNatClampNeg i4z689_)) ≤ 9999 := pvok_r o565_ 148 (Int32.toNatClampNeg i4z689_) rfl
                refine pw_blk hT 4 (S' := (64, [some (pvR 124), some (pvI (M.1 124 4)), some (pvI i2z553_), some (pvI i3z689_), some (pvI i4z689_)], [pvI (M563_.1 148 (Int32.toNatClampNeg i4z689_)), pvI x722_], M563_)) rfl ⟨trivial, rfl, trivial, ⟨rfl, (zr_in (n := 6) b709_ (by decide) (by decide))⟩, trivial⟩ ?_
                refine pw_icn hT (c := x722_ = (M563_.1 148 (Int32.toNatClampNeg i4z689_))) rfl rfl (fun c728_ => ?_) (fun c728_ => ?_)
                · obtain ⟨q730_, b729_⟩ : (Int32.toInt (i4z689_ + 1) = Int32.toInt i4z689_ + 1) ∧ (1 ≤ Int32.toInt (i4z689_ + 1) ∧ Int32.toInt (i4z689_ + 1) ≤ 6) := zadd_k i4z689_ 1 1 1 6 b709_ (by decide) (by decide) (by decide) (by decide) (by decide)
                  refine pw_blk hT 4 (S' := (33, [some (pvR 124), some (pvI (M.1 124 4)), some (pvI i2z553_), some (pvI 0), some (pvI (i4z689_ + 1))], [], M563_)) rfl ⟨trivial, trivial, trivial, trivial, trivial⟩ ?_
                  exact ihz689_ 0 (i4z689_ + 1) (zr_wide (show 0 ≤ Int32.toInt 0 ∧ Int32.toInt 0 ≤ 0 from (by decide)) (by decide) (by decide)) (zr_wide b729_ (by decide) (by decide)) (zhid (pvms_up (zshow hmz689_) h4z689_ q730_ (by decide) (by decide)))
                · have b731_ : 0 ≤ Int32.toInt x722_ ∧ Int32.toInt x722_ ≤ 9999 := (by have u0 := b724_; have u1 := (zi_eq _ _).mp c728_; have u2 := b727_; omega)
                  have d732_ : Int32.toInt x722_ = Int32.toInt (M563_.1 148 (Int32.toNatClampNeg i4z689_)) := (zi_eq _ _).mp c728_
                  obtain ⟨q734_, b733_⟩ : (Int32.toInt (i4z689_ + 1) = Int32.toInt i4z689_ + 1) ∧ (1 ≤ Int32.toInt (i4z689_ + 1) ∧ Int32.toInt (i4z689_ + 1) ≤ 6) := zadd_k i4z689_ 1 1 1 6 b709_ (by decide) (by decide) (by decide) (by decide) (by decide)
                  refine pw_blk hT 5 (S' := (33, [some (pvR 124), some (pvI (M.1 124 4)), some (pvI i2z553_), some (pvI 1), some (pvI (i4z689_ + 1))], [], M563_)) rfl ⟨trivial, trivial, trivial, trivial, trivial, trivial⟩ ?_
                  exact ihz689_ 1 (i4z689_ + 1) (zr_wide (show 1 ≤ Int32.toInt 1 ∧ Int32.toInt 1 ≤ 1 from (by decide)) (by decide) (by decide)) (zr_wide b733_ (by decide) (by decide)) (zhid (pvms_up (zshow hmz689_) h4z689_ q734_ (by decide) (by decide)))
        exact hlz689_ _ 1 0 (zr_wide (show 1 ≤ Int32.toInt 1 ∧ Int32.toInt 1 ≤ 1 from (by decide)) (by decide) (by decide)) (zr_wide (show 0 ≤ Int32.toInt 0 ∧ Int32.toInt 0 ≤ 0 from (by decide)) (by decide) (by decide)) (zhid (Nat.lt_succ_self _))
  exact hlz553_ _ 0 none none M8_ o10_ f11_ (zhid (Nat.lt_succ_self _))
def fpL_eX10_image_124 : List (Nat × Nat × Nat) := [(0, 124, 47), (0, 124, 48), (0, 124, 49), (0, 124, 50), (0, 124, 51), (0, 124, 52), (0, 124, 53), (0, 124, 54), (0, 124, 55), (0, 124, 56), (0, 124, 57), (0, 124, 58), (0, 151, 0), (0, 152, 0), (0, 153, 0), (0, 154, 0), (0, 155, 0), (0, 156, 0), (0, 157, 0), (0, 158, 0), (0, 159, 0), (0, 160, 0), (0, 161, 0), (0, 162, 0)]
def fp_eX10_image_124 (q k : Nat) : Bool := pvfp fpL_eX10_image_124 q k
set_option maxHeartbeats 4000000 in
set_option maxRecDepth 10000 in
theorem se_X10_image_124 (M : pvM) (hok : pvOk M) (d : Nat) : PW 35 d (0, [some (pvR 124), none], [], M) (fun r X => (∃ x : Int32, r = some (pvI x) ∧ (0 ≤ Int32.toInt x ∧ Int32.toInt x ≤ 7) ∧ x = (M.1 124 0)) ∧ pvOk X ∧ pvFr fp_eX10_image_124 M X ∧ ((pvWF M → pvWF X) ∧ (Int32.toInt (M.1 124 3) ≤ 99 → Int32.toInt (M.1 124 51) ≤ 99 → Int32.toInt (X.1 124 51) ≤ 99)) ∧ X.1 124 48 = (M.1 124 0) ∧ X.1 124 51 = (M.1 124 3) ∧ X.1 124 52 = (M.1 124 4) ∧ X.1 124 46 = 1 ∧ X.1 124 56 = (M.1 124 40) ∧ X.1 124 57 = (M.1 124 43)) := by
  have hT : pvdom 35 = pvD_35 := rfl
  refine pw_blkw hT 3 (pc := 5) (lo := [some (pvR 124), none]) (st := []) (M := pvu M 124 46 1) rfl ⟨trivial, trivial, ⟨rfl, Or.inr rfl⟩, trivial⟩ (fun M1_ e2_ => ?_)
  have o3_ : pvOk M1_ := pvok_u2 e2_ hok rfl (zr_wide (show 1 ≤ Int32.toInt 1 ∧ Int32.toInt 1 ≤ 1 from (by decide)) (by decide) (by decide))
  have f4_ : pvFr fp_eX10_image_124 M M1_ := pvfr_u e2_ pvfr_0 rfl
  have b5_ : (-1) ≤ Int32.toInt (M1_.1 124 15) ∧ Int32.toInt (M1_.1 124 15) ≤ 5 := pvok_r o3_ 124 15 rfl
  refine pw_blkw hT 4 (pc := 13) (lo := [some (pvR 124), none]) (st := []) (M := pvu M1_ 124 47 (M1_.1 124 15)) rfl ⟨trivial, trivial, rfl, rfl, trivial⟩ (fun M6_ e7_ => ?_)
  have o8_ : pvOk M6_ := pvok_u2 e7_ o3_ rfl b5_
  have f9_ : pvFr fp_eX10_image_124 M M6_ := pvfr_u e7_ f4_ rfl
  have b10_ : 0 ≤ Int32.toInt (M6_.1 124 0) ∧ Int32.toInt (M6_.1 124 0) ≤ 7 := pvok_r o8_ 124 0 rfl
  refine pw_blkw hT 4 (pc := 21) (lo := [some (pvR 124), none]) (st := []) (M := pvu M6_ 124 48 (M6_.1 124 0)) rfl ⟨trivial, trivial, rfl, rfl, trivial⟩ (fun M11_ e12_ => ?_)
  have o13_ : pvOk M11_ := pvok_u2 e12_ o8_ rfl b10_
  have f14_ : pvFr fp_eX10_image_124 M M11_ := pvfr_u e12_ f9_ rfl
  have b15_ : 0 ≤ Int32.toInt (M11_.1 124 1) ∧ Int32.toInt (M11_.1 124 1) ≤ 9999 := pvok_r o13_ 124 1 rfl
  refine pw_blkw hT 4 (pc := 29) (lo := [some (pvR 124), none]) (st := []) (M := pvu M11_ 124 49 (M11_.1 124 1)) rfl ⟨trivial, trivial, rfl, rfl, trivial⟩ (fun M16_ e17_ => ?_)
  have o18_ : pvOk M16_ := pvok_u2 e17_ o13_ rfl b15_
  have f19_ : pvFr fp_eX10_image_124 M M16_ := pvfr_u e17_ f14_ rfl
  have b20_ : 0 ≤ Int32.toInt (M16_.1 124 2) ∧ Int32.toInt (M16_.1 124 2) ≤ 999999 := pvok_r o18_ 124 2 rfl
  refine pw_blkw hT 4 (pc := 37) (lo := [some (pvR 124), none]) (st := []) (M := pvu M16_ 124 50 (M16_.1 124 2)) rfl ⟨trivial, trivial, rfl, rfl, trivial⟩ (fun M21_ e22_ => ?_)
  have o23_ : pvOk M21_ := pvok_u2 e22_ o18_ rfl b20_
  have f24_ : pvFr fp_eX10_image_124 M M21_ := pvfr_u e22_ f19_ rfl
  have b25_ : 0 ≤ Int32.toInt (M21_.1 124 3) ∧ Int32.toInt (M21_.1 124 3) ≤ 108 := pvok_r o23_ 124 3 rfl
  refine pw_blkw hT 4 (pc := 45) (lo := [some (pvR 124), none]) (st := []) (M := pvu M21_ 124 51 (M21_.1 124 3)) rfl ⟨trivial, trivial, rfl, rfl, trivial⟩ (fun M26_ e27_ => ?_)
  have o28_ : pvOk M26_ := pvok_u2 e27_ o23_ rfl b25_
  have f29_ : pvFr fp_eX10_image_124 M M26_ := pvfr_u e27_ f24_ rfl
  have b30_ : 0 ≤ Int32.toInt (M26_.1 124 4) ∧ Int32.toInt (M26_.1 124 4) ≤ 4 := pvok_r o28_ 124 4 rfl
  refine pw_blkw hT 4 (pc := 53) (lo := [some (pvR 124), none]) (st := []) (M := pvu M26_ 124 52 (M26_.1 124 4)) rfl ⟨trivial, trivial, rfl, rfl, trivial⟩ (fun M31_ e32_ => ?_)
  have o33_ : pvOk M31_ := pvok_u2 e32_ o28_ rfl b30_
  have f34_ : pvFr fp_eX10_image_124 M M31_ := pvfr_u e32_ f29_ rfl
  have b35_ : 0 ≤ Int32.toInt (M31_.1 124 5) ∧ Int32.toInt (M31_.1 124 5) ≤ 3 := pvok_r o33_ 124 5 rfl
  refine pw_blkw hT 4 (pc := 61) (lo := [some (pvR 124), none]) (st := []) (M := pvu M31_ 124 53 (M31_.1 124 5)) rfl ⟨trivial, trivial, rfl, rfl, trivial⟩ (fun M36_ e37_ => ?_)
  have o38_ : pvOk M36_ := pvok_u2 e37_ o33_ rfl b35_
  have f39_ : pvFr fp_eX10_image_124 M M36_ := pvfr_u e37_ f34_ rfl
  have b40_ : 0 ≤ Int32.toInt (M36_.1 124 6) ∧ Int32.toInt (M36_.1 124 6) ≤ 4 := pvok_r o38_ 124 6 rfl
  refine pw_blkw hT 4 (pc := 69) (lo := [some (pvR 124), none]) (st := []) (M := pvu M36_ 124 54 (M36_.1 124 6)) rfl ⟨trivial, trivial, rfl, rfl, trivial⟩ (fun M41_ e42_ => ?_)
  have o43_ : pvOk M41_ := pvok_u2 e42_ o38_ rfl b40_
  have f44_ : pvFr fp_eX10_image_124 M M41_ := pvfr_u e42_ f39_ rfl
  have b45_ : 0 ≤ Int32.toInt (M41_.1 124 37) ∧ Int32.toInt (M41_.1 124 37) ≤ 7 := pvok_r o43_ 124 37 rfl
  refine pw_blkw hT 4 (pc := 77) (lo := [some (pvR 124), none]) (st := []) (M := pvu M41_ 124 55 (M41_.1 124 37)) rfl ⟨trivial, trivial, rfl, rfl, trivial⟩ (fun M46_ e47_ => ?_)
  have o48_ : pvOk M46_ := pvok_u2 e47_ o43_ rfl b45_
  have f49_ : pvFr fp_eX10_image_124 M M46_ := pvfr_u e47_ f44_ rfl
  have b50_ : 0 ≤ Int32.toInt (M46_.1 124 40) ∧ Int32.toInt (M46_.1 124 40) ≤ 6 := pvok_r o48_ 124 40 rfl
  refine pw_blkw hT 4 (pc := 85) (lo := [some (pvR 124), none]) (st := []) (M := pvu M46_ 124 56 (M46_.1 124 40)) rfl ⟨trivial, trivial, rfl, rfl, trivial⟩ (fun M51_ e52_ => ?_)
  have o53_ : pvOk M51_ := pvok_u2 e52_ o48_ rfl b50_
  have f54_ : pvFr fp_eX10_image_124 M M51_ := pvfr_u e52_ f49_ rfl
  have b55_ : 0 ≤ Int32.toInt (M51_.1 124 43) ∧ Int32.toInt (M51_.1 124 43) ≤ 8 := pvok_r o53_ 124 43 rfl
  refine pw_blkw hT 4 (pc := 93) (lo := [some (pvR 124), none]) (st := []) (M := pvu M51_ 124 57 (M51_.1 124 43)) rfl ⟨trivial, trivial, rfl, rfl, trivial⟩ (fun M56_ e57_ => ?_)
  have o58_ : pvOk M56_ := pvok_u2 e57_ o53_ rfl b55_
  have f59_ : pvFr fp_eX10_image_124 M M56_ := pvfr_u e57_ f54_ rfl
  refine pw_blk hT 2 (S' := (95, [some (pvR 124), some (pvI 0)], [], M56_)) rfl ⟨trivial, trivial, trivial⟩ ?_
  have hlz5946_ : ∀ (nz5946_ : Nat) (i1z5946_ : Int32) (Mz5946_ : pvM), (pvOk Mz5946_) → (pvFr fp_eX10_image_124 M Mz5946_) → (0 ≤ Int32.toInt i1z5946_ ∧ Int32.toInt i1z5946_ ≤ 7) → (Int32.toInt (Mz5946_.1 124 47) = Int32.toInt (M.1 124 15)) → (Int32.toInt (Mz5946_.1 124 51) = Int32.toInt (M.1 124 3)) → (Mz5946_.1 124 48 = (M.1 124 0)) → (Mz5946_.1 124 51 = (M.1 124 3)) → (Mz5946_.1 124 52 = (M.1 124 4)) → (Mz5946_.1 124 46 = 1) → (Mz5946_.1 124 56 = (M.1 124 40)) → (Mz5946_.1 124 57 = (M.1 124 43)) → (zhide ((8 - Int32.toInt i1z5946_).toNat < nz5946_)) → PW 35 d (95, [some (pvR 124), some (pvI i1z5946_)], [], Mz5946_) (fun r X => (∃ x : Int32, r = some (pvI x) ∧ (0 ≤ Int32.toInt x ∧ Int32.toInt x ≤ 7) ∧ x = (M.1 124 0)) ∧ pvOk X ∧ pvFr fp_eX10_image_124 M X ∧ ((pvWF M → pvWF X) ∧ (Int32.toInt (M.1 124 3) ≤ 99 → Int32.toInt (M.1 124 51) ≤ 99 → Int32.toInt (X.1 124 51) ≤ 99)) ∧ X.1 124 48 = (M.1 124 0) ∧ X.1 124 51 = (M.1 124 3) ∧ X.1 124 52 = (M.1 124 4) ∧ X.1 124 46 = 1 ∧ X.1 124 56 = (M.1 124 40) ∧ X.1 124 57 = (M.1 124 43)) := by
    intro nz5946_
    induction nz5946_ with
    | zero => intro i1z5946_ Mz5946_ oz5946_ fz5946_ h1z5946_ j0z5946_ j1z5946_ j2z5946_ j3z5946_ j4z5946_ j5z5946_ j6z5946_ j7z5946_ hmz5946_; exact absurd (zshow hmz5946_) (Nat.not_lt_zero _)
    | succ nz5946_ ihz5946_ =>
      intro i1z5946_ Mz5946_ oz5946_ fz5946_ h1z5946_ j0z5946_ j1z5946_ j2z5946_ j3z5946_ j4z5946_ j5z5946_ j6z5946_ j7z5946_ hmz5946_
      have b5947_ : (-1) ≤ Int32.toInt (Mz5946_.1 124 47) ∧ Int32.toInt (Mz5946_.1 124 47) ≤ 5 := pvok_r oz5946_ 124 47 rfl
      have b5948_ : 0 ≤ Int32.toInt (Mz5946_.1 124 51) ∧ Int32.toInt (Mz5946_.1 124 51) ≤ 108 := pvok_r oz5946_ 124 51 rfl
      refine pw_blk hT 2 (S' := (98, [some (pvR 124), some (pvI i1z5946_)], [pvI 7, pvI i1z5946_], Mz5946_)) rfl ⟨trivial, trivial, trivial⟩ ?_
      refine pw_ic hT (c := 7 ≤ i1z5946_) rfl rfl (fun c5949_ => ?_) (fun c5949_ => ?_)
      · have b5950_ : 7 ≤ Int32.toInt i1z5946_ ∧ Int32.toInt i1z5946_ ≤ 7 := zr_le_r 7 c5949_ h1z5946_ (show 7 ≤ Int32.toInt 7 ∧ Int32.toInt 7 ≤ 7 from (by decide)) (by decide)
        refine pw_blk hT 2 (S' := (193, [some (pvR 124), some (pvI 0)], [], Mz5946_)) rfl ⟨trivial, trivial, trivial⟩ ?_
        have hlz7376_ : ∀ (nz7376_ : Nat) (i1z7376_ : Int32) (Mz7376_ : pvM), (pvOk Mz7376_) → (pvFr fp_eX10_image_124 M Mz7376_) → (0 ≤ Int32.toInt i1z7376_ ∧ Int32.toInt i1z7376_ ≤ 28) → (Int32.toInt (Mz7376_.1 124 47) = Int32.toInt (M.1 124 15)) → (Int32.toInt (Mz7376_.1 124 51) = Int32.toInt (M.1 124 3)) → (Mz7376_.1 124 48 = (M.1 124 0)) → (Mz7376_.1 124 51 = (M.1 124 3)) → (Mz7376_.1 124 52 = (M.1 124 4)) → (Mz7376_.1 124 46 = 1) → (Mz7376_.1 124 56 = (M.1 124 40)) → (Mz7376_.1 124 57 = (M.1 124 43)) → (zhide ((29 - Int32.toInt i1z7376_).toNat < nz7376_)) → PW 35 d (193, [some (pvR 124), some (pvI i1z7376_)], [], Mz7376_) (fun r X => (∃ x : Int32, r = some (pvI x) ∧ (0 ≤ Int32.toInt x ∧ Int32.toInt x ≤ 7) ∧ x = (M.1 124 0)) ∧ pvOk X ∧ pvFr fp_eX10_image_124 M X ∧ ((pvWF M → pvWF X) ∧ (Int32.toInt (M.1 124 3) ≤ 99 → Int32.toInt (M.1 124 51) ≤ 99 → Int32.toInt (X.1 124 51) ≤ 99)) ∧ X.1 124 48 = (M.1 124 0) ∧ X.1 124 51 = (M.1 124 3) ∧ X.1 124 52 = (M.1 124 4) ∧ X.1 124 46 = 1 ∧ X.1 124 56 = (M.1 124 40) ∧ X.1 124 57 = (M.1 124 43)) := by
          intro nz7376_
          induction nz7376_ with
          | zero => intro i1z7376_ Mz7376_ oz7376_ fz7376_ h1z7376_ j0z7376_ j1z7376_ j2z7376_ j3z7376_ j4z7376_ j5z7376_ j6z7376_ j7z7376_ hmz7376_; exact absurd (zshow hmz7376_) (Nat.not_lt_zero _)
          | succ nz7376_ ihz7376_ =>
            intro i1z7376_ Mz7376_ oz7376_ fz7376_ h1z7376_ j0z7376_ j1z7376_ j2z7376_ j3z7376_ j4z7376_ j5z7376_ j6z7376_ j7z7376_ hmz7376_
            have b7377_ : (-1) ≤ Int32.toInt (Mz7376_.1 124 47) ∧ Int32.toInt (Mz7376_.1 124 47) ≤ 5 := pvok_r oz7376_ 124 47 rfl
            have b7378_ : 0 ≤ Int32.toInt (Mz7376_.1 124 51) ∧ Int32.toInt (Mz7376_.1 124 51) ≤ 108 := pvok_r oz7376_ 124 51 rfl
            refine pw_blk hT 2 (S' := (196, [some (pvR 124), some (pvI i1z7376_)], [pvI 28, pvI i1z7376_], Mz7376_)) rfl ⟨trivial, trivial, trivial⟩ ?_
            refine pw_ic hT (c := 28 ≤ i1z7376_) rfl rfl (fun c7379_ => ?_) (fun c7379_ => ?_)
            · have b7380_ : 28 ≤ Int32.toInt i1z7376_ ∧ Int32.toInt i1z7376_ ≤ 28 := zr_le_r 28 c7379_ h1z7376_ (show 28 ≤ Int32.toInt 28 ∧ Int32.toInt 28 ≤ 28 from (by decide)) (by decide)
              refine pw_blk hT 2 (S' := (219, [some (pvR 124), some (pvI 0)], [], Mz7376_)) rfl ⟨trivial, trivial, trivial⟩ ?_
              have hlz7722_ : ∀ (nz7722_ : Nat) (i1z7722_ : Int32) (Mz7722_ : pvM), (pvOk Mz7722_) → (pvFr fp_eX10_image_124 M Mz7722_) → (0 ≤ Int32.toInt i1z7722_ ∧ Int32.toInt i1z7722_ ≤ 6) → (Int32.toInt (Mz7722_.1 124 47) = Int32.toInt (M.1 124 15)) → (Int32.toInt (Mz7722_.1 124 51) = Int32.toInt (M.1 124 3)) → (Mz7722_.1 124 48 = (M.1 124 0)) → (Mz7722_.1 124 51 = (M.1 124 3)) → (Mz7722_.1 124 52 = (M.1 124 4)) → (Mz7722_.1 124 46 = 1) → (Mz7722_.1 124 56 = (M.1 124 40)) → (Mz7722_.1 124 57 = (M.1 124 43)) → (zhide ((7 - Int32.toInt i1z7722_).toNat < nz7722_)) → PW 35 d (219, [some (pvR 124), some (pvI i1z7722_)], [], Mz7722_) (fun r X => (∃ x : Int32, r = some (pvI x) ∧ (0 ≤ Int32.toInt x ∧ Int32.toInt x ≤ 7) ∧ x = (M.1 124 0)) ∧ pvOk X ∧ pvFr fp_eX10_image_124 M X ∧ ((pvWF M → pvWF X) ∧ (Int32.toInt (M.1 124 3) ≤ 99 → Int32.toInt (M.1 124 51) ≤ 99 → Int32.toInt (X.1 124 51) ≤ 99)) ∧ X.1 124 48 = (M.1 124 0) ∧ X.1 124 51 = (M.1 124 3) ∧ X.1 124 52 = (M.1 124 4) ∧ X.1 124 46 = 1 ∧ X.1 124 56 = (M.1 124 40) ∧ X.1 124 57 = (M.1 124 43)) := by
                intro nz7722_
                induction nz7722_ with
                | zero => intro i1z7722_ Mz7722_ oz7722_ fz7722_ h1z7722_ j0z7722_ j1z7722_ j2z7722_ j3z7722_ j4z7722_ j5z7722_ j6z7722_ j7z7722_ hmz7722_; exact absurd (zshow hmz7722_) (Nat.not_lt_zero _)
                | succ nz7722_ ihz7722_ =>
                  intro i1z7722_ Mz7722_ oz7722_ fz7722_ h1z7722_ j0z7722_ j1z7722_ j2z7722_ j3z7722_ j4z7722_ j5z7722_ j6z7722_ j7z7722_ hmz7722_
                  have b7723_ : (-1) ≤ Int32.toInt (Mz7722_.1 124 47) ∧ Int32.toInt (Mz7722_.1 124 47) ≤ 5 := pvok_r oz7722_ 124 47 rfl
                  have b7724_ : 0 ≤ Int32.toInt (Mz7722_.1 124 51) ∧ Int32.toInt (Mz7722_.1 124 51) ≤ 108 := pvok_r oz7722_ 124 51 rfl
                  refine pw_blk hT 2 (S' := (222, [some (pvR 124), some (pvI i1z7722_)], [pvI 6, pvI i1z7722_], Mz7722_)) rfl ⟨trivial, trivial, trivial⟩ ?_
                  refine pw_ic hT (c := 6 ≤ i1z7722_) rfl rfl (fun c7725_ => ?_) (fun c7725_ => ?_)
                  · have b7726_ : 6 ≤ Int32.toInt i1z7722_ ∧ Int32.toInt i1z7722_ ≤ 6 := zr_le_r 6 c7725_ h1z7722_ (show 6 ≤ Int32.toInt 6 ∧ Int32.toInt 6 ≤ 6 from (by decide)) (by decide)
                    refine pw_blk hT 2 (S' := (257, [some (pvR 124), some (pvI 0)], [], Mz7722_)) rfl ⟨trivial, trivial, trivial⟩ ?_
                    have hlz7792_ : ∀ (nz7792_ : Nat) (i1z7792_ : Int32) (Mz7792_ : pvM), (pvOk Mz7792_) → (pvFr fp_eX10_image_124 M Mz7792_) → (0 ≤ Int32.toInt i1z7792_ ∧ Int32.toInt i1z7792_ ≤ 8) → (Int32.toInt (Mz7792_.1 124 47) = Int32.toInt (M.1 124 15)) → (Int32.toInt (Mz7792_.1 124 51) = Int32.toInt (M.1 124 3)) → (Mz7792_.1 124 48 = (M.1 124 0)) → (Mz7792_.1 124 51 = (M.1 124 3)) → (Mz7792_.1 124 52 = (M.1 124 4)) → (Mz7792_.1 124 46 = 1) → (Mz7792_.1 124 56 = (M.1 124 40)) → (Mz7792_.1 124 57 = (M.1 124 43)) → (zhide ((9 - Int32.toInt i1z7792_).toNat < nz7792_)) → PW 35 d (257, [some (pvR 124), some (pvI i1z7792_)], [], Mz7792_) (fun r X => (∃ x : Int32, r = some (pvI x) ∧ (0 ≤ Int32.toInt x ∧ Int32.toInt x ≤ 7) ∧ x = (M.1 124 0)) ∧ pvOk X ∧ pvFr fp_eX10_image_124 M X ∧ ((pvWF M → pvWF X) ∧ (Int32.toInt (M.1 124 3) ≤ 99 → Int32.toInt (M.1 124 51) ≤ 99 → Int32.toInt (X.1 124 51) ≤ 99)) ∧ X.1 124 48 = (M.1 124 0) ∧ X.1 124 51 = (M.1 124 3) ∧ X.1 124 52 = (M.1 124 4) ∧ X.1 124 46 = 1 ∧ X.1 124 56 = (M.1 124 40) ∧ X.1 124 57 = (M.1 124 43)) := by
                      intro nz7792_
                      induction nz7792_ with
                      | zero => intro i1z7792_ Mz7792_ oz7792_ fz7792_ h1z7792_ j0z7792_ j1z7792_ j2z7792_ j3z7792_ j4z7792_ j5z7792_ j6z7792_ j7z7792_ hmz7792_; exact absurd (zshow hmz7792_) (Nat.not_lt_zero _)
                      | succ nz7792_ ihz7792_ =>
                        intro i1z7792_ Mz7792_ oz7792_ fz7792_ h1z7792_ j0z7792_ j1z7792_ j2z7792_ j3z7792_ j4z7792_ j5z7792_ j6z7792_ j7z7792_ hmz7792_
                        have b7793_ : (-1) ≤ Int32.toInt (Mz7792_.1 124 47) ∧ Int32.toInt (Mz7792_.1 124 47) ≤ 5 := pvok_r oz7792_ 124 47 rfl
                        have b7794_ : 0 ≤ Int32.toInt (Mz7792_.1 124 51) ∧ Int32.toInt (Mz7792_.1 124 51) ≤ 108 := pvok_r oz7792_ 124 51 rfl
                        refine pw_blk hT 2 (S' := (260, [some (pvR 124), some (pvI i1z7792_)], [pvI 8, pvI i1z7792_], Mz7792_)) rfl ⟨trivial, trivial, trivial⟩ ?_
                        refine pw_ic hT (c := 8 ≤ i1z7792_) rfl rfl (fun c7795_ => ?_) (fun c7795_ => ?_)
                        · have b7796_ : 8 ≤ Int32.toInt i1z7792_ ∧ Int32.toInt i1z7792_ ≤ 8 := zr_le_r 8 c7795_ h1z7792_ (show 8 ≤ Int32.toInt 8 ∧ Int32.toInt 8 ≤ 8 from (by decide)) (by decide)
                          have b7797_ : 0 ≤ Int32.toInt (Mz7792_.1 124 0) ∧ Int32.toInt (Mz7792_.1 124 0) ≤ 7 := pvok_r oz7792_ 124 0 rfl
                          refine pw_blk hT 2 (S' := (297, [some (pvR 124), some (pvI i1z7792_)], [pvI (Mz7792_.1 124 0)], Mz7792_)) rfl ⟨trivial, rfl, trivial⟩ ?_
                          exact pw_ret hT rfl (r := some (pvI (Mz7792_.1 124 0))) (M' := Mz7792_) ⟨rfl, rfl⟩ ⟨⟨_, rfl, b7797_, (show (Mz7792_.1 124 0) = (M.1 124 0) from by rw [(fz7792_ 124 0 rfl)])⟩, oz7792_, fz7792_, ⟨fun hz => ⟨by have z3 := hz.1; have z4 := hz.2.1; have w0 : Int32.toInt (Mz7792_.1 124 14) = Int32.toInt (M.1 124 14) := congrArg Int32.toInt (fz7792_ 124 14 rfl); have v0 : Int32.toInt (Mz7792_.1 124 15) = Int32.toInt (M.1 124 15) := congrArg Int32.toInt (fz7792_ 124 15 rfl); omega, by have z3 := hz.1; have z4 := hz.2.1; have w0 : Int32.toInt (Mz7792_.1 124 14) = Int32.toInt (M.1 124 14) := congrArg Int32.toInt (fz7792_ 124 14 rfl); omega, fun a ha => pvWh_r (pvfr_row (L := fpL_eX10_image_124) fz7792_ rfl) (pvfr_row (L := fpL_eX10_image_124) fz7792_ rfl) (pvfr_row (L := fpL_eX10_image_124) fz7792_ rfl) (pvfr_row (L := fpL_eX10_image_124) fz7792_ rfl) (pvfr_row (L := fpL_eX10_image_124) fz7792_ rfl) (hz.2.2 a (by have w0 : Int32.toInt (Mz7792_.1 124 14) = Int32.toInt (M.1 124 14) := congrArg Int32.toInt (fz7792_ 124 14 rfl); omega))⟩, fun hc hc2 => by omega⟩, j2z7792_, j3z7792_, j4z7792_, j5z7792_, j6z7792_, j7z7792_⟩
                        · have b7798_ : 0 ≤ Int32.toInt i1z7792_ ∧ Int32.toInt i1z7792_ ≤ 7 := zr_nle_r 7 c7795_ h1z7792_ (show 8 ≤ Int32.toInt 8 ∧ Int32.toInt 8 ≤ 8 from (by decide)) (by decide)
                          have b7799_ : 0 ≤ Int32.toInt (Mz7792_.1 149 (Int32.toNatClampNeg i1z7792_)) ∧ Int32.toInt (Mz7792_.1 149 (Int32.toNatClampNeg i1z7792_)) ≤ 6 := pvok_r oz7792_ 149 (Int32.toNatClampNeg i1z7792_) rfl
                          refine pw_blkw hT 8 (pc := 275) (lo := [some (pvR 124), some (pvI i1z7792_)]) (st := []) (M := pvu Mz7792_ 160 (Int32.toNatClampNeg i1z7792_) (Mz7792_.1 149 (Int32.toNatClampNeg i1z7792_))) rfl ⟨trivial, rfl, trivial, trivial, rfl, trivial, ⟨rfl, (zr_in (n := 8) b7798_ (by decide) (by decide))⟩, ⟨rfl, (zr_in (n := 8) b7798_ (by decide) (by decide))⟩, trivial⟩ (fun M7800_ e7801_ => ?_)
                          have o7802_ : pvOk M7800_ := pvok_u2 e7801_ oz7792_ rfl b7799_
                          have f7803_ : pvFr fp_eX10_image_124 M M7800_ := pvfr_u e7801_ fz7792_ rfl
                          have b7804_ : 0 ≤ Int32.toInt (M7800_.1 150 (Int32.toNatClampNeg i1z7792_)) ∧ Int32.toInt (M7800_.1 150 (Int32.toNatClampNeg i1z7792_)) ≤ 9999 := pvok_r o7802_ 150 (Int32.toNatClampNeg i1z7792_) rfl
                          refine pw_blkw hT 8 (pc := 287) (lo := [some (pvR 124), some (pvI i1z7792_)]) (st := []) (M := pvu M7800_ 161 (Int32.toNatClampNeg i1z7792_) (M7800_.1 150 (Int32.toNatClampNeg i1z7792_))) rfl ⟨trivial, rfl, trivial, trivial, rfl, trivial, ⟨rfl, (zr_in (n := 8) b7798_ (by decide) (by decide))⟩, ⟨rfl, (zr_in (n := 8) b7798_ (by decide) (by decide))⟩, trivial⟩ (fun M7805_ e7806_ => ?_)
                          have o7807_ : pvOk M7805_ := pvok_u2 e7806_ o7802_ rfl b7804_
                          have f7808_ : pvFr fp_eX10_image_124 M M7805_ := pvfr_u e7806_ f7803_ rfl
                          obtain ⟨q7810_, b7809_⟩ : (Int32.toInt (i1z7792_ + 1) = Int32.toInt i1z7792_ + 1) ∧ (1 ≤ Int32.toInt (i1z7792_ + 1) ∧ Int32.toInt (i1z7792_ + 1) ≤ 8) := zadd_k i1z7792_ 1 1 1 8 b7798_ (by decide) (by decide) (by decide) (by decide) (by decide)
                          refine pw_blk hT 2 (S' := (257, [some (pvR 124), some (pvI (i1z7792_ + 1))], [], M7805_)) rfl ⟨trivial, trivial, trivial⟩ ?_
                          have j7811_ : Int32.toInt (M7805_.1 124 47) = Int32.toInt (M.1 124 15) := (by have y01 : Int32.toInt (M7805_.1 124 47) = Int32.toInt (Mz7792_.1 124 47) := congrArg Int32.toInt ((pvu_n e7806_ 124 47 (Or.inl (by decide))).trans (pvu_n e7801_ 124 47 (Or.inl (by decide)))); omega)
                          have j7812_ : Int32.toInt (M7805_.1 124 51) = Int32.toInt (M.1 124 3) := (by have y01 : Int32.toInt (M7805_.1 124 51) = Int32.toInt (Mz7792_.1 124 51) := congrArg Int32.toInt ((pvu_n e7806_ 124 51 (Or.inl (by decide))).trans (pvu_n e7801_ 124 51 (Or.inl (by decide)))); omega)
                          have j7813_ : M7805_.1 124 48 = (M.1 124 0) := (((pvu_n e7806_ 124 48 (Or.inl (by decide))).trans (pvu_n e7801_ 124 48 (Or.inl (by decide)))).trans (j2z7792_))
                          have j7814_ : M7805_.1 124 51 = (M.1 124 3) := (((pvu_n e7806_ 124 51 (Or.inl (by decide))).trans (pvu_n e7801_ 124 51 (Or.inl (by decide)))).trans (j3z7792_))
                          have j7815_ : M7805_.1 124 52 = (M.1 124 4) := (((pvu_n e7806_ 124 52 (Or.inl (by decide))).trans (pvu_n e7801_ 124 52 (Or.inl (by decide)))).trans (j4z7792_))
                          have j7816_ : M7805_.1 124 46 = 1 := (((pvu_n e7806_ 124 46 (Or.inl (by decide))).trans (pvu_n e7801_ 124 46 (Or.inl (by decide)))).trans (j5z7792_))
                          have j7817_ : M7805_.1 124 56 = (M.1 124 40) := (((pvu_n e7806_ 124 56 (Or.inl (by decide))).trans (pvu_n e7801_ 124 56 (Or.inl (by decide)))).trans (j6z7792_))
                          have j7818_ : M7805_.1 124 57 = (M.1 124 43) := (((pvu_n e7806_ 124 57 (Or.inl (by decide))).trans (pvu_n e7801_ 124 57 (Or.inl (by decide)))).trans (j7z7792_))
                          exact ihz7792_ (i1z7792_ + 1) M7805_ o7807_ f7808_ (zr_wide b7809_ (by decide) (by decide)) j7811_ j7812_ j7813_ j7814_ j7815_ j7816_ j7817_ j7818_ (zhid (by have hm0 := zshow hmz7792_; have y01 : Int32.toInt (M7805_.1 124 47) = Int32.toInt (Mz7792_.1 124 47) := congrArg Int32.toInt ((pvu_n e7806_ 124 47 (Or.inl (by decide))).trans (pvu_n e7801_ 124 47 (Or.inl (by decide)))); have y11 : Int32.toInt (M7805_.1 124 51) = Int32.toInt (Mz7792_.1 124 51) := congrArg Int32.toInt ((pvu_n e7806_ 124 51 (Or.inl (by decide))).trans (pvu_n e7801_ 124 51 (Or.inl (by decide)))); omega))
                    have u7819_ : Int32.toInt 0 = 0 := by decide
                    have j7820_ : Int32.toInt (Mz7722_.1 124 47) = Int32.toInt (M.1 124 15) := (by omega)
                    have j7821_ : Int32.toInt (Mz7722_.1 124 51) = Int32.toInt (M.1 124 3) := (by omega)
                    have j7822_ : Mz7722_.1 124 48 = (M.1 124 0) := j2z7722_
                    have j7823_ : Mz7722_.1 124 51 = (M.1 124 3) := j3z7722_
                    have j7824_ : Mz7722_.1 124 52 = (M.1 124 4) := j4z7722_
                    have j7825_ : Mz7722_.1 124 46 = 1 := j5z7722_
                    have j7826_ : Mz7722_.1 124 56 = (M.1 124 40) := j6z7722_
                    have j7827_ : Mz7722_.1 124 57 = (M.1 124 43) := j7z7722_
                    exact hlz7792_ _ 0 Mz7722_ oz7722_ fz7722_ (zr_wide (show 0 ≤ Int32.toInt 0 ∧ Int32.toInt 0 ≤ 0 from (by decide)) (by decide) (by decide)) j7820_ j7821_ j7822_ j7823_ j7824_ j7825_ j7826_ j7827_ (zhid (Nat.lt_succ_self _))
                  · have b7828_ : 0 ≤ Int32.toInt i1z7722_ ∧ Int32.toInt i1z7722_ ≤ 5 := zr_nle_r 5 c7725_ h1z7722_ (show 6 ≤ Int32.toInt 6 ∧ Int32.toInt 6 ≤ 6 from (by decide)) (by decide)
                    have b7829_ : 0 ≤ Int32.toInt (Mz7722_.1 147 (Int32.toNatClampNeg i1z7722_)) ∧ Int32.toInt (Mz7722_.1 147 (Int32.toNatClampNeg i1z7722_)) ≤ 6 := pvok_r oz7722_ 147 (Int32.toNatClampNeg i1z7722_) rfl
                    refine pw_blkw hT 8 (pc := 237) (lo := [some (pvR 124), some (pvI i1z7722_)]) (st := []) (M := pvu Mz7722_ 158 (Int32.toNatClampNeg i1z7722_) (Mz7722_.1 147 (Int32.toNatClampNeg i1z7722_))) rfl ⟨trivial, rfl, trivial, trivial, rfl, trivial, ⟨rfl, (zr_in (n := 6) b7828_ (by decide) (by decide))⟩, ⟨rfl, (zr_in (n := 6) b7828_ (by decide) (by decide))⟩, trivial⟩ (fun M7830_ e7831_ => ?_)
                    have o7832_ : pvOk M7830_ := pvok_u2 e7831_ oz7722_ rfl b7829_
                    have f7833_ : pvFr fp_eX10_image_124 M M7830_ := pvfr_u e7831_ fz7722_ rfl
                    have b7834_ : 0 ≤ Int32.toInt (M7830_.1 148 (Int32.toNatClampNeg i1z7722_)) ∧ Int32.toInt (M7830_.1 148 (Int32.toNatClampNeg i1z7722_)) ≤ 9999 := pvok_r o7832_ 148 (Int32.toNatClampNeg i1z7722_) rfl
                    refine pw_blkw hT 8 (pc := 249) (lo := [some (pvR 124), some (pvI i1z7722_)]) (st := []) (M := pvu M7830_ 159 (Int32.toNatClampNeg i1z7722_) (M7830_.1 148 (Int32.toNatClampNeg i1z7722_))) rfl ⟨trivial, rfl, trivial, trivial, rfl, trivial, ⟨rfl, (zr_in (n := 6) b7828_ (by decide) (by decide))⟩, ⟨rfl, (zr_in (n := 6) b7828_ (by decide) (by decide))⟩, trivial⟩ (fun M7835_ e7836_ => ?_)
                    have o7837_ : pvOk M7835_ := pvok_u2 e7836_ o7832_ rfl b7834_
                    have f7838_ : pvFr fp_eX10_image_124 M M7835_ := pvfr_u e7836_ f7833_ rfl
                    obtain ⟨q7840_, b7839_⟩ : (Int32.toInt (i1z7722_ + 1) = Int32.toInt i1z7722_ + 1) ∧ (1 ≤ Int32.toInt (i1z7722_ + 1) ∧ Int32.toInt (i1z7722_ + 1) ≤ 6) := zadd_k i1z7722_ 1 1 1 6 b7828_ (by decide) (by decide) (by decide) (by decide) (by decide)
                    refine pw_blk hT 2 (S' := (219, [some (pvR 124), some (pvI (i1z7722_ + 1))], [], M7835_)) rfl ⟨trivial, trivial, trivial⟩ ?_
                    have j7841_ : Int32.toInt (M7835_.1 124 47) = Int32.toInt (M.1 124 15) := (by have y01 : Int32.toInt (M7835_.1 124 47) = Int32.toInt (Mz7722_.1 124 47) := congrArg Int32.toInt ((pvu_n e7836_ 124 47 (Or.inl (by decide))).trans (pvu_n e7831_ 124 47 (Or.inl (by decide)))); omega)
                    have j7842_ : Int32.toInt (M7835_.1 124 51) = Int32.toInt (M.1 124 3) := (by have y01 : Int32.toInt (M7835_.1 124 51) = Int32.toInt (Mz7722_.1 124 51) := congrArg Int32.toInt ((pvu_n e7836_ 124 51 (Or.inl (by decide))).trans (pvu_n e7831_ 124 51 (Or.inl (by decide)))); omega)
                    have j7843_ : M7835_.1 124 48 = (M.1 124 0) := (((pvu_n e7836_ 124 48 (Or.inl (by decide))).trans (pvu_n e7831_ 124 48 (Or.inl (by decide)))).trans (j2z7722_))
                    have j7844_ : M7835_.1 124 51 = (M.1 124 3) := (((pvu_n e7836_ 124 51 (Or.inl (by decide))).trans (pvu_n e7831_ 124 51 (Or.inl (by decide)))).trans (j3z7722_))
                    have j7845_ : M7835_.1 124 52 = (M.1 124 4) := (((pvu_n e7836_ 124 52 (Or.inl (by decide))).trans (pvu_n e7831_ 124 52 (Or.inl (by decide)))).trans (j4z7722_))
                    have j7846_ : M7835_.1 124 46 = 1 := (((pvu_n e7836_ 124 46 (Or.inl (by decide))).trans (pvu_n e7831_ 124 46 (Or.inl (by decide)))).trans (j5z7722_))
                    have j7847_ : M7835_.1 124 56 = (M.1 124 40) := (((pvu_n e7836_ 124 56 (Or.inl (by decide))).trans (pvu_n e7831_ 124 56 (Or.inl (by decide)))).trans (j6z7722_))
                    have j7848_ : M7835_.1 124 57 = (M.1 124 43) := (((pvu_n e7836_ 124 57 (Or.inl (by decide))).trans (pvu_n e7831_ 124 57 (Or.inl (by decide)))).trans (j7z7722_))
                    exact ihz7722_ (i1z7722_ + 1) M7835_ o7837_ f7838_ (zr_wide b7839_ (by decide) (by decide)) j7841_ j7842_ j7843_ j7844_ j7845_ j7846_ j7847_ j7848_ (zhid (by have hm0 := zshow hmz7722_; have y01 : Int32.toInt (M7835_.1 124 47) = Int32.toInt (Mz7722_.1 124 47) := congrArg Int32.toInt ((pvu_n e7836_ 124 47 (Or.inl (by decide))).trans (pvu_n e7831_ 124 47 (Or.inl (by decide)))); have y11 : Int32.toInt (M7835_.1 124 51) = Int32.toInt (Mz7722_.1 124 51) := congrArg Int32.toInt ((pvu_n e7836_ 124 51 (Or.inl (by decide))).trans (pvu_n e7831_ 124 51 (Or.inl (by decide)))); omega))
              have u7849_ : Int32.toInt 0 = 0 := by decide
              have j7850_ : Int32.toInt (Mz7376_.1 124 47) = Int32.toInt (M.1 124 15) := (by omega)
              have j7851_ : Int32.toInt (Mz7376_.1 124 51) = Int32.toInt (M.1 124 3) := (by omega)
              have j7852_ : Mz7376_.1 124 48 = (M.1 124 0) := j2z7376_
              have j7853_ : Mz7376_.1 124 51 = (M.1 124 3) := j3z7376_
              have j7854_ : Mz7376_.1 124 52 = (M.1 124 4) := j4z7376_
              have j7855_ : Mz7376_.1 124 46 = 1 := j5z7376_
              have j7856_ : Mz7376_.1 124 56 = (M.1 124 40) := j6z7376_
              have j7857_ : Mz7376_.1 124 57 = (M.1 124 43) := j7z7376_
              exact hlz7722_ _ 0 Mz7376_ oz7376_ fz7376_ (zr_wide (show 0 ≤ Int32.toInt 0 ∧ Int32.toInt 0 ≤ 0 from (by decide)) (by decide) (by decide)) j7850_ j7851_ j7852_ j7853_ j7854_ j7855_ j7856_ j7857_ (zhid (Nat.lt_succ_self _))
            · have b7858_ : 0 ≤ Int32.toInt i1z7376_ ∧ Int32.toInt i1z7376_ ≤ 27 := zr_nle_r 27 c7379_ h1z7376_ (show 28 ≤ Int32.toInt 28 ∧ Int32.toInt 28 ≤ 28 from (by decide)) (by decide)
              have b7859_ : 0 ≤ Int32.toInt (Mz7376_.1 130 (Int32.toNatClampNeg i1z7376_)) ∧ Int32.toInt (Mz7376_.1 130 (Int32.toNatClampNeg i1z7376_)) ≤ 9 := pvok_r oz7376_ 130 (Int32.toNatClampNeg i1z7376_) rfl
              refine pw_blkw hT 8 (pc := 211) (lo := [some (pvR 124), some (pvI i1z7376_)]) (st := []) (M := pvu Mz7376_ 156 (Int32.toNatClampNeg i1z7376_) (Mz7376_.1 130 (Int32.toNatClampNeg i1z7376_))) rfl ⟨trivial, rfl, trivial, trivial, rfl, trivial, ⟨rfl, (zr_in (n := 28) b7858_ (by decide) (by decide))⟩, ⟨rfl, (zr_in (n := 28) b7858_ (by decide) (by decide))⟩, trivial⟩ (fun M7860_ e7861_ => ?_)
              have o7862_ : pvOk M7860_ := pvok_u2 e7861_ oz7376_ rfl b7859_
              have f7863_ : pvFr fp_eX10_image_124 M M7860_ := pvfr_u e7861_ fz7376_ rfl
              obtain ⟨q7865_, b7864_⟩ : (Int32.toInt (i1z7376_ + 1) = Int32.toInt i1z7376_ + 1) ∧ (1 ≤ Int32.toInt (i1z7376_ + 1) ∧ Int32.toInt (i1z7376_ + 1) ≤ 28) := zadd_k i1z7376_ 1 1 1 28 b7858_ (by decide) (by decide) (by decide) (by decide) (by decide)
              refine pw_blk hT 2 (S' := (193, [some (pvR 124), some (pvI (i1z7376_ + 1))], [], M7860_)) rfl ⟨trivial, trivial, trivial⟩ ?_
              have j7866_ : Int32.toInt (M7860_.1 124 47) = Int32.toInt (M.1 124 15) := (by have y01 : Int32.toInt (M7860_.1 124 47) = Int32.toInt (Mz7376_.1 124 47) := congrArg Int32.toInt (pvu_n e7861_ 124 47 (Or.inl (by decide))); omega)
              have j7867_ : Int32.toInt (M7860_.1 124 51) = Int32.toInt (M.1 124 3) := (by have y01 : Int32.toInt (M7860_.1 124 51) = Int32.toInt (Mz7376_.1 124 51) := congrArg Int32.toInt (pvu_n e7861_ 124 51 (Or.inl (by decide))); omega)
              have j7868_ : M7860_.1 124 48 = (M.1 124 0) := ((pvu_n e7861_ 124 48 (Or.inl (by decide))).trans (j2z7376_))
              have j7869_ : M7860_.1 124 51 = (M.1 124 3) := ((pvu_n e7861_ 124 51 (Or.inl (by decide))).trans (j3z7376_))
              have j7870_ : M7860_.1 124 52 = (M.1 124 4) := ((pvu_n e7861_ 124 52 (Or.inl (by decide))).trans (j4z7376_))
              have j7871_ : M7860_.1 124 46 = 1 := ((pvu_n e7861_ 124 46 (Or.inl (by decide))).trans (j5z7376_))
              have j7872_ : M7860_.1 124 56 = (M.1 124 40) := ((pvu_n e7861_ 124 56 (Or.inl (by decide))).trans (j6z7376_))
              have j7873_ : M7860_.1 124 57 = (M.1 124 43) := ((pvu_n e7861_ 124 57 (Or.inl (by decide))).trans (j7z7376_))
              exact ihz7376_ (i1z7376_ + 1) M7860_ o7862_ f7863_ (zr_wide b7864_ (by decide) (by decide)) j7866_ j7867_ j7868_ j7869_ j7870_ j7871_ j7872_ j7873_ (zhid (by have hm0 := zshow hmz7376_; have y01 : Int32.toInt (M7860_.1 124 47) = Int32.toInt (Mz7376_.1 124 47) := congrArg Int32.toInt (pvu_n e7861_ 124 47 (Or.inl (by decide))); have y11 : Int32.toInt (M7860_.1 124 51) = Int32.toInt (Mz7376_.1 124 51) := congrArg Int32.toInt (pvu_n e7861_ 124 51 (Or.inl (by decide))); omega))
        have u7874_ : Int32.toInt 0 = 0 := by decide
        have j7875_ : Int32.toInt (Mz5946_.1 124 47) = Int32.toInt (M.1 124 15) := (by omega)
        have j7876_ : Int32.toInt (Mz5946_.1 124 51) = Int32.toInt (M.1 124 3) := (by omega)
        have j7877_ : Mz5946_.1 124 48 = (M.1 124 0) := j2z5946_
        have j7878_ : Mz5946_.1 124 51 = (M.1 124 3) := j3z5946_
        have j7879_ : Mz5946_.1 124 52 = (M.1 124 4) := j4z5946_
        have j7880_ : Mz5946_.1 124 46 = 1 := j5z5946_
        have j7881_ : Mz5946_.1 124 56 = (M.1 124 40) := j6z5946_
        have j7882_ : Mz5946_.1 124 57 = (M.1 124 43) := j7z5946_
        exact hlz7376_ _ 0 Mz5946_ oz5946_ fz5946_ (zr_wide (show 0 ≤ Int32.toInt 0 ∧ Int32.toInt 0 ≤ 0 from (by decide)) (by decide) (by decide)) j7875_ j7876_ j7877_ j7878_ j7879_ j7880_ j7881_ j7882_ (zhid (Nat.lt_succ_self _))
      · have b7883_ : 0 ≤ Int32.toInt i1z5946_ ∧ Int32.toInt i1z5946_ ≤ 6 := zr_nle_r 6 c5949_ h1z5946_ (show 7 ≤ Int32.toInt 7 ∧ Int32.toInt 7 ≤ 7 from (by decide)) (by decide)
        have b7884_ : 0 ≤ Int32.toInt (Mz5946_.1 125 (Int32.toNatClampNeg i1z5946_)) ∧ Int32.toInt (Mz5946_.1 125 (Int32.toNatClampNeg i1z5946_)) ≤ 6 := pvok_r oz5946_ 125 (Int32.toNatClampNeg i1z5946_) rfl
        refine pw_blkw hT 8 (pc := 113) (lo := [some (pvR 124), some (pvI i1z5946_)]) (st := []) (M := pvu Mz5946_ 151 (Int32.toNatClampNeg i1z5946_) (Mz5946_.1 125 (Int32.toNatClampNeg i1z5946_))) rfl ⟨trivial, rfl, trivial, trivial, rfl, trivial, ⟨rfl, (zr_in (n := 7) b7883_ (by decide) (by decide))⟩, ⟨rfl, (zr_in (n := 7) b7883_ (by decide) (by decide))⟩, trivial⟩ (fun M7885_ e7886_ => ?_)
        have o7887_ : pvOk M7885_ := pvok_u2 e7886_ oz5946_ rfl b7884_
        have f7888_ : pvFr fp_eX10_image_124 M M7885_ := pvfr_u e7886_ fz5946_ rfl
        have b7889_ : 0 ≤ Int32.toInt (M7885_.1 126 (Int32.toNatClampNeg i1z5946_)) ∧ Int32.toInt (M7885_.1 126 (Int32.toNatClampNeg i1z5946_)) ≤ 9 := pvok_r o7887_ 126 (Int32.toNatClampNeg i1z5946_) rfl
        refine pw_blkw hT 8 (pc := 125) (lo := [some (pvR 124), some (pvI i1z5946_)]) (st := []) (M := pvu M7885_ 152 (Int32.toNatClampNeg i1z5946_) (M7885_.1 126 (Int32.toNatClampNeg i1z5946_))) rfl ⟨trivial, rfl, trivial, trivial, rfl, trivial, ⟨rfl, (zr_in (n := 7) b7883_ (by decide) (by decide))⟩, ⟨rfl, (zr_in (n := 7) b7883_ (by decide) (by decide))⟩, trivial⟩ (fun M7890_ e7891_ => ?_)
        have o7892_ : pvOk M7890_ := pvok_u2 e7891_ o7887_ rfl b7889_
        have f7893_ : pvFr fp_eX10_image_124 M M7890_ := pvfr_u e7891_ f7888_ rfl
        have b7894_ : 0 ≤ Int32.toInt (M7890_.1 127 (Int32.toNatClampNeg i1z5946_)) ∧ Int32.toInt (M7890_.1 127 (Int32.toNatClampNeg i1z5946_)) ≤ 3 := pvok_r o7892_ 127 (Int32.toNatClampNeg i1z5946_) rfl
        refine pw_blkw hT 8 (pc := 137) (lo := [some (pvR 124), some (pvI i1z5946_)]) (st := []) (M := pvu M7890_ 153 (Int32.toNatClampNeg i1z5946_) (M7890_.1 127 (Int32.toNatClampNeg i1z5946_))) rfl ⟨trivial, rfl, trivial, trivial, rfl, trivial, ⟨rfl, (zr_in (n := 7) b7883_ (by decide) (by decide))⟩, ⟨rfl, (zr_in (n := 7) b7883_ (by decide) (by decide))⟩, trivial⟩ (fun M7895_ e7896_ => ?_)
        have o7897_ : pvOk M7895_ := pvok_u2 e7896_ o7892_ rfl b7894_
        have f7898_ : pvFr fp_eX10_image_124 M M7895_ := pvfr_u e7896_ f7893_ rfl
        have b7899_ : 0 ≤ Int32.toInt (M7895_.1 128 (Int32.toNatClampNeg i1z5946_)) ∧ Int32.toInt (M7895_.1 128 (Int32.toNatClampNeg i1z5946_)) ≤ 4 := pvok_r o7897_ 128 (Int32.toNatClampNeg i1z5946_) rfl
        refine pw_blkw hT 8 (pc := 149) (lo := [some (pvR 124), some (pvI i1z5946_)]) (st := []) (M := pvu M7895_ 154 (Int32.toNatClampNeg i1z5946_) (M7895_.1 128 (Int32.toNatClampNeg i1z5946_))) rfl ⟨trivial, rfl, trivial, trivial, rfl, trivial, ⟨rfl, (zr_in (n := 7) b7883_ (by decide) (by decide))⟩, ⟨rfl, (zr_in (n := 7) b7883_ (by decide) (by decide))⟩, trivial⟩ (fun M7900_ e7901_ => ?_)
        have o7902_ : pvOk M7900_ := pvok_u2 e7901_ o7897_ rfl b7899_
        have f7903_ : pvFr fp_eX10_image_124 M M7900_ := pvfr_u e7901_ f7898_ rfl
        have b7904_ : 0 ≤ Int32.toInt (M7900_.1 129 (Int32.toNatClampNeg i1z5946_)) ∧ Int32.toInt (M7900_.1 129 (Int32.toNatClampNeg i1z5946_)) ≤ 9 := pvok_r o7902_ 129 (Int32.toNatClampNeg i1z5946_) rfl
        refine pw_blkw hT 8 (pc := 161) (lo := [some (pvR 124), some (pvI i1z5946_)]) (st := []) (M := pvu M7900_ 155 (Int32.toNatClampNeg i1z5946_) (M7900_.1 129 (Int32.toNatClampNeg i1z5946_))) rfl ⟨trivial, rfl, trivial, trivial, rfl, trivial, ⟨rfl, (zr_in (n := 7) b7883_ (by decide) (by decide))⟩, ⟨rfl, (zr_in (n := 7) b7883_ (by decide) (by decide))⟩, trivial⟩ (fun M7905_ e7906_ => ?_)
        have o7907_ : pvOk M7905_ := pvok_u2 e7906_ o7902_ rfl b7904_
        have f7908_ : pvFr fp_eX10_image_124 M M7905_ := pvfr_u e7906_ f7903_ rfl
        have b7909_ : 0 ≤ Int32.toInt (M7905_.1 131 (Int32.toNatClampNeg i1z5946_)) ∧ Int32.toInt (M7905_.1 131 (Int32.toNatClampNeg i1z5946_)) ≤ 1 := pvok_r o7907_ 131 (Int32.toNatClampNeg i1z5946_) rfl
        refine pw_blkw hT 8 (pc := 173) (lo := [some (pvR 124), some (pvI i1z5946_)]) (st := []) (M := pvu M7905_ 162 (Int32.toNatClampNeg i1z5946_) (vp_nar .boolean (M7905_.1 131 (Int32.toNatClampNeg i1z5946_)))) rfl ⟨trivial, rfl, trivial, trivial, rfl, trivial, ⟨rfl, (zr_in (n := 7) b7883_ (by decide) (by decide))⟩, ⟨rfl, (zr_in (n := 7) b7883_ (by decide) (by decide))⟩, trivial⟩ (fun M7910_ e7911_ => ?_)
        have o7912_ : pvOk M7910_ := pvok_u2 e7911_ o7907_ rfl (zboolr (M7905_.1 131 (Int32.toNatClampNeg i1z5946_)))
        have f7913_ : pvFr fp_eX10_image_124 M M7910_ := pvfr_u e7911_ f7908_ rfl
        have b7914_ : 0 ≤ Int32.toInt (M7910_.1 145 (Int32.toNatClampNeg i1z5946_)) ∧ Int32.toInt (M7910_.1 145 (Int32.toNatClampNeg i1z5946_)) ≤ 6 := pvok_r o7912_ 145 (Int32.toNatClampNeg i1z5946_) rfl
        refine pw_blkw hT 8 (pc := 185) (lo := [some (pvR 124), some (pvI i1z5946_)]) (st := []) (M := pvu M7910_ 157 (Int32.toNatClampNeg i1z5946_) (M7910_.1 145 (Int32.toNatClampNeg i1z5946_))) rfl ⟨trivial, rfl, trivial, trivial, rfl, trivial, ⟨rfl, (zr_in (n := 7) b7883_ (by decide) (by decide))⟩, ⟨rfl, (zr_in (n := 7) b7883_ (by decide) (by decide))⟩, trivial⟩ (fun M7915_ e7916_ => ?_)
        have o7917_ : pvOk M7915_ := pvok_u2 e7916_ o7912_ rfl b7914_
        have f7918_ : pvFr fp_eX10_image_124 M M7915_ := pvfr_u e7916_ f7913_ rfl
        obtain ⟨q7920_, b7919_⟩ : (Int32.toInt (i1z5946_ + 1) = Int32.toInt i1z5946_ + 1) ∧ (1 ≤ Int32.toInt (i1z5946_ + 1) ∧ Int32.toInt (i1z5946_ + 1) ≤ 7) := zadd_k i1z5946_ 1 1 1 7 b7883_ (by decide) (by decide) (by decide) (by decide) (by decide)
        refine pw_blk hT 2 (S' := (95, [some (pvR 124), some (pvI (i1z5946_ + 1))], [], M7915_)) rfl ⟨trivial, trivial, trivial⟩ ?_
        have j7921_ : Int32.toInt (M7915_.1 124 47) = Int32.toInt (M.1 124 15) := (by have y01 : Int32.toInt (M7915_.1 124 47) = Int32.toInt (Mz5946_.1 124 47) := congrArg Int32.toInt (((((((pvu_n e7916_ 124 47 (Or.inl (by decide))).trans (pvu_n e7911_ 124 47 (Or.inl (by decide)))).trans (pvu_n e7906_ 124 47 (Or.inl (by decide)))).trans (pvu_n e7901_ 124 47 (Or.inl (by decide)))).trans (pvu_n e7896_ 124 47 (Or.inl (by decide)))).trans (pvu_n e7891_ 124 47 (Or.inl (by decide)))).trans (pvu_n e7886_ 124 47 (Or.inl (by decide)))); omega)
        have j7922_ : Int32.toInt (M7915_.1 124 51) = Int32.toInt (M.1 124 3) := (by have y01 : Int32.toInt (M7915_.1 124 51) = Int32.toInt (Mz5946_.1 124 51) := congrArg Int32.toInt (((((((pvu_n e7916_ 124 51 (Or.inl (by decide))).trans (pvu_n e7911_ 124 51 (Or.inl (by decide)))).trans (pvu_n e7906_ 124 51 (Or.inl (by decide)))).trans (pvu_n e7901_ 124 51 (Or.inl (by decide)))).trans (pvu_n e7896_ 124 51 (Or.inl (by decide)))).trans (pvu_n e7891_ 124 51 (Or.inl (by decide)))).trans (pvu_n e7886_ 124 51 (Or.inl (by decide)))); omega)
        have j7923_ : M7915_.1 124 48 = (M.1 124 0) := ((((((((pvu_n e7916_ 124 48 (Or.inl (by decide))).trans (pvu_n e7911_ 124 48 (Or.inl (by decide)))).trans (pvu_n e7906_ 124 48 (Or.inl (by decide)))).trans (pvu_n e7901_ 124 48 (Or.inl (by decide)))).trans (pvu_n e7896_ 124 48 (Or.inl (by decide)))).trans (pvu_n e7891_ 124 48 (Or.inl (by decide)))).trans (pvu_n e7886_ 124 48 (Or.inl (by decide)))).trans (j2z5946_))
        have j7924_ : M7915_.1 124 51 = (M.1 124 3) := ((((((((pvu_n e7916_ 124 51 (Or.inl (by decide))).trans (pvu_n e7911_ 124 51 (Or.inl (by decide)))).trans (pvu_n e7906_ 124 51 (Or.inl (by decide)))).trans (pvu_n e7901_ 124 51 (Or.inl (by decide)))).trans (pvu_n e7896_ 124 51 (Or.inl (by decide)))).trans (pvu_n e7891_ 124 51 (Or.inl (by decide)))).trans (pvu_n e7886_ 124 51 (Or.inl (by decide)))).trans (j3z5946_))
        have j7925_ : M7915_.1 124 52 = (M.1 124 4) := ((((((((pvu_n e7916_ 124 52 (Or.inl (by decide))).trans (pvu_n e7911_ 124 52 (Or.inl (by decide)))).trans (pvu_n e7906_ 124 52 (Or.inl (by decide)))).trans (pvu_n e7901_ 124 52 (Or.inl (by decide)))).trans (pvu_n e7896_ 124 52 (Or.inl (by decide)))).trans (pvu_n e7891_ 124 52 (Or.inl (by decide)))).trans (pvu_n e7886_ 124 52 (Or.inl (by decide)))).trans (j4z5946_))
        have j7926_ : M7915_.1 124 46 = 1 := ((((((((pvu_n e7916_ 124 46 (Or.inl (by decide))).trans (pvu_n e7911_ 124 46 (Or.inl (by decide)))).trans (pvu_n e7906_ 124 46 (Or.inl (by decide)))).trans (pvu_n e7901_ 124 46 (Or.inl (by decide)))).trans (pvu_n e7896_ 124 46 (Or.inl (by decide)))).trans (pvu_n e7891_ 124 46 (Or.inl (by decide)))).trans (pvu_n e7886_ 124 46 (Or.inl (by decide)))).trans (j5z5946_))
        have j7927_ : M7915_.1 124 56 = (M.1 124 40) := ((((((((pvu_n e7916_ 124 56 (Or.inl (by decide))).trans (pvu_n e7911_ 124 56 (Or.inl (by decide)))).trans (pvu_n e7906_ 124 56 (Or.inl (by decide)))).trans (pvu_n e7901_ 124 56 (Or.inl (by decide)))).trans (pvu_n e7896_ 124 56 (Or.inl (by decide)))).trans (pvu_n e7891_ 124 56 (Or.inl (by decide)))).trans (pvu_n e7886_ 124 56 (Or.inl (by decide)))).trans (j6z5946_))
        have j7928_ : M7915_.1 124 57 = (M.1 124 43) := ((((((((pvu_n e7916_ 124 57 (Or.inl (by decide))).trans (pvu_n e7911_ 124 57 (Or.inl (by decide)))).trans (pvu_n e7906_ 124 57 (Or.inl (by decide)))).trans (pvu_n e7901_ 124 57 (Or.inl (by decide)))).trans (pvu_n e7896_ 124 57 (Or.inl (by decide)))).trans (pvu_n e7891_ 124 57 (Or.inl (by decide)))).trans (pvu_n e7886_ 124 57 (Or.inl (by decide)))).trans (j7z5946_))
        exact ihz5946_ (i1z5946_ + 1) M7915_ o7917_ f7918_ (zr_wide b7919_ (by decide) (by decide)) j7921_ j7922_ j7923_ j7924_ j7925_ j7926_ j7927_ j7928_ (zhid (by have hm0 := zshow hmz5946_; have y01 : Int32.toInt (M7915_.1 124 47) = Int32.toInt (Mz5946_.1 124 47) := congrArg Int32.toInt (((((((pvu_n e7916_ 124 47 (Or.inl (by decide))).trans (pvu_n e7911_ 124 47 (Or.inl (by decide)))).trans (pvu_n e7906_ 124 47 (Or.inl (by decide)))).trans (pvu_n e7901_ 124 47 (Or.inl (by decide)))).trans (pvu_n e7896_ 124 47 (Or.inl (by decide)))).trans (pvu_n e7891_ 124 47 (Or.inl (by decide)))).trans (pvu_n e7886_ 124 47 (Or.inl (by decide)))); have y11 : Int32.toInt (M7915_.1 124 51) = Int32.toInt (Mz5946_.1 124 51) := congrArg Int32.toInt (((((((pvu_n e7916_ 124 51 (Or.inl (by decide))).trans (pvu_n e7911_ 124 51 (Or.inl (by decide)))).trans (pvu_n e7906_ 124 51 (Or.inl (by decide)))).trans (pvu_n e7901_ 124 51 (Or.inl (by decide)))).trans (pvu_n e7896_ 124 51 (Or.inl (by decide)))).trans (pvu_n e7891_ 124 51 (Or.inl (by decide)))).trans (pvu_n e7886_ 124 51 (Or.inl (by decide)))); omega))
  have u7929_ : Int32.toInt 0 = 0 := by decide
  have j7930_ : Int32.toInt (M56_.1 124 47) = Int32.toInt (M.1 124 15) := (by have z1 : Int32.toInt (M56_.1 124 47) = Int32.toInt (M1_.1 124 15) := congrArg Int32.toInt (((((((((((pvu_n e57_ 124 47 (Or.inr (by decide))).trans (pvu_n e52_ 124 47 (Or.inr (by decide)))).trans (pvu_n e47_ 124 47 (Or.inr (by decide)))).trans (pvu_n e42_ 124 47 (Or.inr (by decide)))).trans (pvu_n e37_ 124 47 (Or.inr (by decide)))).trans (pvu_n e32_ 124 47 (Or.inr (by decide)))).trans (pvu_n e27_ 124 47 (Or.inr (by decide)))).trans (pvu_n e22_ 124 47 (Or.inr (by decide)))).trans (pvu_n e17_ 124 47 (Or.inr (by decide)))).trans (pvu_n e12_ 124 47 (Or.inr (by decide)))).trans (pvu_s e7_)); have z2 : Int32.toInt (M1_.1 124 15) = Int32.toInt (M.1 124 15) := congrArg Int32.toInt (pvu_n e2_ 124 15 (Or.inr (by decide))); omega)
  have j7931_ : Int32.toInt (M56_.1 124 51) = Int32.toInt (M.1 124 3) := (by have z1 : Int32.toInt (M56_.1 124 51) = Int32.toInt (M21_.1 124 3) := congrArg Int32.toInt (((((((pvu_n e57_ 124 51 (Or.inr (by decide))).trans (pvu_n e52_ 124 51 (Or.inr (by decide)))).trans (pvu_n e47_ 124 51 (Or.inr (by decide)))).trans (pvu_n e42_ 124 51 (Or.inr (by decide)))).trans (pvu_n e37_ 124 51 (Or.inr (by decide)))).trans (pvu_n e32_ 124 51 (Or.inr (by decide)))).trans (pvu_s e27_)); have z2 : Int32.toInt (M21_.1 124 3) = Int32.toInt (M.1 124 3) := congrArg Int32.toInt (((((pvu_n e22_ 124 3 (Or.inr (by decide))).trans (pvu_n e17_ 124 3 (Or.inr (by decide)))).trans (pvu_n e12_ 124 3 (Or.inr (by decide)))).trans (pvu_n e7_ 124 3 (Or.inr (by decide)))).trans (pvu_n e2_ 124 3 (Or.inr (by decide)))); omega)
  have j7932_ : M56_.1 124 48 = (M.1 124 0) := (((((((((((pvu_n e57_ 124 48 (Or.inr (by decide))).trans (pvu_n e52_ 124 48 (Or.inr (by decide)))).trans (pvu_n e47_ 124 48 (Or.inr (by decide)))).trans (pvu_n e42_ 124 48 (Or.inr (by decide)))).trans (pvu_n e37_ 124 48 (Or.inr (by decide)))).trans (pvu_n e32_ 124 48 (Or.inr (by decide)))).trans (pvu_n e27_ 124 48 (Or.inr (by decide)))).trans (pvu_n e22_ 124 48 (Or.inr (by decide)))).trans (pvu_n e17_ 124 48 (Or.inr (by decide)))).trans (pvu_s e12_)).trans ((pvu_n e7_ 124 0 (Or.inr (by decide))).trans (pvu_n e2_ 124 0 (Or.inr (by decide)))))
  have j7933_ : M56_.1 124 51 = (M.1 124 3) := ((((((((pvu_n e57_ 124 51 (Or.inr (by decide))).trans (pvu_n e52_ 124 51 (Or.inr (by decide)))).trans (pvu_n e47_ 124 51 (Or.inr (by decide)))).trans (pvu_n e42_ 124 51 (Or.inr (by decide)))).trans (pvu_n e37_ 124 51 (Or.inr (by decide)))).trans (pvu_n e32_ 124 51 (Or.inr (by decide)))).trans (pvu_s e27_)).trans (((((pvu_n e22_ 124 3 (Or.inr (by decide))).trans (pvu_n e17_ 124 3 (Or.inr (by decide)))).trans (pvu_n e12_ 124 3 (Or.inr (by decide)))).trans (pvu_n e7_ 124 3 (Or.inr (by decide)))).trans (pvu_n e2_ 124 3 (Or.inr (by decide)))))
  have j7934_ : M56_.1 124 52 = (M.1 124 4) := (((((((pvu_n e57_ 124 52 (Or.inr (by decide))).trans (pvu_n e52_ 124 52 (Or.inr (by decide)))).trans (pvu_n e47_ 124 52 (Or.inr (by decide)))).trans (pvu_n e42_ 124 52 (Or.inr (by decide)))).trans (pvu_n e37_ 124 52 (Or.inr (by decide)))).trans (pvu_s e32_)).trans ((((((pvu_n e27_ 124 4 (Or.inr (by decide))).trans (pvu_n e22_ 124 4 (Or.inr (by decide)))).trans (pvu_n e17_ 124 4 (Or.inr (by decide)))).trans (pvu_n e12_ 124 4 (Or.inr (by decide)))).trans (pvu_n e7_ 124 4 (Or.inr (by decide)))).trans (pvu_n e2_ 124 4 (Or.inr (by decide)))))
  have j7935_ : M56_.1 124 46 = 1 := ((((((((((((pvu_n e57_ 124 46 (Or.inr (by decide))).trans (pvu_n e52_ 124 46 (Or.inr (by decide)))).trans (pvu_n e47_ 124 46 (Or.inr (by decide)))).trans (pvu_n e42_ 124 46 (Or.inr (by decide)))).trans (pvu_n e37_ 124 46 (Or.inr (by decide)))).trans (pvu_n e32_ 124 46 (Or.inr (by decide)))).trans (pvu_n e27_ 124 46 (Or.inr (by decide)))).trans (pvu_n e22_ 124 46 (Or.inr (by decide)))).trans (pvu_n e17_ 124 46 (Or.inr (by decide)))).trans (pvu_n e12_ 124 46 (Or.inr (by decide)))).trans (pvu_n e7_ 124 46 (Or.inr (by decide)))).trans (pvu_s e2_))
  have j7936_ : M56_.1 124 56 = (M.1 124 40) := (((pvu_n e57_ 124 56 (Or.inr (by decide))).trans (pvu_s e52_)).trans ((((((((((pvu_n e47_ 124 40 (Or.inr (by decide))).trans (pvu_n e42_ 124 40 (Or.inr (by decide)))).trans (pvu_n e37_ 124 40 (Or.inr (by decide)))).trans (pvu_n e32_ 124 40 (Or.inr (by decide)))).trans (pvu_n e27_ 124 40 (Or.inr (by decide)))).trans (pvu_n e22_ 124 40 (Or.inr (by decide)))).trans (pvu_n e17_ 124 40 (Or.inr (by decide)))).trans (pvu_n e12_ 124 40 (Or.inr (by decide)))).trans (pvu_n e7_ 124 40 (Or.inr (by decide)))).trans (pvu_n e2_ 124 40 (Or.inr (by decide)))))
  have j7937_ : M56_.1 124 57 = (M.1 124 43) := ((pvu_s e57_).trans (((((((((((pvu_n e52_ 124 43 (Or.inr (by decide))).trans (pvu_n e47_ 124 43 (Or.inr (by decide)))).trans (pvu_n e42_ 124 43 (Or.inr (by decide)))).trans (pvu_n e37_ 124 43 (Or.inr (by decide)))).trans (pvu_n e32_ 124 43 (Or.inr (by decide)))).trans (pvu_n e27_ 124 43 (Or.inr (by decide)))).trans (pvu_n e22_ 124 43 (Or.inr (by decide)))).trans (pvu_n e17_ 124 43 (Or.inr (by decide)))).trans (pvu_n e12_ 124 43 (Or.inr (by decide)))).trans (pvu_n e7_ 124 43 (Or.inr (by decide)))).trans (pvu_n e2_ 124 43 (Or.inr (by decide)))))
  exact hlz5946_ _ 0 M56_ o58_ f59_ (zr_wide (show 0 ≤ Int32.toInt 0 ∧ Int32.toInt 0 ≤ 0 from (by decide)) (by decide) (by decide)) j7930_ j7931_ j7932_ j7933_ j7934_ j7935_ j7936_ j7937_ (zhid (Nat.lt_succ_self _))
