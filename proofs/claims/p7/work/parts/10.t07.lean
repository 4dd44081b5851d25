def fpL_X10_house_124 : List (Nat × Nat × Nat) := [(0, 124, 15), (0, 124, 16), (0, 124, 17), (0, 124, 18), (0, 124, 19), (0, 124, 28), (0, 124, 29), (0, 124, 30), (0, 133, 0), (0, 134, 0), (0, 135, 0), (0, 136, 0), (0, 137, 0), (0, 138, 0), (0, 139, 0)]
def fp_X10_house_124 (q k : Nat) : Bool := pvfp fpL_X10_house_124 q k
theorem fp_X10_house_124_fp_X10_goesText_124_x (a b : Nat) (h : fp_X10_goesText_124_x a b = true) : fp_X10_house_124 a b = true := pvfp_sub (l1 := fpL_X10_goesText_124_x) (l2 := fpL_X10_house_124) (by decide) a b h
set_option maxHeartbeats 4000000 in
set_option maxRecDepth 10000 in
theorem sf_X10_house_124 (M : pvM) (hok : pvOk M) (d : Nat) : PW 34 d (0, [some (pvR 124), none], [], M) (fun r X => (∃ x : Int32, r = some (pvI x) ∧ (-110) ≤ Int32.toInt x ∧ Int32.toInt x ≤ 5) ∧ pvOk X ∧ pvFr fp_X10_house_124 M X ∧ (pvWF M → pvWF X)) := by
  have hT : pvdom 34 = pvD_34 := rfl
  have b1_ : 0 ≤ Int32.toInt (M.1 124 14) ∧ Int32.toInt (M.1 124 14) ≤ 6 := pvok_r hok 124 14 rfl
  refine pw_blk hT 3 (S' := (6, [some (pvR 124), none], [pvI 6, pvI (M.1 124 14)], M)) rfl ⟨trivial, rfl, trivial, trivial⟩ ?_
  refine pw_icn hT (c := (M.1 124 14) = 6) rfl rfl (fun c2_ => ?_) (fun c2_ => ?_)
  · have b3_ : 0 ≤ Int32.toInt (M.1 124 14) ∧ Int32.toInt (M.1 124 14) ≤ 5 := (by have u0 := b1_; have u1 := (not_congr (zi_eq _ _)).mp c2_; have u2 := (show 6 ≤ Int32.toInt 6 ∧ Int32.toInt 6 ≤ 6 from (by decide)); omega)
    refine pw_blk hT 3 (S' := (17, [some (pvR 124), none], [pvI (M.1 124 14), pvR 124], M)) rfl ⟨trivial, trivial, rfl, trivial⟩ ?_
    refine pw_callGd hT (as := [pvR 124, pvI (M.1 124 14)]) (lo1 := [some (pvR 124), some (pvI (M.1 124 14)), none]) (d1 := d) (rest := []) rfl rfl rfl rfl rfl (fun _ => rfl) (Nat.zero_le _) rfl rfl rfl (sf_X10_goesText_124_x M hok (M.1 124 14) b3_ d) (fun x5_ M6_ b7_ o8_ g9_ d4_ => ?_)
    have f10_ : pvFr fp_X10_house_124 M M6_ := pvfr_t g9_ pvfr_0 fp_X10_house_124_fp_X10_goesText_124_x
    refine pw_blkw hT 4 (pc := 26) (lo := [some (pvR 124), some (pvI x5_)]) (st := []) (M := pvu M6_ 124 16 0) rfl ⟨trivial, trivial, trivial, rfl, trivial⟩ (fun M11_ e12_ => ?_)
    have o13_ : pvOk M11_ := pvok_u2 e12_ o8_ rfl (zr_wide (show 0 ≤ Int32.toInt 0 ∧ Int32.toInt 0 ≤ 0 from (by decide)) (by decide) (by decide))
    have f14_ : pvFr fp_X10_house_124 M M11_ := pvfr_u e12_ f10_ rfl
    refine pw_blk hT 1 (S' := (27, [some (pvR 124), some (pvI x5_)], [pvI x5_], M11_)) rfl ⟨trivial, trivial⟩ ?_
    refine pw_ifn hT (c := x5_ = 0) rfl rfl (fun c15_ => ?_) (fun c15_ => ?_)
    · have b16_ : 1 ≤ Int32.toInt x5_ ∧ Int32.toInt x5_ ≤ 1 := (by have u0 := b7_; have u1 := (not_congr (zi_eq _ _)).mp c15_; have u2 := (show 0 ≤ Int32.toInt 0 ∧ Int32.toInt 0 ≤ 0 from (by decide)); omega)
      have e17_ : (M11_.1 124 14) = (M.1 124 14) := ((pvu_n e12_ 124 14 (Or.inr (by decide))).trans (g9_ 124 14 rfl))
      have b18_ : 0 ≤ Int32.toInt (M11_.1 124 14) ∧ Int32.toInt (M11_.1 124 14) ≤ 5 := (by rw [e17_]; exact b3_)
      refine pw_blkw hT 4 (pc := 46) (lo := [some (pvR 124), some (pvI x5_)]) (st := []) (M := pvu M11_ 124 15 (M11_.1 124 14)) rfl ⟨trivial, trivial, rfl, rfl, trivial⟩ (fun M19_ e20_ => ?_)
      have o21_ : pvOk M19_ := pvok_u2 e20_ o13_ rfl (zr_wide b18_ (by decide) (by decide))
      have f22_ : pvFr fp_X10_house_124 M M19_ := pvfr_u e20_ f14_ rfl
      have e23_ : (M19_.1 124 14) = (M11_.1 124 14) := (pvu_n e20_ 124 14 (Or.inr (by decide)))
      have b24_ : 0 ≤ Int32.toInt (M19_.1 124 14) ∧ Int32.toInt (M19_.1 124 14) ≤ 5 := (by rw [e23_]; exact b18_)
      obtain ⟨q26_, b25_⟩ : (Int32.toInt ((M19_.1 124 14) + 1) = Int32.toInt (M19_.1 124 14) + 1) ∧ (1 ≤ Int32.toInt ((M19_.1 124 14) + 1) ∧ Int32.toInt ((M19_.1 124 14) + 1) ≤ 6) := zadd_k (M19_.1 124 14) 1 1 1 6 b24_ (by decide) (by decide) (by decide) (by decide) (by decide)
      refine pw_blkw hT 6 (pc := 56) (lo := [some (pvR 124), some (pvI x5_)]) (st := []) (M := pvu M19_ 124 14 ((M19_.1 124 14) + 1)) rfl ⟨trivial, trivial, rfl, trivial, trivial, rfl, trivial⟩ (fun M27_ e28_ => ?_)
      have o29_ : pvOk M27_ := pvok_u2 e28_ o21_ rfl (zr_wide b25_ (by decide) (by decide))
      have f30_ : pvFr fp_X10_house_124 M M27_ := pvfr_u e28_ f22_ rfl
      have e31_ : (M27_.1 124 15) = (M11_.1 124 14) := ((pvu_n e28_ 124 15 (Or.inr (by decide))).trans (pvu_s e20_))
      have b32_ : 0 ≤ Int32.toInt (M27_.1 124 15) ∧ Int32.toInt (M27_.1 124 15) ≤ 5 := (by rw [e31_]; exact b18_)
      refine pw_blk hT 2 (S' := (60, [some (pvR 124), some (pvI x5_)], [pvI (M27_.1 124 15)], M27_)) rfl ⟨trivial, rfl, trivial⟩ ?_
      exact pw_ret hT rfl (r := some (pvI (M27_.1 124 15))) (M' := M27_) ⟨rfl, rfl⟩ ⟨⟨_, rfl, (zr_wide b32_ (by decide) (by decide))⟩, o29_, f30_, fun hz => pvWF_h hok hz (fun a ha h10 hw => pvWh_r (((pvu_row e28_ (by decide)).trans (pvu_row e20_ (by decide))).trans (pvu_row e12_ (by decide))) (((pvu_row e28_ (by decide)).trans (pvu_row e20_ (by decide))).trans (pvu_row e12_ (by decide))) (((pvu_row e28_ (by decide)).trans (pvu_row e20_ (by decide))).trans (pvu_row e12_ (by decide))) (((pvu_row e28_ (by decide)).trans (pvu_row e20_ (by decide))).trans (pvu_row e12_ (by decide))) (((pvu_row e28_ (by decide)).trans (pvu_row e20_ (by decide))).trans (pvu_row e12_ (by decide))) (d4_.1 a ha h10 hw)) (fun a ha => by rcases Classical.em ((a : Int) < Int32.toInt (M.1 124 14)) with e | e; exact Or.inl e; refine Or.inr ?_; have e2 : a = Int32.toNatClampNeg (M.1 124 14) := (by have z := ztn (M.1 124 14) (by omega); have w0 : Int32.toInt (M27_.1 124 14) = Int32.toInt ((M19_.1 124 14) + 1) := congrArg Int32.toInt (pvu_s e28_); have w1 : Int32.toInt (M19_.1 124 14) = Int32.toInt (M11_.1 124 14) := congrArg Int32.toInt (pvu_n e20_ 124 14 (Or.inr (by decide))); have w2 : Int32.toInt (M11_.1 124 14) = Int32.toInt (M6_.1 124 14) := congrArg Int32.toInt (pvu_n e12_ 124 14 (Or.inr (by decide))); have w3 : Int32.toInt (M6_.1 124 14) = Int32.toInt (M.1 124 14) := congrArg Int32.toInt (g9_ 124 14 rfl); omega); rw [e2]; exact pvWh_r (((pvu_row e28_ (by decide)).trans (pvu_row e20_ (by decide))).trans (pvu_row e12_ (by decide))) (((pvu_row e28_ (by decide)).trans (pvu_row e20_ (by decide))).trans (pvu_row e12_ (by decide))) (((pvu_row e28_ (by decide)).trans (pvu_row e20_ (by decide))).trans (pvu_row e12_ (by decide))) (((pvu_row e28_ (by decide)).trans (pvu_row e20_ (by decide))).trans (pvu_row e12_ (by decide))) (((pvu_row e28_ (by decide)).trans (pvu_row e20_ (by decide))).trans (pvu_row e12_ (by decide))) (d4_.2.2 (pvyes (by omega)))) (by have z3 := hz.1; have w0 : Int32.toInt (M27_.1 124 14) = Int32.toInt ((M19_.1 124 14) + 1) := congrArg Int32.toInt (pvu_s e28_); have w1 : Int32.toInt (M19_.1 124 14) = Int32.toInt (M11_.1 124 14) := congrArg Int32.toInt (pvu_n e20_ 124 14 (Or.inr (by decide))); have w2 : Int32.toInt (M11_.1 124 14) = Int32.toInt (M6_.1 124 14) := congrArg Int32.toInt (pvu_n e12_ 124 14 (Or.inr (by decide))); have w3 : Int32.toInt (M6_.1 124 14) = Int32.toInt (M.1 124 14) := congrArg Int32.toInt (g9_ 124 14 rfl); have v0 : Int32.toInt (M27_.1 124 15) = Int32.toInt (M19_.1 124 15) := congrArg Int32.toInt (pvu_n e28_ 124 15 (Or.inr (by decide))); have v1 : Int32.toInt (M19_.1 124 15) = Int32.toInt (M11_.1 124 14) := congrArg Int32.toInt (pvu_s e20_); have v2 : Int32.toInt (M11_.1 124 15) = Int32.toInt (M6_.1 124 15) := congrArg Int32.toInt (pvu_n e12_ 124 15 (Or.inr (by decide))); have v3 : Int32.toInt (M6_.1 124 15) = Int32.toInt (M.1 124 15) := congrArg Int32.toInt (g9_ 124 15 rfl); omega) (by have z3 := hz.2.1; have w0 : Int32.toInt (M27_.1 124 14) = Int32.toInt ((M19_.1 124 14) + 1) := congrArg Int32.toInt (pvu_s e28_); have w1 : Int32.toInt (M19_.1 124 14) = Int32.toInt (M11_.1 124 14) := congrArg Int32.toInt (pvu_n e20_ 124 14 (Or.inr (by decide))); have w2 : Int32.toInt (M11_.1 124 14) = Int32.toInt (M6_.1 124 14) := congrArg Int32.toInt (pvu_n e12_ 124 14 (Or.inr (by decide))); have w3 : Int32.toInt (M6_.1 124 14) = Int32.toInt (M.1 124 14) := congrArg Int32.toInt (g9_ 124 14 rfl); have v0 : Int32.toInt (M27_.1 124 47) = Int32.toInt (M19_.1 124 47) := congrArg Int32.toInt (pvu_n e28_ 124 47 (Or.inr (by decide))); have v1 : Int32.toInt (M19_.1 124 47) = Int32.toInt (M11_.1 124 47) := congrArg Int32.toInt (pvu_n e20_ 124 47 (Or.inr (by decide))); have v2 : Int32.toInt (M11_.1 124 47) = Int32.toInt (M6_.1 124 47) := congrArg Int32.toInt (pvu_n e12_ 124 47 (Or.inr (by decide))); have v3 : Int32.toInt (M6_.1 124 47) = Int32.toInt (M.1 124 47) := congrArg Int32.toInt (g9_ 124 47 rfl); omega)⟩
    · have b33_ : 0 ≤ Int32.toInt x5_ ∧ Int32.toInt x5_ ≤ 0 := (by have u0 := b7_; have u1 := (zi_eq _ _).mp c15_; have u2 := (show 0 ≤ Int32.toInt 0 ∧ Int32.toInt 0 ≤ 0 from (by decide)); omega)
      have b34_ : 0 ≤ Int32.toInt (M11_.1 124 17) ∧ Int32.toInt (M11_.1 124 17) ≤ 100 := pvok_r o13_ 124 17 rfl
      obtain ⟨q36_, b35_⟩ : (Int32.toInt ((-10) - (M11_.1 124 17)) = (-10) - Int32.toInt (M11_.1 124 17)) ∧ ((-110) ≤ Int32.toInt ((-10) - (M11_.1 124 17)) ∧ Int32.toInt ((-10) - (M11_.1 124 17)) ≤ (-10)) := zsub_q (-10) (M11_.1 124 17) (-10) (-110) (-10) b34_ (by decide) (by decide) (by decide) (by decide) (by decide)
      refine pw_blk hT 4 (S' := (37, [some (pvR 124), some (pvI x5_)], [pvI ((-10) - (M11_.1 124 17))], M11_)) rfl ⟨trivial, trivial, rfl, trivial, trivial⟩ ?_
      exact pw_ret hT rfl (r := some (pvI ((-10) - (M11_.1 124 17)))) (M' := M11_) ⟨rfl, rfl⟩ ⟨⟨_, rfl, (zr_wide b35_ (by decide) (by decide))⟩, o13_, f14_, fun hz => pvWF_h hok hz (fun a ha h10 hw => pvWh_r (pvu_row e12_ (by decide)) (pvu_row e12_ (by decide)) (pvu_row e12_ (by decide)) (pvu_row e12_ (by decide)) (pvu_row e12_ (by decide)) (d4_.1 a ha h10 hw)) (fun a ha => Or.inl (by have w0 : Int32.toInt (M11_.1 124 14) = Int32.toInt (M6_.1 124 14) := congrArg Int32.toInt (pvu_n e12_ 124 14 (Or.inr (by decide))); have w1 : Int32.toInt (M6_.1 124 14) = Int32.toInt (M.1 124 14) := congrArg Int32.toInt (g9_ 124 14 rfl); omega)) (by have z3 := hz.1; have w0 : Int32.toInt (M11_.1 124 14) = Int32.toInt (M6_.1 124 14) := congrArg Int32.toInt (pvu_n e12_ 124 14 (Or.inr (by decide))); have w1 : Int32.toInt (M6_.1 124 14) = Int32.toInt (M.1 124 14) := congrArg Int32.toInt (g9_ 124 14 rfl); have v0 : Int32.toInt (M11_.1 124 15) = Int32.toInt (M6_.1 124 15) := congrArg Int32.toInt (pvu_n e12_ 124 15 (Or.inr (by decide))); have v1 : Int32.toInt (M6_.1 124 15) = Int32.toInt (M.1 124 15) := congrArg Int32.toInt (g9_ 124 15 rfl); omega) (by have z3 := hz.2.1; have w0 : Int32.toInt (M11_.1 124 14) = Int32.toInt (M6_.1 124 14) := congrArg Int32.toInt (pvu_n e12_ 124 14 (Or.inr (by decide))); have w1 : Int32.toInt (M6_.1 124 14) = Int32.toInt (M.1 124 14) := congrArg Int32.toInt (g9_ 124 14 rfl); have v0 : Int32.toInt (M11_.1 124 47) = Int32.toInt (M6_.1 124 47) := congrArg Int32.toInt (pvu_n e12_ 124 47 (Or.inr (by decide))); have v1 : Int32.toInt (M6_.1 124 47) = Int32.toInt (M.1 124 47) := congrArg Int32.toInt (g9_ 124 47 rfl); omega)⟩
  · have b37_ : 6 ≤ Int32.toInt (M.1 124 14) ∧ Int32.toInt (M.1 124 14) ≤ 6 := (by have u0 := b1_; have u1 := (zi_eq _ _).mp c2_; have u2 := (show 6 ≤ Int32.toInt 6 ∧ Int32.toInt 6 ≤ 6 from (by decide)); omega)
    refine pw_blk hT 1 (S' := (11, [some (pvR 124), none], [pvI (-4)], M)) rfl ⟨trivial, trivial⟩ ?_
    exact pw_ret hT rfl (r := some (pvI (-4))) (M' := M) ⟨rfl, rfl⟩ ⟨⟨_, rfl, (zr_wide (show (-4) ≤ Int32.toInt (-4) ∧ Int32.toInt (-4) ≤ (-4) from (by decide)) (by decide) (by decide))⟩, hok, pvfr_0, fun hz => hz⟩
def fpL_X10_image_124 : List (Nat × Nat × Nat) := [(0, 124, 47), (0, 124, 48), (0, 124, 49), (0, 124, 50), (0, 124, 51), (0, 124, 52), (0, 124, 53), (0, 124, 54), (0, 124, 55), (0, 124, 56), (0, 124, 57), (0, 124, 58), (0, 151, 0), (0, 152, 0), (0, 153, 0), (0, 154, 0), (0, 155, 0), (0, 156, 0), (0, 157, 0), (0, 158, 0), (0, 159, 0), (0, 160, 0), (0, 161, 0), (0, 162, 0)]
def fp_X10_image_124 (q k : Nat) : Bool := pvfp fpL_X10_image_124 q k
set_option maxHeartbeats 4000000 in
set_option maxRecDepth 10000 in
theorem sf_X10_image_124 (M : pvM) (hok : pvOk M) (d : Nat) : PW 35 d (0, [some (pvR 124), none], [], M) (fun r X => (∃ x : Int32, r = some (pvI x) ∧ 0 ≤ Int32.toInt x ∧ Int32.toInt x ≤ 7) ∧ pvOk X ∧ pvFr fp_X10_image_124 M X ∧ (pvWF M → pvWF X)) := by
  have hT : pvdom 35 = pvD_35 := rfl
  refine pw_blkw hT 3 (pc := 5) (lo := [some (pvR 124), none]) (st := []) (M := pvu M 124 46 1) rfl ⟨trivial, trivial, ⟨rfl, Or.inr rfl⟩, trivial⟩ (fun M1_ e2_ => ?_)
  have o3_ : pvOk M1_ := pvok_u2 e2_ hok rfl (zr_wide (show 1 ≤ Int32.toInt 1 ∧ Int32.toInt 1 ≤ 1 from (by decide)) (by decide) (by decide))
  have f4_ : pvFr fp_X10_image_124 M M1_ := pvfr_u e2_ pvfr_0 rfl
  have b5_ : (-1) ≤ Int32.toInt (M1_.1 124 15) ∧ Int32.toInt (M1_.1 124 15) ≤ 5 := pvok_r o3_ 124 15 rfl
  refine pw_blkw hT 4 (pc := 13) (lo := [some (pvR 124), none]) (st := []) (M := pvu M1_ 124 47 (M1_.1 124 15)) rfl ⟨trivial, trivial, rfl, rfl, trivial⟩ (fun M6_ e7_ => ?_)
  have o8_ : pvOk M6_ := pvok_u2 e7_ o3_ rfl b5_
  have f9_ : pvFr fp_X10_image_124 M M6_ := pvfr_u e7_ f4_ rfl
  have b10_ : 0 ≤ Int32.toInt (M6_.1 124 0) ∧ Int32.toInt (M6_.1 124 0) ≤ 7 := pvok_r o8_ 124 0 rfl
  refine pw_blkw hT 4 (pc := 21) (lo := [some (pvR 124), none]) (st := []) (M := pvu M6_ 124 48 (M6_.1 124 0)) rfl ⟨trivial, trivial, rfl, rfl, trivial⟩ (fun M11_ e12_ => ?_)
  have o13_ : pvOk M11_ := pvok_u2 e12_ o8_ rfl b10_
  have f14_ : pvFr fp_X10_image_124 M M11_ := pvfr_u e12_ f9_ rfl
  have b15_ : 0 ≤ Int32.toInt (M11_.1 124 1) ∧ Int32.toInt (M11_.1 124 1) ≤ 9999 := pvok_r o13_ 124 1 rfl
  refine pw_blkw hT 4 (pc := 29) (lo := [some (pvR 124), none]) (st := []) (M := pvu M11_ 124 49 (M11_.1 124 1)) rfl ⟨trivial, trivial, rfl, rfl, trivial⟩ (fun M16_ e17_ => ?_)
  have o18_ : pvOk M16_ := pvok_u2 e17_ o13_ rfl b15_
  have f19_ : pvFr fp_X10_image_124 M M16_ := pvfr_u e17_ f14_ rfl
  have b20_ : 0 ≤ Int32.toInt (M16_.1 124 2) ∧ Int32.toInt (M16_.1 124 2) ≤ 999999 := pvok_r o18_ 124 2 rfl
  refine pw_blkw hT 4 (pc := 37) (lo := [some (pvR 124), none]) (st := []) (M := pvu M16_ 124 50 (M16_.1 124 2)) rfl ⟨trivial, trivial, rfl, rfl, trivial⟩ (fun M21_ e22_ => ?_)
  have o23_ : pvOk M21_ := pvok_u2 e22_ o18_ rfl b20_
  have f24_ : pvFr fp_X10_image_124 M M21_ := pvfr_u e22_ f19_ rfl
  have b25_ : 0 ≤ Int32.toInt (M21_.1 124 3) ∧ Int32.toInt (M21_.1 124 3) ≤ 108 := pvok_r o23_ 124 3 rfl
  refine pw_blkw hT 4 (pc := 45) (lo := [some (pvR 124), none]) (st := []) (M := pvu M21_ 124 51 (M21_.1 124 3)) rfl ⟨trivial, trivial, rfl, rfl, trivial⟩ (fun M26_ e27_ => ?_)
  have o28_ : pvOk M26_ := pvok_u2 e27_ o23_ rfl b25_
  have f29_ : pvFr fp_X10_image_124 M M26_ := pvfr_u e27_ f24_ rfl
  have b30_ : 0 ≤ Int32.toInt (M26_.1 124 4) ∧ Int32.toInt (M26_.1 124 4) ≤ 4 := pvok_r o28_ 124 4 rfl
  refine pw_blkw hT 4 (pc := 53) (lo := [some (pvR 124), none]) (st := []) (M := pvu M26_ 124 52 (M26_.1 124 4)) rfl ⟨trivial, trivial, rfl, rfl, trivial⟩ (fun M31_ e32_ => ?_)
  have o33_ : pvOk M31_ := pvok_u2 e32_ o28_ rfl b30_
  have f34_ : pvFr fp_X10_image_124 M M31_ := pvfr_u e32_ f29_ rfl
  have b35_ : 0 ≤ Int32.toInt (M31_.1 124 5) ∧ Int32.toInt (M31_.1 124 5) ≤ 3 := pvok_r o33_ 124 5 rfl
  refine pw_blkw hT 4 (pc := 61) (lo := [some (pvR 124), none]) (st := []) (M := pvu M31_ 124 53 (M31_.1 124 5)) rfl ⟨trivial, trivial, rfl, rfl, trivial⟩ (fun M36_ e37_ => ?_)
  have o38_ : pvOk M36_ := pvok_u2 e37_ o33_ rfl b35_
  have f39_ : pvFr fp_X10_image_124 M M36_ := pvfr_u e37_ f34_ rfl
  have b40_ : 0 ≤ Int32.toInt (M36_.1 124 6) ∧ Int32.toInt (M36_.1 124 6) ≤ 4 := pvok_r o38_ 124 6 rfl
  refine pw_blkw hT 4 (pc := 69) (lo := [some (pvR 124), none]) (st := []) (M := pvu M36_ 124 54 (M36_.1 124 6)) rfl ⟨trivial, trivial, rfl, rfl, trivial⟩ (fun M41_ e42_ => ?_)
  have o43_ : pvOk M41_ := pvok_u2 e42_ o38_ rfl b40_
  have f44_ : pvFr fp_X10_image_124 M M41_ := pvfr_u e42_ f39_ rfl
  have b45_ : 0 ≤ Int32.toInt (M41_.1 124 37) ∧ Int32.toInt (M41_.1 124 37) ≤ 7 := pvok_r o43_ 124 37 rfl
  refine pw_blkw hT 4 (pc := 77) (lo := [some (pvR 124), none]) (st := []) (M := pvu M41_ 124 55 (M41_.1 124 37)) rfl ⟨trivial, trivial, rfl, rfl, trivial⟩ (fun M46_ e47_ => ?_)
  have o48_ : pvOk M46_ := pvok_u2 e47_ o43_ rfl b45_
  have f49_ : pvFr fp_X10_image_124 M M46_ := pvfr_u e47_ f44_ rfl
  have b50_ : 0 ≤ Int32.toInt (M46_.1 124 40) ∧ Int32.toInt (M46_.1 124 40) ≤ 6 := pvok_r o48_ 124 40 rfl
  refine pw_blkw hT 4 (pc := 85) (lo := [some (pvR 124), none]) (st := []) (M := pvu M46_ 124 56 (M46_.1 124 40)) rfl ⟨trivial, trivial, rfl, rfl, trivial⟩ (fun M51_ e52_ => ?_)
  have o53_ : pvOk M51_ := pvok_u2 e52_ o48_ rfl b50_
  have f54_ : pvFr fp_X10_image_124 M M51_ := pvfr_u e52_ f49_ rfl
  have b55_ : 0 ≤ Int32.toInt (M51_.1 124 43) ∧ Int32.toInt (M51_.1 124 43) ≤ 8 := pvok_r o53_ 124 43 rfl
  refine pw_blkw hT 4 (pc := 93) (lo := [some (pvR 124), none]) (st := []) (M := pvu M51_ 124 57 (M51_.1 124 43)) rfl ⟨trivial, trivial, rfl, rfl, trivial⟩ (fun M56_ e57_ => ?_)
  have o58_ : pvOk M56_ := pvok_u2 e57_ o53_ rfl b55_
  have f59_ : pvFr fp_X10_image_124 M M56_ := pvfr_u e57_ f54_ rfl
  refine pw_blk hT 2 (S' := (95, [some (pvR 124), some (pvI 0)], [], M56_)) rfl ⟨trivial, trivial, trivial⟩ ?_
  have hlz5442_ : ∀ (nz5442_ : Nat) (i1z5442_ : Int32) (Mz5442_ : pvM), (pvOk Mz5442_) → (pvFr fp_X10_image_124 M Mz5442_) → (0 ≤ Int32.toInt i1z5442_ ∧ Int32.toInt i1z5442_ ≤ 7) → (Int32.toInt (Mz5442_.1 124 47) = Int32.toInt (M.1 124 15)) → (zhide ((8 - Int32.toInt i1z5442_).toNat < nz5442_)) → PW 35 d (95, [some (pvR 124), some (pvI i1z5442_)], [], Mz5442_) (fun r X => (∃ x : Int32, r = some (pvI x) ∧ 0 ≤ Int32.toInt x ∧ Int32.toInt x ≤ 7) ∧ pvOk X ∧ pvFr fp_X10_image_124 M X ∧ (pvWF M → pvWF X)) := by
    intro nz5442_
    induction nz5442_ with
    | zero => intro i1z5442_ Mz5442_ oz5442_ fz5442_ h1z5442_ j0z5442_ hmz5442_; exact absurd (zshow hmz5442_) (Nat.not_lt_zero _)
    | succ nz5442_ ihz5442_ =>
      intro i1z5442_ Mz5442_ oz5442_ fz5442_ h1z5442_ j0z5442_ hmz5442_
      have b5443_ : (-1) ≤ Int32.toInt (Mz5442_.1 124 47) ∧ Int32.toInt (Mz5442_.1 124 47) ≤ 5 := pvok_r oz5442_ 124 47 rfl
      refine pw_blk hT 2 (S' := (98, [some (pvR 124), some (pvI i1z5442_)], [pvI 7, pvI i1z5442_], Mz5442_)) rfl ⟨trivial, trivial, trivial⟩ ?_
      refine pw_ic hT (c := 7 ≤ i1z5442_) rfl rfl (fun c5444_ => ?_) (fun c5444_ => ?_)
      · have b5445_ : 7 ≤ Int32.toInt i1z5442_ ∧ Int32.toInt i1z5442_ ≤ 7 := zr_le_r 7 c5444_ h1z5442_ (show 7 ≤ Int32.toInt 7 ∧ Int32.toInt 7 ≤ 7 from (by decide)) (by decide)
        refine pw_blk hT 2 (S' := (193, [some (pvR 124), some (pvI 0)], [], Mz5442_)) rfl ⟨trivial, trivial, trivial⟩ ?_
        have hlz6751_ : ∀ (nz6751_ : Nat) (i1z6751_ : Int32) (Mz6751_ : pvM), (pvOk Mz6751_) → (pvFr fp_X10_image_124 M Mz6751_) → (0 ≤ Int32.toInt i1z6751_ ∧ Int32.toInt i1z6751_ ≤ 28) → (Int32.toInt (Mz6751_.1 124 47) = Int32.toInt (M.1 124 15)) → (zhide ((29 - Int32.toInt i1z6751_).toNat < nz6751_)) → PW 35 d (193, [some (pvR 124), some (pvI i1z6751_)], [], Mz6751_) (fun r X => (∃ x : Int32, r = some (pvI x) ∧ 0 ≤ Int32.toInt x ∧ Int32.toInt x ≤ 7) ∧ pvOk X ∧ pvFr fp_X10_image_124 M X ∧ (pvWF M → pvWF X)) := by
          intro nz6751_
          induction nz6751_ with
          | zero => intro i1z6751_ Mz6751_ oz6751_ fz6751_ h1z6751_ j0z6751_ hmz6751_; exact absurd (zshow hmz6751_) (Nat.not_lt_zero _)
          | succ nz6751_ ihz6751_ =>
            intro i1z6751_ Mz6751_ oz6751_ fz6751_ h1z6751_ j0z6751_ hmz6751_
            have b6752_ : (-1) ≤ Int32.toInt (Mz6751_.1 124 47) ∧ Int32.toInt (Mz6751_.1 124 47) ≤ 5 := pvok_r oz6751_ 124 47 rfl
            refine pw_blk hT 2 (S' := (196, [some (pvR 124), some (pvI i1z6751_)], [pvI 28, pvI i1z6751_], Mz6751_)) rfl ⟨trivial, trivial, trivial⟩ ?_
            refine pw_ic hT (c := 28 ≤ i1z6751_) rfl rfl (fun c6753_ => ?_) (fun c6753_ => ?_)
            · have b6754_ : 28 ≤ Int32.toInt i1z6751_ ∧ Int32.toInt i1z6751_ ≤ 28 := zr_le_r 28 c6753_ h1z6751_ (show 28 ≤ Int32.toInt 28 ∧ Int32.toInt 28 ≤ 28 from (by decide)) (by decide)
              refine pw_blk hT 2 (S' := (219, [some (pvR 124), some (pvI 0)], [], Mz6751_)) rfl ⟨trivial, trivial, trivial⟩ ?_
              have hlz7072_ : ∀ (nz7072_ : Nat) (i1z7072_ : Int32) (Mz7072_ : pvM), (pvOk Mz7072_) → (pvFr fp_X10_image_124 M Mz7072_) → (0 ≤ Int32.toInt i1z7072_ ∧ Int32.toInt i1z7072_ ≤ 6) → (Int32.toInt (Mz7072_.1 124 47) = Int32.toInt (M.1 124 15)) → (zhide ((7 - Int32.toInt i1z7072_).toNat < nz7072_)) → PW 35 d (219, [some (pvR 124), some (pvI i1z7072_)], [], Mz7072_) (fun r X => (∃ x : Int32, r = some (pvI x) ∧ 0 ≤ Int32.toInt x ∧ Int32.toInt x ≤ 7) ∧ pvOk X ∧ pvFr fp_X10_image_124 M X ∧ (pvWF M → pvWF X)) := by
                intro nz7072_
                induction nz7072_ with
                | zero => intro i1z7072_ Mz7072_ oz7072_ fz7072_ h1z7072_ j0z7072_ hmz7072_; exact absurd (zshow hmz7072_) (Nat.not_lt_zero _)
                | succ nz7072_ ihz7072_ =>
                  intro i1z7072_ Mz7072_ oz7072_ fz7072_ h1z7072_ j0z7072_ hmz7072_
                  have b7073_ : (-1) ≤ Int32.toInt (Mz7072_.1 124 47) ∧ Int32.toInt (Mz7072_.1 124 47) ≤ 5 := pvok_r oz7072_ 124 47 rfl
                  refine pw_blk hT 2 (S' := (222, [some (pvR 124), some (pvI i1z7072_)], [pvI 6, pvI i1z7072_], Mz7072_)) rfl ⟨trivial, trivial, trivial⟩ ?_
                  refine pw_ic hT (c := 6 ≤ i1z7072_) rfl rfl (fun c7074_ => ?_) (fun c7074_ => ?_)
                  · have b7075_ : 6 ≤ Int32.toInt i1z7072_ ∧ Int32.toInt i1z7072_ ≤ 6 := zr_le_r 6 c7074_ h1z7072_ (show 6 ≤ Int32.toInt 6 ∧ Int32.toInt 6 ≤ 6 from (by decide)) (by decide)
                    refine pw_blk hT 2 (S' := (257, [some (pvR 124), some (pvI 0)], [], Mz7072_)) rfl ⟨trivial, trivial, trivial⟩ ?_
                    have hlz7141_ : ∀ (nz7141_ : Nat) (i1z7141_ : Int32) (Mz7141_ : pvM), (pvOk Mz7141_) → (pvFr fp_X10_image_124 M Mz7141_) → (0 ≤ Int32.toInt i1z7141_ ∧ Int32.toInt i1z7141_ ≤ 8) → (Int32.toInt (Mz7141_.1 124 47) = Int32.toInt (M.1 124 15)) → (zhide ((9 - Int32.toInt i1z7141_).toNat < nz7141_)) → PW 35 d (257, [some (pvR 124), some (pvI i1z7141_)], [], Mz7141_) (fun r X => (∃ x : Int32, r = some (pvI x) ∧ 0 ≤ Int32.toInt x ∧ Int32.toInt x ≤ 7) ∧ pvOk X ∧ pvFr fp_X10_image_124 M X ∧ (pvWF M → pvWF X)) := by
                      intro nz7141_
                      induction nz7141_ with
                      | zero => intro i1z7141_ Mz7141_ oz7141_ fz7141_ h1z7141_ j0z7141_ hmz7141_; exact absurd (zshow hmz7141_) (Nat.not_lt_zero _)
                      | succ nz7141_ ihz7141_ =>
                        intro i1z7141_ Mz7141_ oz7141_ fz7141_ h1z7141_ j0z7141_ hmz7141_
                        have b7142_ : (-1) ≤ Int32.toInt (Mz7141_.1 124 47) ∧ Int32.toInt (Mz7141_.1 124 47) ≤ 5 := pvok_r oz7141_ 124 47 rfl
                        refine pw_blk hT 2 (S' := (260, [some (pvR 124), some (pvI i1z7141_)], [pvI 8, pvI i1z7141_], Mz7141_)) rfl ⟨trivial, trivial, trivial⟩ ?_
                        refine pw_ic hT (c := 8 ≤ i1z7141_) rfl rfl (fun c7143_ => ?_) (fun c7143_ => ?_)
                        · have b7144_ : 8 ≤ Int32.toInt i1z7141_ ∧ Int32.toInt i1z7141_ ≤ 8 := zr_le_r 8 c7143_ h1z7141_ (show 8 ≤ Int32.toInt 8 ∧ Int32.toInt 8 ≤ 8 from (by decide)) (by decide)
                          have b7145_ : 0 ≤ Int32.toInt (Mz7141_.1 124 0) ∧ Int32.toInt (Mz7141_.1 124 0) ≤ 7 := pvok_r oz7141_ 124 0 rfl
                          refine pw_blk hT 2 (S' := (297, [some (pvR 124), some (pvI i1z7141_)], [pvI (Mz7141_.1 124 0)], Mz7141_)) rfl ⟨trivial, rfl, trivial⟩ ?_
                          exact pw_ret hT rfl (r := some (pvI (Mz7141_.1 124 0))) (M' := Mz7141_) ⟨rfl, rfl⟩ ⟨⟨_, rfl, b7145_⟩, oz7141_, fz7141_, fun hz => ⟨by have z3 := hz.1; have z4 := hz.2.1; have w0 : Int32.toInt (Mz7141_.1 124 14) = Int32.toInt (M.1 124 14) := congrArg Int32.toInt (fz7141_ 124 14 rfl); have v0 : Int32.toInt (Mz7141_.1 124 15) = Int32.toInt (M.1 124 15) := congrArg Int32.toInt (fz7141_ 124 15 rfl); omega, by have z3 := hz.1; have z4 := hz.2.1; have w0 : Int32.toInt (Mz7141_.1 124 14) = Int32.toInt (M.1 124 14) := congrArg Int32.toInt (fz7141_ 124 14 rfl); omega, fun a ha => pvWh_r (pvfr_row (L := fpL_X10_image_124) fz7141_ rfl) (pvfr_row (L := fpL_X10_image_124) fz7141_ rfl) (pvfr_row (L := fpL_X10_image_124) fz7141_ rfl) (pvfr_row (L := fpL_X10_image_124) fz7141_ rfl) (pvfr_row (L := fpL_X10_image_124) fz7141_ rfl) (hz.2.2 a (by have w0 : Int32.toInt (Mz7141_.1 124 14) = Int32.toInt (M.1 124 14) := congrArg Int32.toInt (fz7141_ 124 14 rfl); omega))⟩⟩
                        · have b7146_ : 0 ≤ Int32.toInt i1z7141_ ∧ Int32.toInt i1z7141_ ≤ 7 := zr_nle_r 7 c7143_ h1z7141_ (show 8 ≤ Int32.toInt 8 ∧ Int32.toInt 8 ≤ 8 from (by decide)) (by decide)
                          have b7147_ : 0 ≤ Int32.toInt (Mz7141_.1 149 (Int32.toNatClampNeg i1z7141_)) ∧ Int32.toInt (Mz7141_.1 149 (Int32.toNatClampNeg i1z7141_)) ≤ 6 := pvok_r oz7141_ 149 (Int32.toNatClampNeg i1z7141_) rfl
                          refine pw_blkw hT 8 (pc := 275) (lo := [some (pvR 124), some (pvI i1z7141_)]) (st := []) (M := pvu Mz7141_ 160 (Int32.toNatClampNeg i1z7141_) (Mz7141_.1 149 (Int32.toNatClampNeg i1z7141_))) rfl ⟨trivial, rfl, trivial, trivial, rfl, trivial, ⟨rfl, (zr_in (n := 8) b7146_ (by decide) (by decide))⟩, ⟨rfl, (zr_in (n := 8) b7146_ (by decide) (by decide))⟩, trivial⟩ (fun M7148_ e7149_ => ?_)
                          have o7150_ : pvOk M7148_ := pvok_u2 e7149_ oz7141_ rfl b7147_
                          have f7151_ : pvFr fp_X10_image_124 M M7148_ := pvfr_u e7149_ fz7141_ rfl
                          have b7152_ : 0 ≤ Int32.toInt (M7148_.1 150 (Int32.toNatClampNeg i1z7141_)) ∧ Int32.toInt (M7148_.1 150 (Int32.toNatClampNeg i1z7141_)) ≤ 9999 := pvok_r o7150_ 150 (Int32.toNatClampNeg i1z7141_) rfl
                          refine pw_blkw hT 8 (pc := 287) (lo := [some (pvR 124), some (pvI i1z7141_)]) (st := []) (M := pvu M7148_ 161 (Int32.toNatClampNeg i1z7141_) (M7148_.1 150 (Int32.toNatClampNeg i1z7141_))) rfl ⟨trivial, rfl, trivial, trivial, rfl, trivial, ⟨rfl, (zr_in (n := 8) b7146_ (by decide) (by decide))⟩, ⟨rfl, (zr_in (n := 8) b7146_ (by decide) (by decide))⟩, trivial⟩ (fun M7153_ e7154_ => ?_)
                          have o7155_ : pvOk M7153_ := pvok_u2 e7154_ o7150_ rfl b7152_
                          have f7156_ : pvFr fp_X10_image_124 M M7153_ := pvfr_u e7154_ f7151_ rfl
                          obtain ⟨q7158_, b7157_⟩ : (Int32.toInt (i1z7141_ + 1) = Int32.toInt i1z7141_ + 1) ∧ (1 ≤ Int32.toInt (i1z7141_ + 1) ∧ Int32.toInt (i1z7141_ + 1) ≤ 8) := zadd_k i1z7141_ 1 1 1 8 b7146_ (by decide) (by decide) (by decide) (by decide) (by decide)
                          refine pw_blk hT 2 (S' := (257, [some (pvR 124), some (pvI (i1z7141_ + 1))], [], M7153_)) rfl ⟨trivial, trivial, trivial⟩ ?_
                          have j7159_ : Int32.toInt (M7153_.1 124 47) = Int32.toInt (M.1 124 15) := (by have y01 : Int32.toInt (M7153_.1 124 47) = Int32.toInt (Mz7141_.1 124 47) := congrArg Int32.toInt ((pvu_n e7154_ 124 47 (Or.inl (by decide))).trans (pvu_n e7149_ 124 47 (Or.inl (by decide)))); omega)
                          exact ihz7141_ (i1z7141_ + 1) M7153_ o7155_ f7156_ (zr_wide b7157_ (by decide) (by decide)) j7159_ (zhid (by have hm0 := zshow hmz7141_; have y01 : Int32.toInt (M7153_.1 124 47) = Int32.toInt (Mz7141_.1 124 47) := congrArg Int32.toInt ((pvu_n e7154_ 124 47 (Or.inl (by decide))).trans (pvu_n e7149_ 124 47 (Or.inl (by decide)))); omega))
                    have u7160_ : Int32.toInt 0 = 0 := by decide
                    have j7161_ : Int32.toInt (Mz7072_.1 124 47) = Int32.toInt (M.1 124 15) := (by omega)
                    exact hlz7141_ _ 0 Mz7072_ oz7072_ fz7072_ (zr_wide (show 0 ≤ Int32.toInt 0 ∧ Int32.toInt 0 ≤ 0 from (by decide)) (by decide) (by decide)) j7161_ (zhid (Nat.lt_succ_self _))
                  · have b7162_ : 0 ≤ Int32.toInt i1z7072_ ∧ Int32.toInt i1z7072_ ≤ 5 := zr_nle_r 5 c7074_ h1z7072_ (show 6 ≤ Int32.toInt 6 ∧ Int32.toInt 6 ≤ 6 from (by decide)) (by decide)
                    have b7163_ : 0 ≤ Int32.toInt (Mz7072_.1 147 (Int32.toNatClampNeg i1z7072_)) ∧ Int32.toInt (Mz7072_.1 147 (Int32.toNatClampNeg i1z7072_)) ≤ 6 := pvok_r oz7072_ 147 (Int32.toNatClampNeg i1z7072_) rfl
                    refine pw_blkw hT 8 (pc := 237) (lo := [some (pvR 124), some (pvI i1z7072_)]) (st := []) (M := pvu Mz7072_ 158 (Int32.toNatClampNeg i1z7072_) (Mz7072_.1 147 (Int32.toNatClampNeg i1z7072_))) rfl ⟨trivial, rfl, trivial, trivial, rfl, trivial, ⟨rfl, (zr_in (n := 6) b7162_ (by decide) (by decide))⟩, ⟨rfl, (zr_in (n := 6) b7162_ (by decide) (by decide))⟩, trivial⟩ (fun M7164_ e7165_ => ?_)
                    have o7166_ : pvOk M7164_ := pvok_u2 e7165_ oz7072_ rfl b7163_
                    have f7167_ : pvFr fp_X10_image_124 M M7164_ := pvfr_u e7165_ fz7072_ rfl
                    have b7168_ : 0 ≤ Int32.toInt (M7164_.1 148 (Int32.toNatClampNeg i1z7072_)) ∧ Int32.toInt (M7164_.1 148 (Int32.toNatClampNeg i1z7072_)) ≤ 9999 := pvok_r o7166_ 148 (Int32.toNatClampNeg i1z7072_) rfl
                    refine pw_blkw hT 8 (pc := 249) (lo := [some (pvR 124), some (pvI i1z7072_)]) (st := []) (M := pvu M7164_ 159 (Int32.toNatClampNeg i1z7072_) (M7164_.1 148 (Int32.toNatClampNeg i1z7072_))) rfl ⟨trivial, rfl, trivial, trivial, rfl, trivial, ⟨rfl, (zr_in (n := 6) b7162_ (by decide) (by decide))⟩, ⟨rfl, (zr_in (n := 6) b7162_ (by decide) (by decide))⟩, trivial⟩ (fun M7169_ e7170_ => ?_)
                    have o7171_ : pvOk M7169_ := pvok_u2 e7170_ o7166_ rfl b7168_
                    have f7172_ : pvFr fp_X10_image_124 M M7169_ := pvfr_u e7170_ f7167_ rfl
                    obtain ⟨q7174_, b7173_⟩ : (Int32.toInt (i1z7072_ + 1) = Int32.toInt i1z7072_ + 1) ∧ (1 ≤ Int32.toInt (i1z7072_ + 1) ∧ Int32.toInt (i1z7072_ + 1) ≤ 6) := zadd_k i1z7072_ 1 1 1 6 b7162_ (by decide) (by decide) (by decide) (by decide) (by decide)
                    refine pw_blk hT 2 (S' := (219, [some (pvR 124), some (pvI (i1z7072_ + 1))], [], M7169_)) rfl ⟨trivial, trivial, trivial⟩ ?_
                    have j7175_ : Int32.toInt (M7169_.1 124 47) = Int32.toInt (M.1 124 15) := (by have y01 : Int32.toInt (M7169_.1 124 47) = Int32.toInt (Mz7072_.1 124 47) := congrArg Int32.toInt ((pvu_n e7170_ 124 47 (Or.inl (by decide))).trans (pvu_n e7165_ 124 47 (Or.inl (by decide)))); omega)
                    exact ihz7072_ (i1z7072_ + 1) M7169_ o7171_ f7172_ (zr_wide b7173_ (by decide) (by decide)) j7175_ (zhid (by have hm0 := zshow hmz7072_; have y01 : Int32.toInt (M7169_.1 124 47) = Int32.toInt (Mz7072_.1 124 47) := congrArg Int32.toInt ((pvu_n e7170_ 124 47 (Or.inl (by decide))).trans (pvu_n e7165_ 124 47 (Or.inl (by decide)))); omega))
              have u7176_ : Int32.toInt 0 = 0 := by decide
              have j7177_ : Int32.toInt (Mz6751_.1 124 47) = Int32.toInt (M.1 124 15) := (by omega)
              exact hlz7072_ _ 0 Mz6751_ oz6751_ fz6751_ (zr_wide (show 0 ≤ Int32.toInt 0 ∧ Int32.toInt 0 ≤ 0 from (by decide)) (by decide) (by decide)) j7177_ (zhid (Nat.lt_succ_self _))
            · have b7178_ : 0 ≤ Int32.toInt i1z6751_ ∧ Int32.toInt i1z6751_ ≤ 27 := zr_nle_r 27 c6753_ h1z6751_ (show 28 ≤ Int32.toInt 28 ∧ Int32.toInt 28 ≤ 28 from (by decide)) (by decide)
              have b7179_ : 0 ≤ Int32.toInt (Mz6751_.1 130 (Int32.toNatClampNeg i1z6751_)) ∧ Int32.toInt (Mz6751_.1 130 (Int32.toNatClampNeg i1z6751_)) ≤ 9 := pvok_r oz6751_ 130 (Int32.toNatClampNeg i1z6751_) rfl
              refine pw_blkw hT 8 (pc := 211) (lo := [some (pvR 124), some (pvI i1z6751_)]) (st := []) (M := pvu Mz6751_ 156 (Int32.toNatClampNeg i1z6751_) (Mz6751_.1 130 (Int32.toNatClampNeg i1z6751_))) rfl ⟨trivial, rfl, trivial, trivial, rfl, trivial, ⟨rfl, (zr_in (n := 28) b7178_ (by decide) (by decide))⟩, ⟨rfl, (zr_in (n := 28) b7178_ (by decide) (by decide))⟩, trivial⟩ (fun M7180_ e7181_ => ?_)
              have o7182_ : pvOk M7180_ := pvok_u2 e7181_ oz6751_ rfl b7179_
              have f7183_ : pvFr fp_X10_image_124 M M7180_ := pvfr_u e7181_ fz6751_ rfl
              obtain ⟨q7185_, b7184_⟩ : (Int32.toInt (i1z6751_ + 1) = Int32.toInt i1z6751_ + 1) ∧ (1 ≤ Int32.toInt (i1z6751_ + 1) ∧ Int32.toInt (i1z6751_ + 1) ≤ 28) := zadd_k i1z6751_ 1 1 1 28 b7178_ (by decide) (by decide) (by decide) (by decide) (by decide)
              refine pw_blk hT 2 (S' := (193, [some (pvR 124), some (pvI (i1z6751_ + 1))], [], M7180_)) rfl ⟨trivial, trivial, trivial⟩ ?_
              have j7186_ : Int32.toInt (M7180_.1 124 47) = Int32.toInt (M.1 124 15) := (by have y01 : Int32.toInt (M7180_.1 124 47) = Int32.toInt (Mz6751_.1 124 47) := congrArg Int32.toInt (pvu_n e7181_ 124 47 (Or.inl (by decide))); omega)
              exact ihz6751_ (i1z6751_ + 1) M7180_ o7182_ f7183_ (zr_wide b7184_ (by decide) (by decide)) j7186_ (zhid (by have hm0 := zshow hmz6751_; have y01 : Int32.toInt (M7180_.1 124 47) = Int32.toInt (Mz6751_.1 124 47) := congrArg Int32.toInt (pvu_n e7181_ 124 47 (Or.inl (by decide))); omega))
        have u7187_ : Int32.toInt 0 = 0 := by decide
        have j7188_ : Int32.toInt (Mz5442_.1 124 47) = Int32.toInt (M.1 124 15) := (by omega)
        exact hlz6751_ _ 0 Mz5442_ oz5442_ fz5442_ (zr_wide (show 0 ≤ Int32.toInt 0 ∧ Int32.toInt 0 ≤ 0 from (by decide)) (by decide) (by decide)) j7188_ (zhid (Nat.lt_succ_self _))
      · have b7189_ : 0 ≤ Int32.toInt i1z5442_ ∧ Int32.toInt i1z5442_ ≤ 6 := zr_nle_r 6 c5444_ h1z5442_ (show 7 ≤ Int32.toInt 7 ∧ Int32.toInt 7 ≤ 7 from (by decide)) (by decide)
        have b7190_ : 0 ≤ Int32.toInt (Mz5442_.1 125 (Int32.toNatClampNeg i1z5442_)) ∧ Int32.toInt (Mz5442_.1 125 (Int32.toNatClampNeg i1z5442_)) ≤ 6 := pvok_r oz5442_ 125 (Int32.toNatClampNeg i1z5442_) rfl
        refine pw_blkw hT 8 (pc := 113) (lo := [some (pvR 124), some (pvI i1z5442_)]) (st := []) (M := pvu Mz5442_ 151 (Int32.toNatClampNeg i1z5442_) (Mz5442_.1 125 (Int32.toNatClampNeg i1z5442_))) rfl ⟨trivial, rfl, trivial, trivial, rfl, trivial, ⟨rfl, (zr_in (n := 7) b7189_ (by decide) (by decide))⟩, ⟨rfl, (zr_in (n := 7) b7189_ (by decide) (by decide))⟩, trivial⟩ (fun M7191_ e7192_ => ?_)
        have o7193_ : pvOk M7191_ := pvok_u2 e7192_ oz5442_ rfl b7190_
        have f7194_ : pvFr fp_X10_image_124 M M7191_ := pvfr_u e7192_ fz5442_ rfl
        have b7195_ : 0 ≤ Int32.toInt (M7191_.1 126 (Int32.toNatClampNeg i1z5442_)) ∧ Int32.toInt (M7191_.1 126 (Int32.toNatClampNeg i1z5442_)) ≤ 9 := pvok_r o7193_ 126 (Int32.toNatClampNeg i1z5442_) rfl
        refine pw_blkw hT 8 (pc := 125) (lo := [some (pvR 124), some (pvI i1z5442_)]) (st := []) (M := pvu M7191_ 152 (Int32.toNatClampNeg i1z5442_) (M7191_.1 126 (Int32.toNatClampNeg i1z5442_))) rfl ⟨trivial, rfl, trivial, trivial, rfl, trivial, ⟨rfl, (zr_in (n := 7) b7189_ (by decide) (by decide))⟩, ⟨rfl, (zr_in (n := 7) b7189_ (by decide) (by decide))⟩, trivial⟩ (fun M7196_ e7197_ => ?_)
        have o7198_ : pvOk M7196_ := pvok_u2 e7197_ o7193_ rfl b7195_
        have f7199_ : pvFr fp_X10_image_124 M M7196_ := pvfr_u e7197_ f7194_ rfl
        have b7200_ : 0 ≤ Int32.toInt (M7196_.1 127 (Int32.toNatClampNeg i1z5442_)) ∧ Int32.toInt (M7196_.1 127 (Int32.toNatClampNeg i1z5442_)) ≤ 3 := pvok_r o7198_ 127 (Int32.toNatClampNeg i1z5442_) rfl
        refine pw_blkw hT 8 (pc := 137) (lo := [some (pvR 124), some (pvI i1z5442_)]) (st := []) (M := pvu M7196_ 153 (Int32.toNatClampNeg i1z5442_) (M7196_.1 127 (Int32.toNatClampNeg i1z5442_))) rfl ⟨trivial, rfl, trivial, trivial, rfl, trivial, ⟨rfl, (zr_in (n := 7) b7189_ (by decide) (by decide))⟩, ⟨rfl, (zr_in (n := 7) b7189_ (by decide) (by decide))⟩, trivial⟩ (fun M7201_ e7202_ => ?_)
        have o7203_ : pvOk M7201_ := pvok_u2 e7202_ o7198_ rfl b7200_
        have f7204_ : pvFr fp_X10_image_124 M M7201_ := pvfr_u e7202_ f7199_ rfl
        have b7205_ : 0 ≤ Int32.toInt (M7201_.1 128 (Int32.toNatClampNeg i1z5442_)) ∧ Int32.toInt (M7201_.1 128 (Int32.toNatClampNeg i1z5442_)) ≤ 4 := pvok_r o7203_ 128 (Int32.toNatClampNeg i1z5442_) rfl
        refine pw_blkw hT 8 (pc := 149) (lo := [some (pvR 124), some (pvI i1z5442_)]) (st := []) (M := pvu M7201_ 154 (Int32.toNatClampNeg i1z5442_) (M7201_.1 128 (Int32.toNatClampNeg i1z5442_))) rfl ⟨trivial, rfl, trivial, trivial, rfl, trivial, ⟨rfl, (zr_in (n := 7) b7189_ (by decide) (by decide))⟩, ⟨rfl, (zr_in (n := 7) b7189_ (by decide) (by decide))⟩, trivial⟩ (fun M7206_ e7207_ => ?_)
        have o7208_ : pvOk M7206_ := pvok_u2 e7207_ o7203_ rfl b7205_
        have f7209_ : pvFr fp_X10_image_124 M M7206_ := pvfr_u e7207_ f7204_ rfl
        have b7210_ : 0 ≤ Int32.toInt (M7206_.1 129 (Int32.toNatClampNeg i1z5442_)) ∧ Int32.toInt (M7206_.1 129 (Int32.toNatClampNeg i1z5442_)) ≤ 9 := pvok_r o7208_ 129 (Int32.toNatClampNeg i1z5442_) rfl
        refine pw_blkw hT 8 (pc := 161) (lo := [some (pvR 124), some (pvI i1z5442_)]) (st := []) (M := pvu M7206_ 155 (Int32.toNatClampNeg i1z5442_) (M7206_.1 129 (Int32.toNatClampNeg i1z5442_))) rfl ⟨trivial, rfl, trivial, trivial, rfl, trivial, ⟨rfl, (zr_in (n := 7) b7189_ (by decide) (by decide))⟩, ⟨rfl, (zr_in (n := 7) b7189_ (by decide) (by decide))⟩, trivial⟩ (fun M7211_ e7212_ => ?_)
        have o7213_ : pvOk M7211_ := pvok_u2 e7212_ o7208_ rfl b7210_
        have f7214_ : pvFr fp_X10_image_124 M M7211_ := pvfr_u e7212_ f7209_ rfl
        have b7215_ : 0 ≤ Int32.toInt (M7211_.1 131 (Int32.toNatClampNeg i1z5442_)) ∧ Int32.toInt (M7211_.1 131 (Int32.toNatClampNeg i1z5442_)) ≤ 1 := pvok_r o7213_ 131 (Int32.toNatClampNeg i1z5442_) rfl
        refine pw_blkw hT 8 (pc := 173) (lo := [some (pvR 124), some (pvI i1z5442_)]) (st := []) (M := pvu M7211_ 162 (Int32.toNatClampNeg i1z5442_) (vp_nar .boolean (M7211_.1 131 (Int32.toNatClampNeg i1z5442_)))) rfl ⟨trivial, rfl, trivial, trivial, rfl, trivial, ⟨rfl, (zr_in (n := 7) b7189_ (by decide) (by decide))⟩, ⟨rfl, (zr_in (n := 7) b7189_ (by decide) (by decide))⟩, trivial⟩ (fun M7216_ e7217_ => ?_)
        have o7218_ : pvOk M7216_ := pvok_u2 e7217_ o7213_ rfl (zboolr (M7211_.1 131 (Int32.toNatClampNeg i1z5442_)))
        have f7219_ : pvFr fp_X10_image_124 M M7216_ := pvfr_u e7217_ f7214_ rfl
        have b7220_ : 0 ≤ Int32.toInt (M7216_.1 145 (Int32.toNatClampNeg i1z5442_)) ∧ Int32.toInt (M7216_.1 145 (Int32.toNatClampNeg i1z5442_)) ≤ 6 := pvok_r o7218_ 145 (Int32.toNatClampNeg i1z5442_) rfl
        refine pw_blkw hT 8 (pc := 185) (lo := [some (pvR 124), some (pvI i1z5442_)]) (st := []) (M := pvu M7216_ 157 (Int32.toNatClampNeg i1z5442_) (M7216_.1 145 (Int32.toNatClampNeg i1z5442_))) rfl ⟨trivial, rfl, trivial, trivial, rfl, trivial, ⟨rfl, (zr_in (n := 7) b7189_ (by decide) (by decide))⟩, ⟨rfl, (zr_in (n := 7) b7189_ (by decide) (by decide))⟩, trivial⟩ (fun M7221_ e7222_ => ?_)
        have o7223_ : pvOk M7221_ := pvok_u2 e7222_ o7218_ rfl b7220_
        have f7224_ : pvFr fp_X10_image_124 M M7221_ := pvfr_u e7222_ f7219_ rfl
        obtain ⟨q7226_, b7225_⟩ : (Int32.toInt (i1z5442_ + 1) = Int32.toInt i1z5442_ + 1) ∧ (1 ≤ Int32.toInt (i1z5442_ + 1) ∧ Int32.toInt (i1z5442_ + 1) ≤ 7) := zadd_k i1z5442_ 1 1 1 7 b7189_ (by decide) (by decide) (by decide) (by decide) (by decide)
        refine pw_blk hT 2 (S' := (95, [some (pvR 124), some (pvI (i1z5442_ + 1))], [], M7221_)) rfl ⟨trivial, trivial, trivial⟩ ?_
        have j7227_ : Int32.toInt (M7221_.1 124 47) = Int32.toInt (M.1 124 15) := (by have y01 : Int32.toInt (M7221_.1 124 47) = Int32.toInt (Mz5442_.1 124 47) := congrArg Int32.toInt (((((((pvu_n e7222_ 124 47 (Or.inl (by decide))).trans (pvu_n e7217_ 124 47 (Or.inl (by decide)))).trans (pvu_n e7212_ 124 47 (Or.inl (by decide)))).trans (pvu_n e7207_ 124 47 (Or.inl (by decide)))).trans (pvu_n e7202_ 124 47 (Or.inl (by decide)))).trans (pvu_n e7197_ 124 47 (Or.inl (by decide)))).trans (pvu_n e7192_ 124 47 (Or.inl (by decide)))); omega)
        exact ihz5442_ (i1z5442_ + 1) M7221_ o7223_ f7224_ (zr_wide b7225_ (by decide) (by decide)) j7227_ (zhid (by have hm0 := zshow hmz5442_; have y01 : Int32.toInt (M7221_.1 124 47) = Int32.toInt (Mz5442_.1 124 47) := congrArg Int32.toInt (((((((pvu_n e7222_ 124 47 (Or.inl (by decide))).trans (pvu_n e7217_ 124 47 (Or.inl (by decide)))).trans (pvu_n e7212_ 124 47 (Or.inl (by decide)))).trans (pvu_n e7207_ 124 47 (Or.inl (by decide)))).trans (pvu_n e7202_ 124 47 (Or.inl (by decide)))).trans (pvu_n e7197_ 124 47 (Or.inl (by decide)))).trans (pvu_n e7192_ 124 47 (Or.inl (by decide)))); omega))
  have u7228_ : Int32.toInt 0 = 0 := by decide
  have j7229_ : Int32.toInt (M56_.1 124 47) = Int32.toInt (M.1 124 15) := (by have z1 : Int32.toInt (M56_.1 124 47) = Int32.toInt (M1_.1 124 15) := congrArg Int32.toInt (((((((((((pvu_n e57_ 124 47 (Or.inr (by decide))).trans (pvu_n e52_ 124 47 (Or.inr (by decide)))).trans (pvu_n e47_ 124 47 (Or.inr (by decide)))).trans (pvu_n e42_ 124 47 (Or.inr (by decide)))).trans (pvu_n e37_ 124 47 (Or.inr (by decide)))).trans (pvu_n e32_ 124 47 (Or.inr (by decide)))).trans (pvu_n e27_ 124 47 (Or.inr (by decide)))).trans (pvu_n e22_ 124 47 (Or.inr (by decide)))).trans (pvu_n e17_ 124 47 (Or.inr (by decide)))).trans (pvu_n e12_ 124 47 (Or.inr (by decide)))).trans (pvu_s e7_)); have z2 : Int32.toInt (M1_.1 124 15) = Int32.toInt (M.1 124 15) := congrArg Int32.toInt (pvu_n e2_ 124 15 (Or.inr (by decide))); omega)
  exact hlz5442_ _ 0 M56_ o58_ f59_ (zr_wide (show 0 ≤ Int32.toInt 0 ∧ Int32.toInt 0 ≤ 0 from (by decide)) (by decide) (by decide)) j7229_ (zhid (Nat.lt_succ_self _))
set_option maxHeartbeats 4000000 in
set_option maxRecDepth 10000 in
theorem sf_X10_isLimit_124_x (M : pvM) (hok : pvOk M) (n1 : Int32) (d : Nat) : PW 38 d (0, [some (pvR 124), some (pvI n1)], [], M) (fun r X => r = some (pvI ((if n1 < 0 then 0 else (if 99999 < n1 then 0 else 1)))) ∧ X = M) := by
  have hT : pvdom 38 = pvD_38 := rfl
  refine pw_blk hT 4 (S' := (6, [some (pvR 124), some (pvI n1)], [pvI 99999, pvI 0, pvI n1, pvR 124], M)) rfl ⟨trivial, trivial, trivial, trivial, trivial⟩ ?_
  refine pw_callT hT (as := [pvR 124, pvI n1, pvI 0, pvI 99999]) (lo1 := [some (pvR 124), some (pvI n1), some (pvI 0), some (pvI 99999)]) (d1 := d) (rest := []) rfl rfl rfl rfl rfl (fun _ => rfl) (Nat.zero_le _) rfl rfl rfl (sf_X10_in_124_x_x_x M hok n1 0 99999 d) ?_
  by_cases c6_ : n1 < 0
  · refine pw_eqI (if_pos c6_) ?_
    have b7_ : (-2147483648) ≤ Int32.toInt n1 ∧ Int32.toInt n1 ≤ (-1) := zr_lt_l (-1) c6_ (zbnd n1) (show 0 ≤ Int32.toInt 0 ∧ Int32.toInt 0 ≤ 0 from (by decide)) (by decide)
    show PW 38 d (9, [some (pvR 124), some (pvI n1)], [pvI 0], M) _
    exact pw_ret hT rfl (r := some (pvI 0)) (M' := M) ⟨Or.inl rfl, rfl, rfl⟩ ⟨(by rw [if_pos c6_]), rfl⟩
  · refine pw_eqI (if_neg c6_) ?_
    have b8_ : 0 ≤ Int32.toInt n1 ∧ Int32.toInt n1 ≤ 2147483647 := zr_nlt_l 0 c6_ (zbnd n1) (show 0 ≤ Int32.toInt 0 ∧ Int32.toInt 0 ≤ 0 from (by decide)) (by decide)
    by_cases c9_ : 99999 < n1
    · refine pw_eqI (if_pos c9_) ?_
      have b10_ : 100000 ≤ Int32.toInt n1 ∧ Int32.toInt n1 ≤ 2147483647 := zr_lt_r 100000 c9_ b8_ (show 99999 ≤ Int32.toInt 99999 ∧ Int32.toInt 99999 ≤ 99999 from (by decide)) (by decide)
      show PW 38 d (9, [some (pvR 124), some (pvI n1)], [pvI 0], M) _
      exact pw_ret hT rfl (r := some (pvI 0)) (M' := M) ⟨Or.inl rfl, rfl, rfl⟩ ⟨(by rw [if_neg c6_, if_pos c9_]), rfl⟩
    · refine pw_eqI (if_neg c9_) ?_
      have b11_ : 0 ≤ Int32.toInt n1 ∧ Int32.toInt n1 ≤ 99999 := zr_nlt_r 99999 c9_ b8_ (show 99999 ≤ Int32.toInt 99999 ∧ Int32.toInt 99999 ≤ 99999 from (by decide)) (by decide)
      show PW 38 d (9, [some (pvR 124), some (pvI n1)], [pvI 1], M) _
      exact pw_ret hT rfl (r := some (pvI 1)) (M' := M) ⟨Or.inr rfl, rfl, rfl⟩ ⟨(by rw [if_neg c6_, if_neg c9_]), rfl⟩
set_option maxHeartbeats 4000000 in
set_option maxRecDepth 10000 in
theorem sf_X10_isPlace_124_x_x (M : pvM) (hok : pvOk M) (n1 : Int32) (n2 : Int32) (d : Nat) : PW 40 d (0, [some (pvR 124), some (pvI n1), some (pvI n2)], [], M) (fun r X => r = some (pvI ((if n1 < 0 then 0 else (if 3 < n1 then 0 else (if n2 < 0 then 0 else (if 4 < n2 then 0 else 1)))))) ∧ X = M) := by
  have hT : pvdom 40 = pvD_40 := rfl
  refine pw_blk hT 4 (S' := (4, [some (pvR 124), some (pvI n1), some (pvI n2)], [pvI 3, pvI 0, pvI n1, pvR 124], M)) rfl ⟨trivial, trivial, trivial, trivial, trivial⟩ ?_
  refine pw_callT hT (as := [pvR 124, pvI n1, pvI 0, pvI 3]) (lo1 := [some (pvR 124), some (pvI n1), some (pvI 0), some (pvI 3)]) (d1 := d) (rest := []) rfl rfl rfl rfl rfl (fun _ => rfl) (Nat.zero_le _) rfl rfl rfl (sf_X10_in_124_x_x_x M hok n1 0 3 d) ?_
  by_cases c6_ : n1 < 0
  · refine pw_eqI (if_pos c6_) ?_
    have b7_ : (-2147483648) ≤ Int32.toInt n1 ∧ Int32.toInt n1 ≤ (-1) := zr_lt_l (-1) c6_ (zbnd n1) (show 0 ≤ Int32.toInt 0 ∧ Int32.toInt 0 ≤ 0 from (by decide)) (by decide)
    show PW 40 d (7, [some (pvR 124), some (pvI n1), some (pvI n2)], [pvI 0], M) _
    refine pw_if hT (c := 0 = 0) rfl rfl (fun c8_ => ?_) (fun c8_ => absurd (by decide) c8_)
    refine pw_blk hT 1 (S' := (25, [some (pvR 124), some (pvI n1), some (pvI n2)], [pvI 0], M)) rfl ⟨trivial, trivial⟩ ?_
    exact pw_ret hT rfl (r := some (pvI 0)) (M' := M) ⟨Or.inl rfl, rfl, rfl⟩ ⟨(by rw [if_pos c6_]), rfl⟩
  · refine pw_eqI (if_neg c6_) ?_
    have b9_ : 0 ≤ Int32.toInt n1 ∧ Int32.toInt n1 ≤ 2147483647 := zr_nlt_l 0 c6_ (zbnd n1) (show 0 ≤ Int32.toInt 0 ∧ Int32.toInt 0 ≤ 0 from (by decide)) (by decide)
    by_cases c10_ : 3 < n1
    · refine pw_eqI (if_pos c10_) ?_
      have b11_ : 4 ≤ Int32.toInt n1 ∧ Int32.toInt n1 ≤ 2147483647 := zr_lt_r 4 c10_ b9_ (show 3 ≤ Int32.toInt 3 ∧ Int32.toInt 3 ≤ 3 from (by decide)) (by decide)
      show PW 40 d (7, [some (pvR 124), some (pvI n1), some (pvI n2)], [pvI 0], M) _
      refine pw_if hT (c := 0 = 0) rfl rfl (fun c12_ => ?_) (fun c12_ => absurd (by decide) c12_)
      refine pw_blk hT 1 (S' := (25, [some (pvR 124), some (pvI n1), some (pvI n2)], [pvI 0], M)) rfl ⟨trivial, trivial⟩ ?_
      exact pw_ret hT rfl (r := some (pvI 0)) (M' := M) ⟨Or.inl rfl, rfl, rfl⟩ ⟨(by rw [if_neg c6_, if_pos c10_]), rfl⟩
    · refine pw_eqI (if_neg c10_) ?_
      have b13_ : 0 ≤ Int32.toInt n1 ∧ Int32.toInt n1 ≤ 3 := zr_nlt_r 3 c10_ b9_ (show 3 ≤ Int32.toInt 3 ∧ Int32.toInt 3 ≤ 3 from (by decide)) (by decide)
      show PW 40 d (7, [some (pvR 124), some (pvI n1), some (pvI n2)], [pvI 1], M) _
      refine pw_if hT (c := 1 = 0) rfl rfl (fun c14_ => absurd c14_ (by decide)) (fun c14_ => ?_)
      refine pw_blk hT 4 (S' := (14, [some (pvR 124), some (pvI n1), some (pvI n2)], [pvI 4, pvI 0, pvI n2, pvR 124], M)) rfl ⟨trivial, trivial, trivial, trivial, trivial⟩ ?_
      refine pw_callT hT (as := [pvR 124, pvI n2, pvI 0, pvI 4]) (lo1 := [some (pvR 124), some (pvI n2), some (pvI 0), some (pvI 4)]) (d1 := d) (rest := []) rfl rfl rfl rfl rfl (fun _ => rfl) (Nat.zero_le _) rfl rfl rfl (sf_X10_in_124_x_x_x M hok n2 0 4 d) ?_
      by_cases c20_ : n2 < 0
      · refine pw_eqI (if_pos c20_) ?_
        have b21_ : (-2147483648) ≤ Int32.toInt n2 ∧ Int32.toInt n2 ≤ (-1) := zr_lt_l (-1) c20_ (zbnd n2) (show 0 ≤ Int32.toInt 0 ∧ Int32.toInt 0 ≤ 0 from (by decide)) (by decide)
        show PW 40 d (17, [some (pvR 124), some (pvI n1), some (pvI n2)], [pvI 0], M) _
        refine pw_if hT (c := 0 = 0) rfl rfl (fun c22_ => ?_) (fun c22_ => absurd (by decide) c22_)
        refine pw_blk hT 1 (S' := (25, [some (pvR 124), some (pvI n1), some (pvI n2)], [pvI 0], M)) rfl ⟨trivial, trivial⟩ ?_
        exact pw_ret hT rfl (r := some (pvI 0)) (M' := M) ⟨Or.inl rfl, rfl, rfl⟩ ⟨(by rw [if_neg c6_, if_neg c10_, if_pos c20_]), rfl⟩
      · refine pw_eqI (if_neg c20_) ?_
        have b23_ : 0 ≤ Int32.toInt n2 ∧ Int32.toInt n2 ≤ 2147483647 := zr_nlt_l 0 c20_ (zbnd n2) (show 0 ≤ Int32.toInt 0 ∧ Int32.toInt 0 ≤ 0 from (by decide)) (by decide)
        by_cases c24_ : 4 < n2
        · refine pw_eqI (if_pos c24_) ?_
          have b25_ : 5 ≤ Int32.toInt n2 ∧ Int32.toInt n2 ≤ 2147483647 := zr_lt_r 5 c24_ b23_ (show 4 ≤ Int32.toInt 4 ∧ Int32.toInt 4 ≤ 4 from (by decide)) (by decide)
          show PW 40 d (17, [some (pvR 124), some (pvI n1), some (pvI n2)], [pvI 0], M) _
          refine pw_if hT (c := 0 = 0) rfl rfl (fun c26_ => ?_) (fun c26_ => absurd (by decide) c26_)
          refine pw_blk hT 1 (S' := (25, [some (pvR 124), some (pvI n1), some (pvI n2)], [pvI 0], M)) rfl ⟨trivial, trivial⟩ ?_
          exact pw_ret hT rfl (r := some (pvI 0)) (M' := M) ⟨Or.inl rfl, rfl, rfl⟩ ⟨(by rw [if_neg c6_, if_neg c10_, if_neg c20_, if_pos c24_]), rfl⟩
        · refine pw_eqI (if_neg c24_) ?_
          have b27_ : 0 ≤ Int32.toInt n2 ∧ Int32.toInt n2 ≤ 4 := zr_nlt_r 4 c24_ b23_ (show 4 ≤ Int32.toInt 4 ∧ Int32.toInt 4 ≤ 4 from (by decide)) (by decide)
          show PW 40 d (17, [some (pvR 124), some (pvI n1), some (pvI n2)], [pvI 1], M) _
          refine pw_if hT (c := 1 = 0) rfl rfl (fun c28_ => absurd c28_ (by decide)) (fun c28_ => ?_)
          refine pw_blk hT 2 (S' := (25, [some (pvR 124), some (pvI n1), some (pvI n2)], [pvI 1], M)) rfl ⟨trivial, trivial, trivial⟩ ?_
          exact pw_ret hT rfl (r := some (pvI 1)) (M' := M) ⟨Or.inr rfl, rfl, rfl⟩ ⟨(by rw [if_neg c6_, if_neg c10_, if_neg c20_, if_neg c24_]), rfl⟩
set_option maxHeartbeats 4000000 in
set_option maxRecDepth 10000 in
theorem sf_X10_isTape_124_x (M : pvM) (hok : pvOk M) (n1 : Int32) (d : Nat) : PW 41 d (0, [some (pvR 124), some (pvI n1)], [], M) (fun r X => r = some (pvI ((if n1 < 0 then 0 else (if 5 < n1 then 0 else 1)))) ∧ X = M) := by
  have hT : pvdom 41 = pvD_41 := rfl
  refine pw_blk hT 4 (S' := (4, [some (pvR 124), some (pvI n1)], [pvI 5, pvI 0, pvI n1, pvR 124], M)) rfl ⟨trivial, trivial, trivial, trivial, trivial⟩ ?_
  refine pw_callT hT (as := [pvR 124, pvI n1, pvI 0, pvI 5]) (lo1 := [some (pvR 124), some (pvI n1), some (pvI 0), some (pvI 5)]) (d1 := d) (rest := []) rfl rfl rfl rfl rfl (fun _ => rfl) (Nat.zero_le _) rfl rfl rfl (sf_X10_in_124_x_x_x M hok n1 0 5 d) ?_
  by_cases c6_ : n1 < 0
  · refine pw_eqI (if_pos c6_) ?_
    have b7_ : (-2147483648) ≤ Int32.toInt n1 ∧ Int32.toInt n1 ≤ (-1) := zr_lt_l (-1) c6_ (zbnd n1) (show 0 ≤ Int32.toInt 0 ∧ Int32.toInt 0 ≤ 0 from (by decide)) (by decide)
    show PW 41 d (7, [some (pvR 124), some (pvI n1)], [pvI 0], M) _
    exact pw_ret hT rfl (r := some (pvI 0)) (M' := M) ⟨Or.inl rfl, rfl, rfl⟩ ⟨(by rw [if_pos c6_]), rfl⟩
  · refine pw_eqI (if_neg c6_) ?_
    have b8_ : 0 ≤ Int32.toInt n1 ∧ Int32.toInt n1 ≤ 2147483647 := zr_nlt_l 0 c6_ (zbnd n1) (show 0 ≤ Int32.toInt 0 ∧ Int32.toInt 0 ≤ 0 from (by decide)) (by decide)
    by_cases c9_ : 5 < n1
    · refine pw_eqI (if_pos c9_) ?_
      have b10_ : 6 ≤ Int32.toInt n1 ∧ Int32.toInt n1 ≤ 2147483647 := zr_lt_r 6 c9_ b8_ (show 5 ≤ Int32.toInt 5 ∧ Int32.toInt 5 ≤ 5 from (by decide)) (by decide)
      show PW 41 d (7, [some (pvR 124), some (pvI n1)], [pvI 0], M) _
      exact pw_ret hT rfl (r := some (pvI 0)) (M' := M) ⟨Or.inl rfl, rfl, rfl⟩ ⟨(by rw [if_neg c6_, if_pos c9_]), rfl⟩
    · refine pw_eqI (if_neg c9_) ?_
      have b11_ : 0 ≤ Int32.toInt n1 ∧ Int32.toInt n1 ≤ 5 := zr_nlt_r 5 c9_ b8_ (show 5 ≤ Int32.toInt 5 ∧ Int32.toInt 5 ≤ 5 from (by decide)) (by decide)
      show PW 41 d (7, [some (pvR 124), some (pvI n1)], [pvI 1], M) _
      exact pw_ret hT rfl (r := some (pvI 1)) (M' := M) ⟨Or.inr rfl, rfl, rfl⟩ ⟨(by rw [if_neg c6_, if_neg c9_]), rfl⟩
set_option maxHeartbeats 4000000 in
set_option maxRecDepth 10000 in
theorem sf_X10_narrow_124_x_x (M : pvM) (hok : pvOk M) (n1 : Int32) (n2 : Int64) (d : Nat) : PW 56 d (0, [some (pvR 124), some (pvI n1), some (pvJ n2), none], [], M) (fun r X => (∃ x : Int64, r = some (pvJ x)) ∧ X = M) := by
  have hT : pvdom 56 = pvD_56 := rfl
  refine pw_blk hT 1 (S' := (1, [some (pvR 124), some (pvI n1), some (pvJ n2), none], [pvI n1], M)) rfl ⟨trivial, trivial⟩ ?_
  refine pw_ifn hT (c := n1 = 0) rfl rfl (fun c1_ => ?_) (fun c1_ => ?_)
  · refine pw_blk hT 2 (S' := (13, [some (pvR 124), some (pvI n1), some (pvJ n2), none], [pvI 1, pvI n1], M)) rfl ⟨trivial, trivial, trivial⟩ ?_
    refine pw_icn hT (c := n1 = 1) rfl rfl (fun c2_ => ?_) (fun c2_ => ?_)
    · refine pw_blk hT 2 (S' := (25, [some (pvR 124), some (pvI n1), some (pvJ n2), none], [pvI 2, pvI n1], M)) rfl ⟨trivial, trivial, trivial⟩ ?_
      refine pw_icn hT (c := n1 = 2) rfl rfl (fun c3_ => ?_) (fun c3_ => ?_)
      · refine pw_blk hT 2 (S' := (36, [some (pvR 124), some (pvI n1), some (pvJ n2), none], [pvI 4, pvI n1], M)) rfl ⟨trivial, trivial, trivial⟩ ?_
        refine pw_icn hT (c := n1 = 4) rfl rfl (fun c4_ => ?_) (fun c4_ => ?_)
        · refine pw_blk hT 1 (S' := (54, [some (pvR 124), some (pvI n1), some (pvJ n2), none], [pvJ n2], M)) rfl ⟨trivial, trivial⟩ ?_
          exact pw_ret hT rfl (r := some (pvJ n2)) (M' := M) ⟨rfl, rfl⟩ ⟨⟨_, rfl⟩, rfl⟩
        · have b5_ : 4 ≤ Int32.toInt n1 ∧ Int32.toInt n1 ≤ 4 := (by have u0 := (zbnd n1); have u1 := (zi_eq _ _).mp c4_; have u2 := (show 4 ≤ Int32.toInt 4 ∧ Int32.toInt 4 ≤ 4 from (by decide)); omega)
          refine pw_blk hT 3 (S' := (42, [some (pvR 124), some (pvI n1), some (pvJ n2), none], [pvI (lg_cmp n2 0)], M)) rfl ⟨trivial, trivial, trivial, trivial⟩ ?_
          refine pw_if hT (c := (lg_cmp n2 0) = 0) rfl rfl (fun c6_ => ?_) (fun c6_ => ?_)
          · have b7_ : 0 ≤ Int32.toInt (lg_cmp n2 0) ∧ Int32.toInt (lg_cmp n2 0) ≤ 0 := (by have u0 := (zbnd (lg_cmp n2 0)); have u1 := (zi_eq _ _).mp c6_; have u2 := (show 0 ≤ Int32.toInt 0 ∧ Int32.toInt 0 ≤ 0 from (by decide)); omega)
            refine pw_blk hT 2 (S' := (54, [some (pvR 124), some (pvI n1), some (pvJ n2), none], [pvJ 0], M)) rfl ⟨trivial, trivial, trivial⟩ ?_
            exact pw_ret hT rfl (r := some (pvJ 0)) (M' := M) ⟨rfl, rfl⟩ ⟨⟨_, rfl⟩, rfl⟩
          · refine pw_blk hT 2 (S' := (54, [some (pvR 124), some (pvI n1), some (pvJ n2), none], [pvJ 1], M)) rfl ⟨trivial, trivial, trivial⟩ ?_
            exact pw_ret hT rfl (r := some (pvJ 1)) (M' := M) ⟨rfl, rfl⟩ ⟨⟨_, rfl⟩, rfl⟩
      · have b8_ : 2 ≤ Int32.toInt n1 ∧ Int32.toInt n1 ≤ 2 := (by have u0 := (zbnd n1); have u1 := (zi_eq _ _).mp c3_; have u2 := (show 2 ≤ Int32.toInt 2 ∧ Int32.toInt 2 ≤ 2 from (by decide)); omega)
        refine pw_blk hT 4 (S' := (54, [some (pvR 124), some (pvI n1), some (pvJ n2), none], [pvJ (Int32.toInt64 (Int64.toInt32 n2))], M)) rfl ⟨trivial, trivial, trivial, trivial, trivial⟩ ?_
        exact pw_ret hT rfl (r := some (pvJ (Int32.toInt64 (Int64.toInt32 n2)))) (M' := M) ⟨rfl, rfl⟩ ⟨⟨_, rfl⟩, rfl⟩
    · have b9_ : 1 ≤ Int32.toInt n1 ∧ Int32.toInt n1 ≤ 1 := (by have u0 := (zbnd n1); have u1 := (zi_eq _ _).mp c2_; have u2 := (show 1 ≤ Int32.toInt 1 ∧ Int32.toInt 1 ≤ 1 from (by decide)); omega)
      refine pw_blk hT 5 (S' := (54, [some (pvR 124), some (pvI n1), some (pvJ n2), none], [pvJ (Int32.toInt64 (Int16.toInt32 (Int32.toInt16 (Int64.toInt32 n2))))], M)) rfl ⟨trivial, trivial, trivial, trivial, trivial, trivial⟩ ?_
      exact pw_ret hT rfl (r := some (pvJ (Int32.toInt64 (Int16.toInt32 (Int32.toInt16 (Int64.toInt32 n2)))))) (M' := M) ⟨rfl, rfl⟩ ⟨⟨_, rfl⟩, rfl⟩
  · have b10_ : 0 ≤ Int32.toInt n1 ∧ Int32.toInt n1 ≤ 0 := (by have u0 := (zbnd n1); have u1 := (zi_eq _ _).mp c1_; have u2 := (show 0 ≤ Int32.toInt 0 ∧ Int32.toInt 0 ≤ 0 from (by decide)); omega)
    refine pw_blk hT 5 (S' := (54, [some (pvR 124), some (pvI n1), some (pvJ n2), none], [pvJ (Int32.toInt64 (Int8.toInt32 (Int32.toInt8 (Int64.toInt32 n2))))], M)) rfl ⟨trivial, trivial, trivial, trivial, trivial, trivial⟩ ?_
    exact pw_ret hT rfl (r := some (pvJ (Int32.toInt64 (Int8.toInt32 (Int32.toInt8 (Int64.toInt32 n2)))))) (M' := M) ⟨rfl, rfl⟩ ⟨⟨_, rfl⟩, rfl⟩
def fpL_X10_item_124_x_x_x : List (Nat × Nat × Nat) := []
def fp_X10_item_124_x_x_x (q k : Nat) : Bool := pvfp fpL_X10_item_124_x_x_x q k
set_option maxHeartbeats 4000000 in
set_option maxRecDepth 10000 in
theorem sf_X10_item_124_x_x_x (M : pvM) (hok : pvOk M) (n1 : Int32) (n2 : Int32) (n3 : Int64) (d : Nat) : PW 43 d (0, [some (pvR 124), some (pvI n1), some (pvI n2), some (pvJ n3), none], [], M) (fun r X => (∃ x : Int32, r = some (pvI x) ∧ (-13) ≤ Int32.toInt x ∧ Int32.toInt x ≤ 1) ∧ pvOk X ∧ pvFr fp_X10_item_124_x_x_x M X) := by
  have hT : pvdom 43 = pvD_43 := rfl
  refine pw_blk hT 2 (S' := (2, [some (pvR 124), some (pvI n1), some (pvI n2), some (pvJ n3), none], [pvI n1, pvR 124], M)) rfl ⟨trivial, trivial, trivial⟩ ?_
  refine pw_callT hT (as := [pvR 124, pvI n1]) (lo1 := [some (pvR 124), some (pvI n1)]) (d1 := d) (rest := []) rfl rfl rfl rfl rfl (fun _ => rfl) (Nat.zero_le _) rfl rfl rfl (sf_X10_isTape_124_x M hok n1 d) ?_
  by_cases c6_ : n1 < 0
  · refine pw_eqI (if_pos c6_) ?_
    have b7_ : (-2147483648) ≤ Int32.toInt n1 ∧ Int32.toInt n1 ≤ (-1) := zr_lt_l (-1) c6_ (zbnd n1) (show 0 ≤ Int32.toInt 0 ∧ Int32.toInt 0 ≤ 0 from (by decide)) (by decide)
    show PW 43 d (5, [some (pvR 124), some (pvI n1), some (pvI n2), some (pvJ n3), none], [pvI 0], M) _
    refine pw_ifn hT (c := 0 = 0) rfl rfl (fun c8_ => absurd (by decide) c8_) (fun c8_ => ?_)
    refine pw_blk hT 1 (S' := (9, [some (pvR 124), some (pvI n1), some (pvI n2), some (pvJ n3), none], [pvI (-1)], M)) rfl ⟨trivial, trivial⟩ ?_
    exact pw_ret hT rfl (r := some (pvI (-1))) (M' := M) ⟨rfl, rfl⟩ ⟨⟨_, rfl, (zr_wide (show (-1) ≤ Int32.toInt (-1) ∧ Int32.toInt (-1) ≤ (-1) from (by decide)) (by decide) (by decide))⟩, hok, pvfr_0⟩
  · refine pw_eqI (if_neg c6_) ?_
    have b9_ : 0 ≤ Int32.toInt n1 ∧ Int32.toInt n1 ≤ 2147483647 := zr_nlt_l 0 c6_ (zbnd n1) (show 0 ≤ Int32.toInt 0 ∧ Int32.toInt 0 ≤ 0 from (by decide)) (by decide)
    by_cases c10_ : 5 < n1
    · refine pw_eqI (if_pos c10_) ?_
      have b11_ : 6 ≤ Int32.toInt n1 ∧ Int32.toInt n1 ≤ 2147483647 := zr_lt_r 6 c10_ b9_ (show 5 ≤ Int32.toInt 5 ∧ Int32.toInt 5 ≤ 5 from (by decide)) (by decide)
      show PW 43 d (5, [some (pvR 124), some (pvI n1), some (pvI n2), some (pvJ n3), none], [pvI 0], M) _
      refine pw_ifn hT (c := 0 = 0) rfl rfl (fun c12_ => absurd (by decide) c12_) (fun c12_ => ?_)
      refine pw_blk hT 1 (S' := (9, [some (pvR 124), some (pvI n1), some (pvI n2), some (pvJ n3), none], [pvI (-1)], M)) rfl ⟨trivial, trivial⟩ ?_
      exact pw_ret hT rfl (r := some (pvI (-1))) (M' := M) ⟨rfl, rfl⟩ ⟨⟨_, rfl, (zr_wide (show (-1) ≤ Int32.toInt (-1) ∧ Int32.toInt (-1) ≤ (-1) from (by decide)) (by decide) (by decide))⟩, hok, pvfr_0⟩
    · refine pw_eqI (if_neg c10_) ?_
      have b13_ : 0 ≤ Int32.toInt n1 ∧ Int32.toInt n1 ≤ 5 := zr_nlt_r 5 c10_ b9_ (show 5 ≤ Int32.toInt 5 ∧ Int32.toInt 5 ≤ 5 from (by decide)) (by decide)
      show PW 43 d (5, [some (pvR 124), some (pvI n1), some (pvI n2), some (pvJ n3), none], [pvI 1], M) _
      refine pw_ifn hT (c := 1 = 0) rfl rfl (fun c14_ => ?_) (fun c14_ => absurd c14_ (by decide))
      have b15_ : (-1) ≤ Int32.toInt (M.1 164 (Int32.toNatClampNeg n1)) ∧ Int32.toInt (M.1 164 (Int32.toNatClampNeg n1)) ≤ 4 := pvok_r hok 164 (Int32.toNatClampNeg n1) rfl
      refine pw_blk hT 4 (S' := (16, [some (pvR 124), some (pvI n1), some (pvI n2), some (pvJ n3), none], [pvI (M.1 164 (Int32.toNatClampNeg n1))], M)) rfl ⟨trivial, rfl, trivial, ⟨rfl, (zr_in (n := 6) b13_ (by decide) (by decide))⟩, trivial⟩ ?_
      refine pw_if hT (c := 0 ≤ (M.1 164 (Int32.toNatClampNeg n1))) rfl rfl (fun c16_ => ?_) (fun c16_ => ?_)
      · have b17_ : 0 ≤ Int32.toInt (M.1 164 (Int32.toNatClampNeg n1)) ∧ Int32.toInt (M.1 164 (Int32.toNatClampNeg n1)) ≤ 4 := zr_le_r 0 c16_ b15_ (show 0 ≤ Int32.toInt 0 ∧ Int32.toInt 0 ≤ 0 from (by decide)) (by decide)
        have b18_ : 0 ≤ Int32.toInt (M.1 165 (Int32.toNatClampNeg n1)) ∧ Int32.toInt (M.1 165 (Int32.toNatClampNeg n1)) ≤ 60 := pvok_r hok 165 (Int32.toNatClampNeg n1) rfl
        obtain ⟨q20_, b19_⟩ : (Int32.toInt ((M.1 165 (Int32.toNatClampNeg n1)) - 1) = Int32.toInt (M.1 165 (Int32.toNatClampNeg n1)) - 1) ∧ ((-1) ≤ Int32.toInt ((M.1 165 (Int32.toNatClampNeg n1)) - 1) ∧ Int32.toInt ((M.1 165 (Int32.toNatClampNeg n1)) - 1) ≤ 59) := zsub_k (M.1 165 (Int32.toNatClampNeg n1)) 1 1 (-1) 59 b18_ (by decide) (by decide) (by decide) (by decide) (by decide)
        refine pw_blk hT 9 (S' := (33, [some (pvR 124), some (pvI n1), some (pvI n2), some (pvJ n3), none], [pvI ((M.1 165 (Int32.toNatClampNeg n1)) - 1), pvI 0, pvI n2, pvR 124], M)) rfl ⟨trivial, trivial, trivial, trivial, rfl, trivial, ⟨rfl, (zr_in (n := 6) b13_ (by decide) (by decide))⟩, trivial, trivial, trivial⟩ ?_
        refine pw_callT hT (as := [pvR 124, pvI n2, pvI 0, pvI ((M.1 165 (Int32.toNatClampNeg n1)) - 1)]) (lo1 := [some (pvR 124), some (pvI n2), some (pvI 0), some (pvI ((M.1 165 (Int32.toNatClampNeg n1)) - 1))]) (d1 := d) (rest := []) rfl rfl rfl rfl rfl (fun _ => rfl) (Nat.zero_le _) rfl rfl rfl (sf_X10_in_124_x_x_x M hok n2 0 ((M.1 165 (Int32.toNatClampNeg n1)) - 1) d) ?_
        by_cases c26_ : n2 < 0
        · refine pw_eqI (if_pos c26_) ?_
          have b27_ : (-2147483648) ≤ Int32.toInt n2 ∧ Int32.toInt n2 ≤ (-1) := zr_lt_l (-1) c26_ (zbnd n2) (show 0 ≤ Int32.toInt 0 ∧ Int32.toInt 0 ≤ 0 from (by decide)) (by decide)
          show PW 43 d (36, [some (pvR 124), some (pvI n1), some (pvI n2), some (pvJ n3), none], [pvI 0], M) _
          refine pw_ifn hT (c := 0 = 0) rfl rfl (fun c28_ => absurd (by decide) c28_) (fun c28_ => ?_)
          refine pw_blk hT 1 (S' := (41, [some (pvR 124), some (pvI n1), some (pvI n2), some (pvJ n3), none], [pvI (-13)], M)) rfl ⟨trivial, trivial⟩ ?_
          exact pw_ret hT rfl (r := some (pvI (-13))) (M' := M) ⟨rfl, rfl⟩ ⟨⟨_, rfl, (zr_wide (show (-13) ≤ Int32.toInt (-13) ∧ Int32.toInt (-13) ≤ (-13) from (by decide)) (by decide) (by decide))⟩, hok, pvfr_0⟩
        · refine pw_eqI (if_neg c26_) ?_
          have b29_ : 0 ≤ Int32.toInt n2 ∧ Int32.toInt n2 ≤ 2147483647 := zr_nlt_l 0 c26_ (zbnd n2) (show 0 ≤ Int32.toInt 0 ∧ Int32.toInt 0 ≤ 0 from (by decide)) (by decide)
          by_cases c30_ : ((M.1 165 (Int32.toNatClampNeg n1)) - 1) < n2
          · refine pw_eqI (if_pos c30_) ?_
            have d31_ : Int32.toInt ((M.1 165 (Int32.toNatClampNeg n1)) - 1) < Int32.toInt n2 := (zi_lt _ _).mp c30_
            show PW 43 d (36, [some (pvR 124), some (pvI n1), some (pvI n2), some (pvJ n3), none], [pvI 0], M) _
            refine pw_ifn hT (c := 0 = 0) rfl rfl (fun c32_ => absurd (by decide) c32_) (fun c32_ => ?_)
            refine pw_blk hT 1 (S' := (41, [some (pvR 124), some (pvI n1), some (pvI n2), some (pvJ n3), none], [pvI (-13)], M)) rfl ⟨trivial, trivial⟩ ?_
            exact pw_ret hT rfl (r := some (pvI (-13))) (M' := M) ⟨rfl, rfl⟩ ⟨⟨_, rfl, (zr_wide (show (-13) ≤ Int32.toInt (-13) ∧ Int32.toInt (-13) ≤ (-13) from (by decide)) (by decide) (by decide))⟩, hok, pvfr_0⟩
          · refine pw_eqI (if_neg c30_) ?_
            have b33_ : 0 ≤ Int32.toInt ((M.1 165 (Int32.toNatClampNeg n1)) - 1) ∧ Int32.toInt ((M.1 165 (Int32.toNatClampNeg n1)) - 1) ≤ 59 := zr_nlt_l 0 c30_ b19_ b29_ (by decide)
            have b34_ : 0 ≤ Int32.toInt n2 ∧ Int32.toInt n2 ≤ 59 := zr_nlt_r 59 c30_ b29_ b33_ (by decide)
            have d35_ : Int32.toInt ((M.1 165 (Int32.toNatClampNeg n1)) - 1) ≥ Int32.toInt n2 := Int.not_lt.mp ((not_congr (zi_lt _ _)).mp c30_)
            show PW 43 d (36, [some (pvR 124), some (pvI n1), some (pvI n2), some (pvJ n3), none], [pvI 1], M) _
            refine pw_ifn hT (c := 1 = 0) rfl rfl (fun c36_ => ?_) (fun c36_ => absurd c36_ (by decide))
            have q37_ : Int32.toInt (60 * n1) = 60 * Int32.toInt n1 := by have u0 : Int32.toInt 60 = 60 := (by decide); have u1 := b13_; have u2 := zmul 60 n1 (by rw [u0]; omega) (by rw [u0]; omega); rw [u0] at u2; omega
            have b38_ : 0 ≤ Int32.toInt (60 * n1) ∧ Int32.toInt (60 * n1) ≤ 300 := (by have u1 := b13_; omega)
            obtain ⟨q40_, b39_⟩ : (Int32.toInt ((60 * n1) + n2) = Int32.toInt (60 * n1) + Int32.toInt n2) ∧ (0 ≤ Int32.toInt ((60 * n1) + n2) ∧ Int32.toInt ((60 * n1) + n2) ≤ 359) := zadd_r (60 * n1) n2 0 359 b38_ b34_ (by decide) (by decide) (by decide) (by decide)
            refine pw_blk hT 13 (S' := (60, [some (pvR 124), some (pvI n1), some (pvI n2), some (pvJ n3), none], [pvJ n3, pvI (M.1 164 (Int32.toNatClampNeg n1)), pvR 124, pvI ((60 * n1) + n2), pvR 166], M)) rfl ⟨trivial, rfl, trivial, trivial, trivial, trivial, trivial, trivial, trivial, rfl, trivial, ⟨rfl, (zr_in (n := 6) b13_ (by decide) (by decide))⟩, trivial, trivial⟩ ?_
            refine pw_callJp hT (as := [pvR 124, pvI (M.1 164 (Int32.toNatClampNeg n1)), pvJ n3]) (lo1 := [some (pvR 124), some (pvI (M.1 164 (Int32.toNatClampNeg n1))), some (pvJ n3), none]) (d1 := d) (rest := [pvI ((60 * n1) + n2), pvR 166]) rfl rfl rfl rfl rfl (fun _ => rfl) (Nat.zero_le _) rfl rfl rfl (sf_X10_narrow_124_x_x M hok (M.1 164 (Int32.toNatClampNeg n1)) n3 d) (fun x41_ b43_ => ?_)
            refine pw_blkw hT 1 (pc := 64) (lo := [some (pvR 124), some (pvI n1), some (pvI n2), some (pvJ n3), none]) (st := []) (M := pvw M 166 (Int32.toNatClampNeg ((60 * n1) + n2)) x41_) rfl ⟨⟨rfl, (zr_in (n := 360) b39_ (by decide) (by decide))⟩, trivial⟩ (fun M46_ e47_ => ?_)
            have o48_ : pvOk M46_ := pvok_w e47_ hok
            have f49_ : pvFr fp_X10_item_124_x_x_x M M46_ := pvfr_w e47_ pvfr_0
            refine pw_blk hT 1 (S' := (65, [some (pvR 124), some (pvI n1), some (pvI n2), some (pvJ n3), none], [pvI 1], M46_)) rfl ⟨trivial, trivial⟩ ?_
            exact pw_ret hT rfl (r := some (pvI 1)) (M' := M46_) ⟨rfl, rfl⟩ ⟨⟨_, rfl, (zr_wide (show 1 ≤ Int32.toInt 1 ∧ Int32.toInt 1 ≤ 1 from (by decide)) (by decide) (by decide))⟩, o48_, f49_⟩
      · have b50_ : (-1) ≤ Int32.toInt (M.1 164 (Int32.toNatClampNeg n1)) ∧ Int32.toInt (M.1 164 (Int32.toNatClampNeg n1)) ≤ (-1) := zr_nle_r (-1) c16_ b15_ (show 0 ≤ Int32.toInt 0 ∧ Int32.toInt 0 ≤ 0 from (by decide)) (by decide)
        refine pw_blk hT 1 (S' := (21, [some (pvR 124), some (pvI n1), some (pvI n2), some (pvJ n3), none], [pvI (-11)], M)) rfl ⟨trivial, trivial⟩ ?_
        exact pw_ret hT rfl (r := some (pvI (-11))) (M' := M) ⟨rfl, rfl⟩ ⟨⟨_, rfl, (zr_wide (show (-11) ≤ Int32.toInt (-11) ∧ Int32.toInt (-11) ≤ (-11) from (by decide)) (by decide) (by decide))⟩, hok, pvfr_0⟩
set_option maxHeartbeats 4000000 in
set_option maxRecDepth 10000 in
theorem sf_X10_judge_124_x_x (M : pvM) (hok : pvOk M) (n1 : Int32) (n2 : Int32) (d : Nat) : PW 44 d (0, [some (pvR 124), some (pvI n1), some (pvI n2), none], [], M) (fun r X => (∃ x : Int32, r = some (pvI x) ∧ (-12) ≤ Int32.toInt x ∧ Int32.toInt x ≤ 106) ∧ X = M) := by
  have hT : pvdom 44 = pvD_44 := rfl
  refine pw_blk hT 2 (S' := (2, [some (pvR 124), some (pvI n1), some (pvI n2), none], [pvI n1, pvR 124], M)) rfl ⟨trivial, trivial, trivial⟩ ?_
  refine pw_callT hT (as := [pvR 124, pvI n1]) (lo1 := [some (pvR 124), some (pvI n1)]) (d1 := d) (rest := []) rfl rfl rfl rfl rfl (fun _ => rfl) (Nat.zero_le _) rfl rfl rfl (sf_X10_isTape_124_x M hok n1 d) ?_
  by_cases c6_ : n1 < 0
  · refine pw_eqI (if_pos c6_) ?_
    have b7_ : (-2147483648) ≤ Int32.toInt n1 ∧ Int32.toInt n1 ≤ (-1) := zr_lt_l (-1) c6_ (zbnd n1) (show 0 ≤ Int32.toInt 0 ∧ Int32.toInt 0 ≤ 0 from (by decide)) (by decide)
    show PW 44 d (5, [some (pvR 124), some (pvI n1), some (pvI n2), none], [pvI 0], M) _
    refine pw_ifn hT (c := 0 = 0) rfl rfl (fun c8_ => absurd (by decide) c8_) (fun c8_ => ?_)
    refine pw_blk hT 1 (S' := (9, [some (pvR 124), some (pvI n1), some (pvI n2), none], [pvI (-1)], M)) rfl ⟨trivial, trivial⟩ ?_
    exact pw_ret hT rfl (r := some (pvI (-1))) (M' := M) ⟨rfl, rfl⟩ ⟨⟨_, rfl, (zr_wide (show (-1) ≤ Int32.toInt (-1) ∧ Int32.toInt (-1) ≤ (-1) from (by decide)) (by decide) (by decide))⟩, rfl⟩
  · refine pw_eqI (if_neg c6_) ?_
    have b9_ : 0 ≤ Int32.toInt n1 ∧ Int32.toInt n1 ≤ 2147483647 := zr_nlt_l 0 c6_ (zbnd n1) (show 0 ≤ Int32.toInt 0 ∧ Int32.toInt 0 ≤ 0 from (by decide)) (by decide)
    by_cases c10_ : 5 < n1
    · refine pw_eqI (if_pos c10_) ?_
      have b11_ : 6 ≤ Int32.toInt n1 ∧ Int32.toInt n1 ≤ 2147483647 := zr_lt_r 6 c10_ b9_ (show 5 ≤ Int32.toInt 5 ∧ Int32.toInt 5 ≤ 5 from (by decide)) (by decide)
      show PW 44 d (5, [some (pvR 124), some (pvI n1), some (pvI n2), none], [pvI 0], M) _
      refine pw_ifn hT (c := 0 = 0) rfl rfl (fun c12_ => absurd (by decide) c12_) (fun c12_ => ?_)
      refine pw_blk hT 1 (S' := (9, [some (pvR 124), some (pvI n1), some (pvI n2), none], [pvI (-1)], M)) rfl ⟨trivial, trivial⟩ ?_
      exact pw_ret hT rfl (r := some (pvI (-1))) (M' := M) ⟨rfl, rfl⟩ ⟨⟨_, rfl, (zr_wide (show (-1) ≤ Int32.toInt (-1) ∧ Int32.toInt (-1) ≤ (-1) from (by decide)) (by decide) (by decide))⟩, rfl⟩
    · refine pw_eqI (if_neg c10_) ?_
      have b13_ : 0 ≤ Int32.toInt n1 ∧ Int32.toInt n1 ≤ 5 := zr_nlt_r 5 c10_ b9_ (show 5 ≤ Int32.toInt 5 ∧ Int32.toInt 5 ≤ 5 from (by decide)) (by decide)
      show PW 44 d (5, [some (pvR 124), some (pvI n1), some (pvI n2), none], [pvI 1], M) _
      refine pw_ifn hT (c := 1 = 0) rfl rfl (fun c14_ => ?_) (fun c14_ => absurd c14_ (by decide))
      have b15_ : (-1) ≤ Int32.toInt (M.1 164 (Int32.toNatClampNeg n1)) ∧ Int32.toInt (M.1 164 (Int32.toNatClampNeg n1)) ≤ 4 := pvok_r hok 164 (Int32.toNatClampNeg n1) rfl
      refine pw_blk hT 4 (S' := (16, [some (pvR 124), some (pvI n1), some (pvI n2), none], [pvI (M.1 164 (Int32.toNatClampNeg n1))], M)) rfl ⟨trivial, rfl, trivial, ⟨rfl, (zr_in (n := 6) b13_ (by decide) (by decide))⟩, trivial⟩ ?_
      refine pw_if hT (c := (M.1 164 (Int32.toNatClampNeg n1)) < 0) rfl rfl (fun c16_ => ?_) (fun c16_ => ?_)
      · have b17_ : (-1) ≤ Int32.toInt (M.1 164 (Int32.toNatClampNeg n1)) ∧ Int32.toInt (M.1 164 (Int32.toNatClampNeg n1)) ≤ (-1) := zr_lt_l (-1) c16_ b15_ (show 0 ≤ Int32.toInt 0 ∧ Int32.toInt 0 ≤ 0 from (by decide)) (by decide)
        refine pw_blk hT 2 (S' := (34, [some (pvR 124), some (pvI n1), some (pvI n2), some (pvI 0)], [], M)) rfl ⟨trivial, trivial, trivial⟩ ?_
        have hlz28_ : ∀ (nz28_ : Nat) (i3z28_ : Int32), (0 ≤ Int32.toInt i3z28_ ∧ Int32.toInt i3z28_ ≤ 0) → (zhide (0 < nz28_)) → PW 44 d (34, [some (pvR 124), some (pvI n1), some (pvI n2), some (pvI i3z28_)], [], M) (fun r X => (∃ x : Int32, r = some (pvI x) ∧ (-12) ≤ Int32.toInt x ∧ Int32.toInt x ≤ 106) ∧ X = M) := by
          intro nz28_
          induction nz28_ with
          | zero => intro i3z28_ h3z28_ hmz28_; exact absurd (zshow hmz28_) (Nat.not_lt_zero _)
          | succ nz28_ ihz28_ =>
            intro i3z28_ h3z28_ hmz28_
            have b29_ : 0 ≤ Int32.toInt (M.1 124 0) ∧ Int32.toInt (M.1 124 0) ≤ 7 := pvok_r hok 124 0 rfl
            refine pw_blk hT 3 (S' := (39, [some (pvR 124), some (pvI n1), some (pvI n2), some (pvI i3z28_)], [pvI (M.1 124 0), pvI i3z28_], M)) rfl ⟨trivial, trivial, rfl, trivial⟩ ?_
            refine pw_ic hT (c := (M.1 124 0) ≤ i3z28_) rfl rfl (fun c30_ => ?_) (fun c30_ => ?_)
            · have b31_ : 0 ≤ Int32.toInt (M.1 124 0) ∧ Int32.toInt (M.1 124 0) ≤ 0 := zr_le_l 0 c30_ b29_ h3z28_ (by decide)
              have d32_ : Int32.toInt (M.1 124 0) ≤ Int32.toInt i3z28_ := (zi_le _ _).mp c30_
              refine pw_blk hT 1 (S' := (115, [some (pvR 124), some (pvI n1), some (pvI n2), some (pvI i3z28_)], [pvI (-5)], M)) rfl ⟨trivial, trivial⟩ ?_
              exact pw_ret hT rfl (r := some (pvI (-5))) (M' := M) ⟨rfl, rfl⟩ ⟨⟨_, rfl, (zr_wide (show (-5) ≤ Int32.toInt (-5) ∧ Int32.toInt (-5) ≤ (-5) from (by decide)) (by decide) (by decide))⟩, rfl⟩
            · have b33_ : 1 ≤ Int32.toInt (M.1 124 0) ∧ Int32.toInt (M.1 124 0) ≤ 7 := zr_nle_l 1 c30_ b29_ h3z28_ (by decide)
              have d34_ : Int32.toInt (M.1 124 0) > Int32.toInt i3z28_ := Int.not_le.mp ((not_congr (zi_le _ _)).mp c30_)
              refine pw_blk hT 4 (S' := (48, [some (pvR 124), some (pvI n1), some (pvI n2), some (pvI i3z28_)], [pvI (M.1 164 (Int32.toNatClampNeg n1))], M)) rfl ⟨trivial, rfl, trivial, ⟨rfl, (zr_in (n := 6) b13_ (by decide) (by decide))⟩, trivial⟩ ?_
              refine pw_if hT (c := (M.1 164 (Int32.toNatClampNeg n1)) < 0) rfl rfl (fun c35_ => ?_) (fun c35_ => absurd c16_ c35_)
              obtain ⟨q37_, b36_⟩ : (Int32.toInt (100 + i3z28_) = 100 + Int32.toInt i3z28_) ∧ (100 ≤ Int32.toInt (100 + i3z28_) ∧ Int32.toInt (100 + i3z28_) ≤ 100) := zadd_q 100 i3z28_ 100 100 100 h3z28_ (by decide) (by decide) (by decide) (by decide) (by decide)
              refine pw_blk hT 3 (S' := (73, [some (pvR 124), some (pvI n1), some (pvI n2), some (pvI i3z28_)], [pvI (100 + i3z28_)], M)) rfl ⟨trivial, trivial, trivial, trivial⟩ ?_
              exact pw_ret hT rfl (r := some (pvI (100 + i3z28_))) (M' := M) ⟨rfl, rfl⟩ ⟨⟨_, rfl, (zr_wide b36_ (by decide) (by decide))⟩, rfl⟩
        exact hlz28_ _ 0 (show 0 ≤ Int32.toInt 0 ∧ Int32.toInt 0 ≤ 0 from (by decide)) (zhid (Nat.lt_succ_self _))
      · have b38_ : 0 ≤ Int32.toInt (M.1 164 (Int32.toNatClampNeg n1)) ∧ Int32.toInt (M.1 164 (Int32.toNatClampNeg n1)) ≤ 4 := zr_nlt_l 0 c16_ b15_ (show 0 ≤ Int32.toInt 0 ∧ Int32.toInt 0 ≤ 0 from (by decide)) (by decide)
        refine pw_blk hT 5 (S' := (26, [some (pvR 124), some (pvI n1), some (pvI n2), none], [pvI 4, pvI (M.1 164 (Int32.toNatClampNeg n1))], M)) rfl ⟨trivial, rfl, trivial, ⟨rfl, (zr_in (n := 6) b13_ (by decide) (by decide))⟩, trivial, trivial⟩ ?_
        refine pw_ic hT (c := (M.1 164 (Int32.toNatClampNeg n1)) = 4) rfl rfl (fun c39_ => ?_) (fun c39_ => ?_)
        · have b40_ : 4 ≤ Int32.toInt (M.1 164 (Int32.toNatClampNeg n1)) ∧ Int32.toInt (M.1 164 (Int32.toNatClampNeg n1)) ≤ 4 := (by have u0 := b38_; have u1 := (zi_eq _ _).mp c39_; have u2 := (show 4 ≤ Int32.toInt 4 ∧ Int32.toInt 4 ≤ 4 from (by decide)); omega)
          refine pw_blk hT 2 (S' := (34, [some (pvR 124), some (pvI n1), some (pvI n2), some (pvI 0)], [], M)) rfl ⟨trivial, trivial, trivial⟩ ?_
          have hlz170_ : ∀ (nz170_ : Nat) (i3z170_ : Int32), (0 ≤ Int32.toInt i3z170_ ∧ Int32.toInt i3z170_ ≤ 7) → (zhide ((8 - Int32.toInt i3z170_).toNat < nz170_)) → PW 44 d (34, [some (pvR 124), some (pvI n1), some (pvI n2), some (pvI i3z170_)], [], M) (fun r X => (∃ x : Int32, r = some (pvI x) ∧ (-12) ≤ Int32.toInt x ∧ Int32.toInt x ≤ 106) ∧ X = M) := by
            intro nz170_
            induction nz170_ with
            | zero => intro i3z170_ h3z170_ hmz170_; exact absurd (zshow hmz170_) (Nat.not_lt_zero _)
            | succ nz170_ ihz170_ =>
              intro i3z170_ h3z170_ hmz170_
              have b171_ : 0 ≤ Int32.toInt (M.1 124 0) ∧ Int32.toInt (M.1 124 0) ≤ 7 := pvok_r hok 124 0 rfl
              refine pw_blk hT 3 (S' := (39, [some (pvR 124), some (pvI n1), some (pvI n2), some (pvI i3z170_)], [pvI (M.1 124 0), pvI i3z170_], M)) rfl ⟨trivial, trivial, rfl, trivial⟩ ?_
              refine pw_ic hT (c := (M.1 124 0) ≤ i3z170_) rfl rfl (fun c172_ => ?_) (fun c172_ => ?_)
              · have d173_ : Int32.toInt (M.1 124 0) ≤ Int32.toInt i3z170_ := (zi_le _ _).mp c172_
                refine pw_blk hT 1 (S' := (115, [some (pvR 124), some (pvI n1), some (pvI n2), some (pvI i3z170_)], [pvI (-5)], M)) rfl ⟨trivial, trivial⟩ ?_
                exact pw_ret hT rfl (r := some (pvI (-5))) (M' := M) ⟨rfl, rfl⟩ ⟨⟨_, rfl, (zr_wide (show (-5) ≤ Int32.toInt (-5) ∧ Int32.toInt (-5) ≤ (-5) from (by decide)) (by decide) (by decide))⟩, rfl⟩
              · have b174_ : 1 ≤ Int32.toInt (M.1 124 0) ∧ Int32.toInt (M.1 124 0) ≤ 7 := zr_nle_l 1 c172_ b171_ h3z170_ (by decide)
                have b175_ : 0 ≤ Int32.toInt i3z170_ ∧ Int32.toInt i3z170_ ≤ 6 := zr_nle_r 6 c172_ h3z170_ b174_ (by decide)
                have d176_ : Int32.toInt (M.1 124 0) > Int32.toInt i3z170_ := Int.not_le.mp ((not_congr (zi_le _ _)).mp c172_)
                refine pw_blk hT 4 (S' := (48, [some (pvR 124), some (pvI n1), some (pvI n2), some (pvI i3z170_)], [pvI (M.1 164 (Int32.toNatClampNeg n1))], M)) rfl ⟨trivial, rfl, trivial, ⟨rfl, (zr_in (n := 6) b13_ (by decide) (by decide))⟩, trivial⟩ ?_
                refine pw_if hT (c := (M.1 164 (Int32.toNatClampNeg n1)) < 0) rfl rfl (fun c177_ => absurd c177_ c16_) (fun c177_ => ?_)
                refine pw_blk hT 1 (S' := (52, [some (pvR 124), some (pvI n1), some (pvI n2), some (pvI i3z170_)], [pvI n2], M)) rfl ⟨trivial, trivial⟩ ?_
                refine pw_if hT (c := n2 < 0) rfl rfl (fun c178_ => ?_) (fun c178_ => ?_)
                · have b179_ : (-2147483648) ≤ Int32.toInt n2 ∧ Int32.toInt n2 ≤ (-1) := zr_lt_l (-1) c178_ (zbnd n2) (show 0 ≤ Int32.toInt 0 ∧ Int32.toInt 0 ≤ 0 from (by decide)) (by decide)
                  obtain ⟨q181_, b180_⟩ : (Int32.toInt (100 + i3z170_) = 100 + Int32.toInt i3z170_) ∧ (100 ≤ Int32.toInt (100 + i3z170_) ∧ Int32.toInt (100 + i3z170_) ≤ 106) := zadd_q 100 i3z170_ 100 100 106 b175_ (by decide) (by decide) (by decide) (by decide) (by decide)
                  refine pw_blk hT 3 (S' := (73, [some (pvR 124), some (pvI n1), some (pvI n2), some (pvI i3z170_)], [pvI (100 + i3z170_)], M)) rfl ⟨trivial, trivial, trivial, trivial⟩ ?_
                  exact pw_ret hT rfl (r := some (pvI (100 + i3z170_))) (M' := M) ⟨rfl, rfl⟩ ⟨⟨_, rfl, (zr_wide b180_ (by decide) (by decide))⟩, rfl⟩
                · have b182_ : 0 ≤ Int32.toInt n2 ∧ Int32.toInt n2 ≤ 2147483647 := zr_nlt_l 0 c178_ (zbnd n2) (show 0 ≤ Int32.toInt 0 ∧ Int32.toInt 0 ≤ 0 from (by decide)) (by decide)
                  have b183_ : 0 ≤ Int32.toInt (M.1 165 (Int32.toNatClampNeg n1)) ∧ Int32.toInt (M.1 165 (Int32.toNatClampNeg n1)) ≤ 60 := pvok_r hok 165 (Int32.toNatClampNeg n1) rfl
                  obtain ⟨q185_, b184_⟩ : (Int32.toInt ((M.1 165 (Int32.toNatClampNeg n1)) - i3z170_) = Int32.toInt (M.1 165 (Int32.toNatClampNeg n1)) - Int32.toInt i3z170_) ∧ ((-6) ≤ Int32.toInt ((M.1 165 (Int32.toNatClampNeg n1)) - i3z170_) ∧ Int32.toInt ((M.1 165 (Int32.toNatClampNeg n1)) - i3z170_) ≤ 60) := zsub_r (M.1 165 (Int32.toNatClampNeg n1)) i3z170_ (-6) 60 b183_ b175_ (by decide) (by decide) (by decide) (by decide)
                  obtain ⟨q187_, b186_⟩ : (Int32.toInt (((M.1 165 (Int32.toNatClampNeg n1)) - i3z170_) - 1) = Int32.toInt ((M.1 165 (Int32.toNatClampNeg n1)) - i3z170_) - 1) ∧ ((-7) ≤ Int32.toInt (((M.1 165 (Int32.toNatClampNeg n1)) - i3z170_) - 1) ∧ Int32.toInt (((M.1 165 (Int32.toNatClampNeg n1)) - i3z170_) - 1) ≤ 59) := zsub_k ((M.1 165 (Int32.toNatClampNeg n1)) - i3z170_) 1 1 (-7) 59 b184_ (by decide) (by decide) (by decide) (by decide) (by decide)
                  refine pw_blk hT 9 (S' := (66, [some (pvR 124), some (pvI n1), some (pvI n2), some (pvI i3z170_)], [pvI (((M.1 165 (Int32.toNatClampNeg n1)) - i3z170_) - 1), pvI n2], M)) rfl ⟨trivial, trivial, rfl, trivial, ⟨rfl, (zr_in (n := 6) b13_ (by decide) (by decide))⟩, trivial, trivial, trivial, trivial, trivial⟩ ?_
                  refine pw_ic hT (c := n2 ≤ (((M.1 165 (Int32.toNatClampNeg n1)) - i3z170_) - 1)) rfl rfl (fun c188_ => ?_) (fun c188_ => ?_)
                  · have b189_ : 0 ≤ Int32.toInt n2 ∧ Int32.toInt n2 ≤ 59 := zr_le_l 59 c188_ b182_ b186_ (by decide)
                    have b190_ : 0 ≤ Int32.toInt (((M.1 165 (Int32.toNatClampNeg n1)) - i3z170_) - 1) ∧ Int32.toInt (((M.1 165 (Int32.toNatClampNeg n1)) - i3z170_) - 1) ≤ 59 := zr_le_r 0 c188_ b186_ b189_ (by decide)
                    have d191_ : Int32.toInt n2 ≤ Int32.toInt (((M.1 165 (Int32.toNatClampNeg n1)) - i3z170_) - 1) := (zi_le _ _).mp c188_
                    have q192_ : Int32.toInt (60 * n1) = 60 * Int32.toInt n1 := by have u0 : Int32.toInt 60 = 60 := (by decide); have u1 := b13_; have u2 := zmul 60 n1 (by rw [u0]; omega) (by rw [u0]; omega); rw [u0] at u2; omega
                    have b193_ : 0 ≤ Int32.toInt (60 * n1) ∧ Int32.toInt (60 * n1) ≤ 300 := (by have u1 := b13_; omega)
                    obtain ⟨q195_, b194_⟩ : (Int32.toInt ((60 * n1) + n2) = Int32.toInt (60 * n1) + Int32.toInt n2) ∧ (0 ≤ Int32.toInt ((60 * n1) + n2) ∧ Int32.toInt ((60 * n1) + n2) ≤ 359) := zadd_r (60 * n1) n2 0 359 b193_ b189_ (by decide) (by decide) (by decide) (by decide)
                    obtain ⟨q197_, b196_⟩ : (Int32.toInt (((60 * n1) + n2) + i3z170_) = Int32.toInt ((60 * n1) + n2) + Int32.toInt i3z170_) ∧ (0 ≤ Int32.toInt (((60 * n1) + n2) + i3z170_) ∧ Int32.toInt (((60 * n1) + n2) + i3z170_) ≤ 365) := zadd_r ((60 * n1) + n2) i3z170_ 0 365 b194_ b175_ (by decide) (by decide) (by decide) (by decide)
                    have b198_ : 0 ≤ Int32.toInt (M.1 131 (Int32.toNatClampNeg i3z170_)) ∧ Int32.toInt (M.1 131 (Int32.toNatClampNeg i3z170_)) ≤ 1 := pvok_r hok 131 (Int32.toNatClampNeg i3z170_) rfl
                    refine pw_blk hT 14 (S' := (93, [some (pvR 124), some (pvI n1), some (pvI n2), some (pvI i3z170_)], [pvI (M.1 131 (Int32.toNatClampNeg i3z170_)), pvJ (M.2 166 (Int32.toNatClampNeg (((60 * n1) + n2) + i3z170_)))], M)) rfl ⟨trivial, rfl, trivial, trivial, trivial, trivial, trivial, trivial, trivial, ⟨rfl, (vp_in_iff.mpr (show 0 ≤ Int32.toInt (((60 * n1) + n2) + i3z170_) ∧ Int32.toInt (((60 * n1) + n2) + i3z170_) < ((360 : Nat) : Int) from (by have u0 := b196_; omega)))⟩, trivial, rfl, trivial, ⟨rfl, (zr_in (n := 7) b175_ (by decide) (by decide))⟩, trivial⟩ ?_
                    refine pw_if hT (c := (M.1 131 (Int32.toNatClampNeg i3z170_)) = 0) rfl rfl (fun c199_ => ?_) (fun c199_ => ?_)
                    · have b200_ : 0 ≤ Int32.toInt (M.1 131 (Int32.toNatClampNeg i3z170_)) ∧ Int32.toInt (M.1 131 (Int32.toNatClampNeg i3z170_)) ≤ 0 := (by have u0 := b198_; have u1 := (zi_eq _ _).mp c199_; have u2 := (show 0 ≤ Int32.toInt 0 ∧ Int32.toInt 0 ≤ 0 from (by decide)); omega)
                      refine pw_blk hT 2 (S' := (102, [some (pvR 124), some (pvI n1), some (pvI n2), some (pvI i3z170_)], [pvI (lg_cmp (M.2 166 (Int32.toNatClampNeg (((60 * n1) + n2) + i3z170_))) 0)], M)) rfl ⟨trivial, trivial, trivial⟩ ?_
                      refine pw_if hT (c := (lg_cmp (M.2 166 (Int32.toNatClampNeg (((60 * n1) + n2) + i3z170_))) 0) = 0) rfl rfl (fun c201_ => ?_) (fun c201_ => ?_)
                      · have b202_ : 0 ≤ Int32.toInt (lg_cmp (M.2 166 (Int32.toNatClampNeg (((60 * n1) + n2) + i3z170_))) 0) ∧ Int32.toInt (lg_cmp (M.2 166 (Int32.toNatClampNeg (((60 * n1) + n2) + i3z170_))) 0) ≤ 0 := (by have u0 := (zbnd (lg_cmp (M.2 166 (Int32.toNatClampNeg (((60 * n1) + n2) + i3z170_))) 0)); have u1 := (zi_eq _ _).mp c201_; have u2 := (show 0 ≤ Int32.toInt 0 ∧ Int32.toInt 0 ≤ 0 from (by decide)); omega)
                        obtain ⟨q204_, b203_⟩ : (Int32.toInt (i3z170_ + 1) = Int32.toInt i3z170_ + 1) ∧ (1 ≤ Int32.toInt (i3z170_ + 1) ∧ Int32.toInt (i3z170_ + 1) ≤ 7) := zadd_k i3z170_ 1 1 1 7 b175_ (by decide) (by decide) (by decide) (by decide) (by decide)
                        refine pw_blk hT 2 (S' := (34, [some (pvR 124), some (pvI n1), some (pvI n2), some (pvI (i3z170_ + 1))], [], M)) rfl ⟨trivial, trivial, trivial⟩ ?_
                        exact ihz170_ (i3z170_ + 1) (zr_wide b203_ (by decide) (by decide)) (zhid (pvms_up (zshow hmz170_) h3z170_ q204_ (by decide) (by decide)))
                      · refine pw_blk hT 1 (S' := (106, [some (pvR 124), some (pvI n1), some (pvI n2), some (pvI i3z170_)], [pvI i3z170_], M)) rfl ⟨trivial, trivial⟩ ?_
                        exact pw_ret hT rfl (r := some (pvI i3z170_)) (M' := M) ⟨rfl, rfl⟩ ⟨⟨_, rfl, (zr_wide b175_ (by decide) (by decide))⟩, rfl⟩
                    · have b205_ : 1 ≤ Int32.toInt (M.1 131 (Int32.toNatClampNeg i3z170_)) ∧ Int32.toInt (M.1 131 (Int32.toNatClampNeg i3z170_)) ≤ 1 := (by have u0 := b198_; have u1 := (not_congr (zi_eq _ _)).mp c199_; have u2 := (show 0 ≤ Int32.toInt 0 ∧ Int32.toInt 0 ≤ 0 from (by decide)); omega)
                      refine pw_blk hT 3 (S' := (102, [some (pvR 124), some (pvI n1), some (pvI n2), some (pvI i3z170_)], [pvI (lg_cmp (M.2 166 (Int32.toNatClampNeg (((60 * n1) + n2) + i3z170_))) 1)], M)) rfl ⟨trivial, trivial, trivial, trivial⟩ ?_
                      refine pw_if hT (c := (lg_cmp (M.2 166 (Int32.toNatClampNeg (((60 * n1) + n2) + i3z170_))) 1) = 0) rfl rfl (fun c206_ => ?_) (fun c206_ => ?_)
                      · have b207_ : 0 ≤ Int32.toInt (lg_cmp (M.2 166 (Int32.toNatClampNeg (((60 * n1) + n2) + i3z170_))) 1) ∧ Int32.toInt (lg_cmp (M.2 166 (Int32.toNatClampNeg (((60 * n1) + n2) + i3z170_))) 1) ≤ 0 := (by have u0 := (zbnd (lg_cmp (M.2 166 (Int32.toNatClampNeg (((60 * n1) + n2) + i3z170_))) 1)); have u1 := (zi_eq _ _).mp c206_; have u2 := (show 0 ≤ Int32.toInt 0 ∧ Int32.toInt 0 ≤ 0 from (by decide)); omega)
                        obtain ⟨q209_, b208_⟩ : (Int32.toInt (i3z170_ + 1) = Int32.toInt i3z170_ + 1) ∧ (1 ≤ Int32.toInt (i3z170_ + 1) ∧ Int32.toInt (i3z170_ + 1) ≤ 7) := zadd_k i3z170_ 1 1 1 7 b175_ (by decide) (by decide) (by decide) (by decide) (by decide)
                        refine pw_blk hT 2 (S' := (34, [some (pvR 124), some (pvI n1), some (pvI n2), some (pvI (i3z170_ + 1))], [], M)) rfl ⟨trivial, trivial, trivial⟩ ?_
                        exact ihz170_ (i3z170_ + 1) (zr_wide b208_ (by decide) (by decide)) (zhid (pvms_up (zshow hmz170_) h3z170_ q209_ (by decide) (by decide)))
                      · refine pw_blk hT 1 (S' := (106, [some (pvR 124), some (pvI n1), some (pvI n2), some (pvI i3z170_)], [pvI i3z170_], M)) rfl ⟨trivial, trivial⟩ ?_
                        exact pw_ret hT rfl (r := some (pvI i3z170_)) (M' := M) ⟨rfl, rfl⟩ ⟨⟨_, rfl, (zr_wide b175_ (by decide) (by decide))⟩, rfl⟩
                  · have d210_ : Int32.toInt n2 > Int32.toInt (((M.1 165 (Int32.toNatClampNeg n1)) - i3z170_) - 1) := Int.not_le.mp ((not_congr (zi_le _ _)).mp c188_)
                    obtain ⟨q212_, b211_⟩ : (Int32.toInt (100 + i3z170_) = 100 + Int32.toInt i3z170_) ∧ (100 ≤ Int32.toInt (100 + i3z170_) ∧ Int32.toInt (100 + i3z170_) ≤ 106) := zadd_q 100 i3z170_ 100 100 106 b175_ (by decide) (by decide) (by decide) (by decide) (by decide)
                    refine pw_blk hT 3 (S' := (73, [some (pvR 124), some (pvI n1), some (pvI n2), some (pvI i3z170_)], [pvI (100 + i3z170_)], M)) rfl ⟨trivial, trivial, trivial, trivial⟩ ?_
                    exact pw_ret hT rfl (r := some (pvI (100 + i3z170_))) (M' := M) ⟨rfl, rfl⟩ ⟨⟨_, rfl, (zr_wide b211_ (by decide) (by decide))⟩, rfl⟩
          exact hlz170_ _ 0 (zr_wide (show 0 ≤ Int32.toInt 0 ∧ Int32.toInt 0 ≤ 0 from (by decide)) (by decide) (by decide)) (zhid (Nat.lt_succ_self _))
        · have b213_ : 0 ≤ Int32.toInt (M.1 164 (Int32.toNatClampNeg n1)) ∧ Int32.toInt (M.1 164 (Int32.toNatClampNeg n1)) ≤ 3 := (by have u0 := b38_; have u1 := (not_congr (zi_eq _ _)).mp c39_; have u2 := (show 4 ≤ Int32.toInt 4 ∧ Int32.toInt 4 ≤ 4 from (by decide)); omega)
          refine pw_blk hT 1 (S' := (31, [some (pvR 124), some (pvI n1), some (pvI n2), none], [pvI (-12)], M)) rfl ⟨trivial, trivial⟩ ?_
          exact pw_ret hT rfl (r := some (pvI (-12))) (M' := M) ⟨rfl, rfl⟩ ⟨⟨_, rfl, (zr_wide (show (-12) ≤ Int32.toInt (-12) ∧ Int32.toInt (-12) ≤ (-12) from (by decide)) (by decide) (by decide))⟩, rfl⟩
def fpL_X10_late_124_x : List (Nat × Nat × Nat) := [(0, 124, 33), (0, 124, 36), (0, 141, 0), (0, 142, 0), (0, 143, 0), (0, 144, 0)]
def fp_X10_late_124_x (q k : Nat) : Bool := pvfp fpL_X10_late_124_x q k
theorem fp_X10_late_124_x_fp_X10_costOfPath_124_x (a b : Nat) (h : fp_X10_costOfPath_124_x a b = true) : fp_X10_late_124_x a b = true := pvfp_sub (l1 := fpL_X10_costOfPath_124_x) (l2 := fpL_X10_late_124_x) (by decide) a b h
theorem fp_X10_late_124_x_fp_X10_layRain_124 (a b : Nat) (h : fp_X10_layRain_124 a b = true) : fp_X10_late_124_x a b = true := pvfp_sub (l1 := fpL_X10_layRain_124) (l2 := fpL_X10_late_124_x) (by decide) a b h
theorem fp_X10_late_124_x_fp_X10_layRound_124 (a b : Nat) (h : fp_X10_layRound_124 a b = true) : fp_X10_late_124_x a b = true := pvfp_sub (l1 := fpL_X10_layRound_124) (l2 := fpL_X10_late_124_x) (by decide) a b h
set_option maxHeartbeats 4000000 in
set_option maxRecDepth 10000 in
theorem sf_X10_late_124_x (M : pvM) (hok : pvOk M) (n1 : Int32) (hz : pvWF M) (d : Nat) : PW 47 d (0, [some (pvR 124), some (pvI n1), none], [], M) (fun r X => (∃ x : Int32, r = some (pvI x) ∧ (-5) ≤ Int32.toInt x ∧ Int32.toInt x ≤ 60) ∧ pvOk X ∧ pvFr fp_X10_late_124_x M X) := by
  have hT : pvdom 47 = pvD_47 := rfl
  refine pw_blk hT 2 (S' := (2, [some (pvR 124), some (pvI n1), none], [pvI n1, pvR 124], M)) rfl ⟨trivial, trivial, trivial⟩ ?_
  refine pw_callT hT (as := [pvR 124, pvI n1]) (lo1 := [some (pvR 124), some (pvI n1)]) (d1 := d) (rest := []) rfl rfl rfl rfl rfl (fun _ => rfl) (Nat.zero_le _) rfl rfl rfl (sf_X10_isLimit_124_x M hok n1 d) ?_
  by_cases c6_ : n1 < 0
  · refine pw_eqI (if_pos c6_) ?_
    have b7_ : (-2147483648) ≤ Int32.toInt n1 ∧ Int32.toInt n1 ≤ (-1) := zr_lt_l (-1) c6_ (zbnd n1) (show 0 ≤ Int32.toInt 0 ∧ Int32.toInt 0 ≤ 0 from (by decide)) (by decide)
    show PW 47 d (5, [some (pvR 124), some (pvI n1), none], [pvI 0], M) _
    refine pw_ifn hT (c := 0 = 0) rfl rfl (fun c8_ => absurd (by decide) c8_) (fun c8_ => ?_)
    refine pw_blk hT 1 (S' := (10, [some (pvR 124), some (pvI n1), none], [pvI (-2)], M)) rfl ⟨trivial, trivial⟩ ?_
    exact pw_ret hT rfl (r := some (pvI (-2))) (M' := M) ⟨rfl, rfl⟩ ⟨⟨_, rfl, (zr_wide (show (-2) ≤ Int32.toInt (-2) ∧ Int32.toInt (-2) ≤ (-2) from (by decide)) (by decide) (by decide))⟩, hok, pvfr_0⟩
  · refine pw_eqI (if_neg c6_) ?_
    have b9_ : 0 ≤ Int32.toInt n1 ∧ Int32.toInt n1 ≤ 2147483647 := zr_nlt_l 0 c6_ (zbnd n1) (show 0 ≤ Int32.toInt 0 ∧ Int32.toInt 0 ≤ 0 from (by decide)) (by decide)
    by_cases c10_ : 99999 < n1
    · refine pw_eqI (if_pos c10_) ?_
      have b11_ : 100000 ≤ Int32.toInt n1 ∧ Int32.toInt n1 ≤ 2147483647 := zr_lt_r 100000 c10_ b9_ (show 99999 ≤ Int32.toInt 99999 ∧ Int32.toInt 99999 ≤ 99999 from (by decide)) (by decide)
      show PW 47 d (5, [some (pvR 124), some (pvI n1), none], [pvI 0], M) _
      refine pw_ifn hT (c := 0 = 0) rfl rfl (fun c12_ => absurd (by decide) c12_) (fun c12_ => ?_)
      refine pw_blk hT 1 (S' := (10, [some (pvR 124), some (pvI n1), none], [pvI (-2)], M)) rfl ⟨trivial, trivial⟩ ?_
      exact pw_ret hT rfl (r := some (pvI (-2))) (M' := M) ⟨rfl, rfl⟩ ⟨⟨_, rfl, (zr_wide (show (-2) ≤ Int32.toInt (-2) ∧ Int32.toInt (-2) ≤ (-2) from (by decide)) (by decide) (by decide))⟩, hok, pvfr_0⟩
    · refine pw_eqI (if_neg c10_) ?_
      have b13_ : 0 ≤ Int32.toInt n1 ∧ Int32.toInt n1 ≤ 99999 := zr_nlt_r 99999 c10_ b9_ (show 99999 ≤ Int32.toInt 99999 ∧ Int32.toInt 99999 ≤ 99999 from (by decide)) (by decide)
      show PW 47 d (5, [some (pvR 124), some (pvI n1), none], [pvI 1], M) _
      refine pw_ifn hT (c := 1 = 0) rfl rfl (fun c14_ => ?_) (fun c14_ => absurd c14_ (by decide))
      refine pw_blk hT 1 (S' := (12, [some (pvR 124), some (pvI n1), none], [pvR 124], M)) rfl ⟨trivial, trivial⟩ ?_
      refine pw_callV hT (as := [pvR 124]) (lo1 := [some (pvR 124), none, none]) (d1 := d) (rest := []) rfl rfl rfl rfl rfl (fun _ => rfl) (Nat.zero_le _) rfl rfl rfl (sf_X10_layRain_124 M hok hz d) (fun M16_ o18_ g19_ => ?_)
      have f20_ : pvFr fp_X10_late_124_x M M16_ := pvfr_t g19_ pvfr_0 fp_X10_late_124_x_fp_X10_layRain_124
      refine pw_blk hT 1 (S' := (16, [some (pvR 124), some (pvI n1), none], [pvR 124], M16_)) rfl ⟨trivial, trivial⟩ ?_
      refine pw_callV hT (as := [pvR 124]) (lo1 := [some (pvR 124), none]) (d1 := d) (rest := []) rfl rfl rfl rfl rfl (fun _ => rfl) (Nat.zero_le _) rfl rfl rfl (sf_X10_layRound_124 M16_ o18_ d) (fun M22_ o24_ g25_ => ?_)
      have f26_ : pvFr fp_X10_late_124_x M M22_ := pvfr_t g25_ f20_ fp_X10_late_124_x_fp_X10_layRound_124
      refine pw_blk hT 2 (S' := (22, [some (pvR 124), some (pvI n1), some (pvI 60)], [], M22_)) rfl ⟨trivial, trivial, trivial⟩ ?_
      have hlz93_ : ∀ (nz93_ : Nat) (i2z93_ : Int32) (Mz93_ : pvM), (pvOk Mz93_) → (pvFr fp_X10_late_124_x M Mz93_) → ((-1) ≤ Int32.toInt i2z93_ ∧ Int32.toInt i2z93_ ≤ 60) → (zhide ((Int32.toInt i2z93_ + 2).toNat < nz93_)) → PW 47 d (22, [some (pvR 124), some (pvI n1), some (pvI i2z93_)], [], Mz93_) (fun r X => (∃ x : Int32, r = some (pvI x) ∧ (-5) ≤ Int32.toInt x ∧ Int32.toInt x ≤ 60) ∧ pvOk X ∧ pvFr fp_X10_late_124_x M X) := by
        intro nz93_
        induction nz93_ with
        | zero => intro i2z93_ Mz93_ oz93_ fz93_ h2z93_ hmz93_; exact absurd (zshow hmz93_) (Nat.not_lt_zero _)
        | succ nz93_ ihz93_ =>
          intro i2z93_ Mz93_ oz93_ fz93_ h2z93_ hmz93_
          refine pw_blk hT 1 (S' := (23, [some (pvR 124), some (pvI n1), some (pvI i2z93_)], [pvI i2z93_], Mz93_)) rfl ⟨trivial, trivial⟩ ?_
          refine pw_if hT (c := i2z93_ < 0) rfl rfl (fun c94_ => ?_) (fun c94_ => ?_)
          · have b95_ : (-1) ≤ Int32.toInt i2z93_ ∧ Int32.toInt i2z93_ ≤ (-1) := zr_lt_l (-1) c94_ h2z93_ (show 0 ≤ Int32.toInt 0 ∧ Int32.toInt 0 ≤ 0 from (by decide)) (by decide)
            refine pw_blk hT 1 (S' := (45, [some (pvR 124), some (pvI n1), some (pvI i2z93_)], [pvI (-5)], Mz93_)) rfl ⟨trivial, trivial⟩ ?_
            exact pw_ret hT rfl (r := some (pvI (-5))) (M' := Mz93_) ⟨rfl, rfl⟩ ⟨⟨_, rfl, (zr_wide (show (-5) ≤ Int32.toInt (-5) ∧ Int32.toInt (-5) ≤ (-5) from (by decide)) (by decide) (by decide))⟩, oz93_, fz93_⟩
          · have b96_ : 0 ≤ Int32.toInt i2z93_ ∧ Int32.toInt i2z93_ ≤ 60 := zr_nlt_l 0 c94_ h2z93_ (show 0 ≤ Int32.toInt 0 ∧ Int32.toInt 0 ≤ 0 from (by decide)) (by decide)
            refine pw_blk hT 2 (S' := (28, [some (pvR 124), some (pvI n1), some (pvI i2z93_)], [pvI i2z93_, pvR 124], Mz93_)) rfl ⟨trivial, trivial, trivial⟩ ?_
            refine pw_callG hT (as := [pvR 124, pvI i2z93_]) (lo1 := [some (pvR 124), some (pvI i2z93_), none]) (d1 := d) (rest := []) rfl rfl rfl rfl rfl (fun _ => rfl) (Nat.zero_le _) rfl rfl rfl (sf_X10_costOfPath_124_x Mz93_ oz93_ i2z93_ b96_ d) (fun x97_ M98_ b99_ o100_ g101_ => ?_)
            have f102_ : pvFr fp_X10_late_124_x M M98_ := pvfr_t g101_ fz93_ fp_X10_late_124_x_fp_X10_costOfPath_124_x
            refine pw_blk hT 1 (S' := (32, [some (pvR 124), some (pvI n1), some (pvI i2z93_)], [pvI n1, pvI x97_], M98_)) rfl ⟨trivial, trivial⟩ ?_
            refine pw_ic hT (c := n1 < x97_) rfl rfl (fun c103_ => ?_) (fun c103_ => ?_)
            · have b104_ : 1 ≤ Int32.toInt x97_ ∧ Int32.toInt x97_ ≤ 9000000 := zr_lt_r 1 c103_ b99_ b13_ (by decide)
              have d105_ : Int32.toInt n1 < Int32.toInt x97_ := (zi_lt _ _).mp c103_
              obtain ⟨q107_, b106_⟩ : (Int32.toInt (i2z93_ + (-1)) = Int32.toInt i2z93_ + (-1)) ∧ ((-1) ≤ Int32.toInt (i2z93_ + (-1)) ∧ Int32.toInt (i2z93_ + (-1)) ≤ 59) := zadd_k i2z93_ (-1) (-1) (-1) 59 b96_ (by decide) (by decide) (by decide) (by decide) (by decide)
              refine pw_blk hT 2 (S' := (22, [some (pvR 124), some (pvI n1), some (pvI (i2z93_ + (-1)))], [], M98_)) rfl ⟨trivial, trivial, trivial⟩ ?_
              exact ihz93_ (i2z93_ + (-1)) M98_ o100_ f102_ (zr_wide b106_ (by decide) (by decide)) (zhid (pvms_dn (zshow hmz93_) h2z93_ q107_ (by decide) (by decide)))
            · have b108_ : 0 ≤ Int32.toInt x97_ ∧ Int32.toInt x97_ ≤ 99999 := zr_nlt_r 99999 c103_ b99_ b13_ (by decide)
              have d109_ : Int32.toInt n1 ≥ Int32.toInt x97_ := Int.not_lt.mp ((not_congr (zi_lt _ _)).mp c103_)
              refine pw_blk hT 1 (S' := (36, [some (pvR 124), some (pvI n1), some (pvI i2z93_)], [pvI i2z93_], M98_)) rfl ⟨trivial, trivial⟩ ?_
              exact pw_ret hT rfl (r := some (pvI i2z93_)) (M' := M98_) ⟨rfl, rfl⟩ ⟨⟨_, rfl, (zr_wide b96_ (by decide) (by decide))⟩, o100_, f102_⟩
      exact hlz93_ _ 60 M22_ o24_ f26_ (zr_wide (show 60 ≤ Int32.toInt 60 ∧ Int32.toInt 60 ≤ 60 from (by decide)) (by decide) (by decide)) (zhid (Nat.lt_succ_self _))
