def fpL_X10_house_124 : List (Nat × Nat × Nat) := [(0, 124, 15), (0, 124, 16), (0, 124, 17), (0, 124, 18), (0, 124, 19), (0, 124, 28), (0, 124, 29), (0, 124, 30), (0, 133, 0), (0, 134, 0), (0, 135, 0), (0, 136, 0), (0, 137, 0), (0, 138, 0), (0, 139, 0)]
def fp_X10_house_124 (q k : Nat) : Bool := pvfp fpL_X10_house_124 q k
theorem fp_X10_house_124_fp_X10_goesText_124_x (a b : Nat) (h : fp_X10_goesText_124_x a b = true) : fp_X10_house_124 a b = true := pvfp_sub (l1 := fpL_X10_goesText_124_x) (l2 := fpL_X10_house_124) (by decide) a b h
set_option maxHeartbeats 4000000 in
set_option maxRecDepth 10000 in
theorem sf_X10_house_124 (M : pvM) (hok : pvOk M) (d : Nat) : PW 34 d (0, [some (pvR 124), none], [], M) (fun r X => (∃ x : Int32, r = some (pvI x) ∧ (-110) ≤ Int32.toInt x ∧ Int32.toInt x ≤ 5) ∧ pvOk X ∧ pvFr fp_X10_house_124 M X ∧ (pvWF M → pvWF X)) := by
  have hT : pvdom 34 = pvD_34 := rfl
  have b1_ : 0 ≤ Int32.toInt (M.1 124 14) ∧ Int32.toInt (M.1 124 14) ≤ 6 := pvok_r hok 124 14 rfl
  refine pw_blk hT 3 (S' := (6, [some (pvR 124), none], [pvI 6, pvI (M.1 124 14)], M)) rfl ⟨trivial, rfl, trivial, trivial⟩ ?_
  refine pw_icn hT (c := (M.1 124 14) = 6) rfl rfl (fun c2_ => ?_) (fun c2_ => ?_)
  · have b3_ : 0 ≤ Int32.toInt (M.1 124 14) ∧ Int32.toInt (M.1 124 14) ≤ 5 := (by have u0 := b1_; have u1 := (not_congr (zi_eq _ _)).mp c2_; have u2 := (show 6 ≤ Int32.toInt 6 ∧ Int32.toInt 6 ≤ 6 from (by decide)); omega)
    refine pw_blk hT 3 (S' := (17, [some (pvR 124), none], [pvI (M.1 124 14), pvR 124], M)) rfl ⟨trivial, trivial, rfl, trivial⟩ ?_
    refine pw_callGd hT (as := [pvR 124, pvI (M.1 124 14)]) (lo1 := [some (pvR 124), some (pvI (M.1 124 14)), none]) (d1 := d) (rest := []) rfl rfl rfl rfl rfl (fun _ => rfl) (Nat.zero_le _) rfl rfl rfl (sf_X10_goesText_124_x M hok (M.1 124 14) b3_ d) (fun x5_ M6_ b7_ o8_ g9_ d4_ => ?_)
    have f10_ : pvFr fp_X10_house_124 M M6_ := pvfr_t g9_ pvfr_0 fp_X10_house_124_fp_X10_goesText_124_x
    refine pw_blkw hT 4 (pc := 26) (lo := [some (pvR 124), some (pvI x5_)]) (st := []) (M := pvu M6_ 124 16 0) rfl ⟨trivial, trivial, trivial, rfl, trivial⟩ (fun M11_ e12_ => ?_)
    have o13_ : pvOk M11_ := pvok_u2 e12_ o8_ rfl (zr_wide (show 0 ≤ Int32.toInt 0 ∧ Int32.toInt 0 ≤ 0 from (by decide)) (by decide) (by decide))
    have f14_ : pvFr fp_X10_house_124 M M11_ := pvfr_u e12_ f10_ rfl
    refine pw_blk hT 1 (S' := (27, [some (pvR 124), some (pvI x5_)], [pvI x5_], M11_)) rfl ⟨trivial, trivial⟩ ?_
    refine pw_ifn hT (c := x5_ = 0) rfl rfl (fun c15_ => ?_) (fun c15_ => ?_)
    · have b16_ : 1 ≤ Int32.toInt x5_ ∧ Int32.toInt x5_ ≤ 1 := (by have u0 := b7_; have u1 := (not_congr (zi_eq _ _)).mp c15_; have u2 := (show 0 ≤ Int32.toInt 0 ∧ Int32.toInt 0 ≤ 0 from (by decide)); omega)
      have e17_ : (M11_.1 124 14) = (M.1 124 14) := ((pvu_n e12_ 124 14 (Or.inr (by decide))).trans (g9_ 124 14 rfl))
      have b18_ : 0 ≤ Int32.toInt (M11_.1 124 14) ∧ Int32.toInt (M11_.1 124 14) ≤ 5 := (by rw [e17_]; exact b3_)
      refine pw_blkw hT 4 (pc := 46) (lo := [some (pvR 124), some (pvI x5_)]) (st := []) (M := pvu M11_ 124 15 (M11_.1 124 14)) rfl ⟨trivial, trivial, rfl, rfl, trivial⟩ (fun M19_ e20_ => ?_)
      have o21_ : pvOk M19_ := pvok_u2 e20_ o13_ rfl (zr_wide b18_ (by decide) (by decide))
      have f22_ : pvFr fp_X10_house_124 M M19_ := pvfr_u e20_ f14_ rfl
      have e23_ : (M19_.1 124 14) = (M11_.1 124 14) := (pvu_n e20_ 124 14 (Or.inr (by decide)))
      have b24_ : 0 ≤ Int32.toInt (M19_.1 124 14) ∧ Int32.toInt (M19_.1 124 14) ≤ 5 := (by rw [e23_]; exact b18_)
      obtain ⟨q26_, b25_⟩ : (Int32.toInt ((M19_.1 124 14) + 1) = Int32.toInt (M19_.1 124 14) + 1) ∧ (1 ≤ Int32.toInt ((M19_.1 124 14) + 1) ∧ Int32.toInt ((M19_.1 124 14) + 1) ≤ 6) := zadd_k (M19_.1 124 14) 1 1 1 6 b24_ (by decide) (by decide) (by decide) (by decide) (by decide)
      refine pw_blkw hT 6 (pc := 56) (lo := [some (pvR 124), some (pvI x5_)]) (st := []) (M := pvu M19_ 124 14 ((M19_.1 124 14) + 1)) rfl ⟨trivial, trivial, rfl, trivial, trivial, rfl, trivial⟩ (fun M27_ e28_ => ?_)
      have o29_ : pvOk M27_ := pvok_u2 e28_ o21_ rfl (zr_wide b25_ (by decide) (by decide))
      have f30_ : pvFr fp_X10_house_124 M M27_ := pvfr_u e28_ f22_ rfl
      have e31_ : (M27_.1 124 15) = (M11_.1 124 14) := ((pvu_n e28_ 124 15 (Or.inr (by decide))).trans (pvu_s e20_))
      have b32_ : 0 ≤ Int32.toInt (M27_.1 124 15) ∧ Int32.toInt (M27_.1 124 15) ≤ 5 := (by rw [e31_]; exact b18_)
      refine pw_blk hT 2 (S' := (60, [some (pvR 124), some (pvI x5_)], [pvI (M27_.1 124 15)], M27_)) rfl ⟨trivial, rfl, trivial⟩ ?_
      exact pw_ret hT rfl (r := some (pvI (M27_.1 124 15))) (M' := M27_) ⟨rfl, rfl⟩ ⟨⟨_, rfl, (zr_wide b32_ (by decide) (by decide))⟩, o29_, f30_, fun hz => pvWF_h hok hz (fun a ha h10 hw => pvWh_r (((pvu_row e28_ (by decide)).trans (pvu_row e20_ (by decide))).trans (pvu_row e12_ (by decide))) (((pvu_row e28_ (by decide)).trans (pvu_row e20_ (by decide))).trans (pvu_row e12_ (by decide))) (((pvu_row e28_ (by decide)).trans (pvu_row e20_ (by decide))).trans (pvu_row e12_ (by decide))) (((pvu_row e28_ (by decide)).trans (pvu_row e20_ (by decide))).trans (pvu_row e12_ (by decide))) (((pvu_row e28_ (by decide)).trans (pvu_row e20_ (by decide))).trans (pvu_row e12_ (by decide))) (d4_.1 a ha h10 hw)) (fun a ha => by rcases Classical.em ((a : Int) < Int32.toInt (M.1 124 14)) with e | e; exact Or.inl e; refine Or.inr ?_; have e2 : a = Int32.toNatClampNeg (M.1 124 14) := (by have z := ztn (M.1 124 14) (by omega); have w0 : Int32.toInt (M27_.1 124 14) = Int32.toInt ((M19_.1 124 14) + 1) := congrArg Int32.toInt (pvu_s e28_); have w1 : Int32.toInt (M19_.1 124 14) = Int32.toInt (M11_.1 124 14) := congrArg Int32.toInt (pvu_n e20_ 124 14 (Or.inr (by decide))); have w2 : Int32.toInt (M11_.1 124 14) = Int32.toInt (M6_.1 124 14) := congrArg Int32.toInt (pvu_n e12_ 124 14 (Or.inr (by decide))); have w3 : Int32.toInt (M6_.1 124 14) = Int32.toInt (M.1 124 14) := congrArg Int32.toInt (g9_ 124 14 rfl); omega); rw [e2]; exact pvWh_r (((pvu_row e28_ (by decide)).trans (pvu_row e20_ (by decide))).trans (pvu_row e12_ (by decide))) (((pvu_row e28_ (by decide)).trans (pvu_row e20_ (by decide))).trans (pvu_row e12_ (by decide))) (((pvu_row e28_ (by decide)).trans (pvu_row e20_ (by decide))).trans (pvu_row e12_ (by decide))) (((pvu_row e28_ (by decide)).trans (pvu_row e20_ (by decide))).trans (pvu_row e12_ (by decide))) (((pvu_row e28_ (by decide)).trans (pvu_row e20_ (by decide))).trans (pvu_row e12_ (by decide))) (d4_.2.2 (pvyes (by omega)))) (by have z3 := hz.1; have w0 : Int32.toInt (M27_.1 124 14) = Int32.toInt ((M19_.1 124 14) + 1) := congrArg Int32.toInt (pvu_s e28_); have w1 : Int32.toInt (M19_.1 124 14) = Int32.toInt (M11_.1 124 14) := congrArg Int32.toInt (pvu_n e20_ 124 14 (Or.inr (by decide))); have w2 : Int32.toInt (M11_.1 124 14) = Int32.toInt (M6_.1 124 14) := congrArg Int32.toInt (pvu_n e12_ 124 14 (Or.inr (by decide))); have w3 : Int32.toInt (M6_.1 124 14) = Int32.toInt (M.1 124 14) := congrArg Int32.toInt (g9_ 124 14 rfl); have v0 : Int32.toInt (M27_.1 124 15) = Int32.toInt (M19_.1 124 15) := congrArg Int32.toInt (pvu_n e28_ 124 15 (Or.inr (by decide))); have v1 : Int32.toInt (M19_.1 124 15) = Int32.toInt (M11_.1 124 14) := congrArg Int32.toInt (pvu_s e20_); have v2 : Int32.toInt (M11_.1 124 15) = Int32.toInt (M6_.1 124 15) := congrArg Int32.toInt (pvu_n e12_ 124 15 (Or.inr (by decide))); have v3 : Int32.toInt (M6_.1 124 15) = Int32.toInt (M.1 124 15) := congrArg Int32.toInt (g9_ 124 15 rfl); omega) (by have z3 := hz.2.1; have w0 : Int32.toInt (M27_.1 124 14) = Int32.toInt ((M19_.1 124 14) + 1) := congrArg Int32.toInt (pvu_s e28_); have w1 : Int32.toInt (M19_.1 124 14) = Int32.toInt (M11_.1 124 14) := congrArg Int32.toInt (pvu_n e20_ 124 14 (Or.inr (by decide))); have w2 : Int32.toInt (M11_.1 124 14) = Int32.toInt (M6_.1 124 14) := congrArg Int32.toInt (pvu_n e12_ 124 14 (Or.inr (by decide))); have w3 : Int32.toInt (M6_.1 124 14) = Int32.toInt (M.1 124 14) := congrArg Int32.toInt (g9_ 124 14 rfl); have v0 : Int32.toInt (M27_.1 124 47) = Int32.toInt (M19_.1 124 47) := congrArg Int32.toInt (pvu_n e28_ 124 47 (Or.inr (by decide))); have v1 : Int32.toInt (M19_.1 124 47) = Int32.toInt (M11_.1 124 47) := congrArg Int32.toInt (pvu_n e20_ 124 47 (Or.inr (by decide))); have v2 : Int32.toInt (M11_.1 124 47) = Int32.toInt (M6_.1 124 47) := congrArg Int32.toInt (pvu_n e12_ 124 47 (Or.inr (by decide))); have v3 : Int32.toInt (M6_.1 124 47) = Int32.toInt (M.1 124 47) := congrArg Int32.toInt (g9_ 124 47 rfl); omega)⟩
    · have b33_ : 0 ≤ Int32.toInt x5_ ∧ Int32.toInt x5_ ≤ 0 := (by have u0 := b7_; have u1 := (zi_eq _ _).mp c15_; have u2 := (show 0 ≤ Int32.toInt 0 ∧ Int32.toInt 0 ≤ 0 from (by decide)); omega)
      have b34_ : 0 ≤ Int32.toInt (M11_.1 124 17) ∧ Int32.toInt (M11_.1 124 17) ≤ 100 := pvok_r o13_ 124 17 rfl
      obtain ⟨q36_, b35_⟩ : (Int32.toInt ((-10) - (M11_.1 124 17)) = (-10) - Int32.toInt (M11_.1 124 17)) ∧ ((-110) ≤ Int32.toInt ((-10) - (M11_.1 124 17)) ∧ Int32.toInt ((-10) - (M11_.1 124 17)) ≤ (-10)) := zsub_q (-10) (M11_.1 124 17) (-10) (-110) (-10) b34_ (by decide) (by decide) (by decide) (by decide) (by decide)
      refine pw_blk hT 4 (S' := (37, [some (pvR 124), some (pvI x5_)], [pvI ((-10) - (M11_.1 124 17))], M11_)) rfl ⟨trivial, trivial, rfl, trivial, trivial⟩ ?_
      exact pw_ret hT rfl (r := some (pvI ((-10) - (M11_.1 124 17)))) (M' := M11_) ⟨rfl, rfl⟩ ⟨⟨_, rfl, (zr_wide b35_ (by decide) (by decide))⟩, o13_, f14_, fun hz => pvWF_h hok hz (fun a ha h10 hw => pvWh_r (pvu_row e12_ (by decide)) (pvu_row e12_ (by decide)) (pvu_row e12_ (by decide)) (pvu_row e12_ (by decide)) (pvu_row e12_ (by decide)) (d4_.1 a ha h10 hw)) (fun a ha => Or.inl (by have w0 : Int32.toInt (M11_.1 124 14) = Int32.toInt (M6_.1 124 14) := congrArg Int32.toInt (pvu_n e12_ 124 14 (Or.inr (by decide))); have w1 : Int32.toInt (M6_.1 124 14) = Int32.toInt (M.1 124 14) := congrArg Int32.toInt (g9_ 124 14 rfl); omega)) (by have z3 := hz.1; have w0 : Int32.toInt (M11_.1 124 14) = Int32.toInt (M6_.1 124 14) := congrArg Int32.toInt (pvu_n e12_ 124 14 (Or.inr (by decide))); have w1 : Int32.toInt (M6_.1 124 14) = Int32.toInt (M.1 124 14) := congrArg Int32.toInt (g9_ 124 14 rfl); have v0 : Int32.toInt (M11_.1 124 15) = Int32.toInt (M6_.1 124 15) := congrArg Int32.toInt (pvu_n e12_ 124 15 (Or.inr (by decide))); have v1 : Int32.toInt (M6_.1 124 15) = Int32.toInt (M.1 124 15) := congrArg Int32.toInt (g9_ 124 15 rfl); omega) (by have z3 := hz.2.1; have w0 : Int32.toInt (M11_.1 124 14) = Int32.toInt (M6_.1 124 14) := congrArg Int32.toInt (pvu_n e12_ 124 14 (Or.inr (by decide))); have w1 : Int32.toInt (M6_.1 124 14) = Int32.toInt (M.1 124 14) := congrArg Int32.toInt (g9_ 124 14 rfl); have v0 : Int32.toInt (M11_.1 124 47) = Int32.toInt (M6_.1 124 47) := congrArg Int32.toInt (pvu_n e12_ 124 47 (Or.inr (by decide))); have v1 : Int32.toInt (M6_.1 124 47) = Int32.toInt (M.1 124 47) := congrArg Int32.toInt (g9_ 124 47 rfl); omega)⟩
  · have b37_ : 6 ≤ Int32.toInt (M.1 124 14) ∧ Int32.toInt (M.1 124 14) ≤ 6 := (by have u0 := b1_; have u1 := (zi_eq _ _).mp c2_; have u2 := (show 6 ≤ Int32.toInt 6 ∧ Int32.toInt 6 ≤ 6 from (by decide)); omega)
    refine pw_blk hT 1 (S' := (11, [some (pvR 124), none], [pvI (-4)], M)) rfl ⟨trivial, trivial⟩ ?_
    exact pw_ret hT rfl (r := some (pvI (-4))) (M' := M) ⟨rfl, rfl⟩ ⟨⟨_, rfl, (zr_wide (show (-4) ≤ Int32.toInt (-4) ∧ Int32.toInt (-4) ≤ (-4) from (by decide)) (by decide) (by decide))⟩, hok, pvfr_0, fun hz => hz⟩
def fpL_X10_image_124 : List (Nat × Nat × Nat) := [(0, 124, 47), (0, 124, 48), (0, 124, 49), (0, 124, 50), (0, 124, 51), (0, 124, 52), (0, 124, 53), (0, 124, 54), (0, 124, 55), (0, 124, 56), (0, 124, 57), (0, 124, 58), (0, 151, 0), (0, 152, 0), (0, 153, 0), (0, 154, 0), (0, 155, 0), (0, 156, 0), (0, 157, 0), (0, 158, 0), (0, 159, 0), (0, 160, 0), (0, 161, 0), (0, 162, 0)]
def fp_X10_image_124 (q k : Nat) : Bool := pvfp fpL_X10_image_124 q k
set_option maxHeartbeats 4000000 in
set_option maxRecDepth 10000 in
theorem sf_X10_image_124 (M : pvM) (hok : pvOk M) (d : Nat) : PW 35 d (0, [some (pvR 124), none], [], M) (fun r X => (∃ x : Int32, r = some (pvI x) ∧ 0 ≤ Int32.toInt x ∧ Int32.toInt x ≤ 7) ∧ pvOk X ∧ pvFr fp_X10_image_124 M X ∧ (pvWF M → pvWF X) ∧ (Int32.toInt (M.1 124 3) ≤ 99 → Int32.toInt (M.1 124 51) ≤ 99 → Int32.toInt (X.1 124 51) ≤ 99)) := by
  have hT : pvdom 35 = pvD_35 := rfl
  refine pw_blkw hT 3 (pc := 5) (lo := [some (pvR 124), none]) (st := []) (M := pvu M 124 46 1) rfl ⟨trivial, trivial, ⟨rfl, Or.inr rfl⟩, trivial⟩ (fun M1_ e2_ => ?_)
  have o3_ : pvOk M1_ := pvok_u2 e2_ hok rfl (zr_wide (show 1 ≤ Int32.toInt 1 ∧ Int32.toInt 1 ≤ 1 from (by decide)) (by decide) (by decide))
  have f4_ : pvFr fp_X10_image_124 M M1_ := pvfr_u e2_ pvfr_0 rfl
  have b5_ : (-1) ≤ Int32.toInt (M1_.1 124 15) ∧ Int32.toInt (M1_.1 124 15) ≤ 5 := pvok_r o3_ 124 15 rfl
  refine pw_blkw hT 4 (pc := 13) (lo := [some (pvR 124), none]) (st := []) (M := pvu M1_ 124 47 (M1_.1 124 15)) rfl ⟨trivial, trivial, rfl, rfl, trivial⟩ (fun M6_ e7_ => ?_)
  have o8_ : pvOk M6_ := pvok_u2 e7_ o3_ rfl b5_
  have f9_ : pvFr fp_X10_image_124 M M6_ := pvfr_u e7_ f4_ rfl
  have b10_ : 0 ≤ Int32.toInt (M6_.1 124 0) ∧ Int32.toInt (M6_.1 124 0) ≤ 7 := pvok_r o8_ 124 0 rfl
  refine pw_blkw hT 4 (pc := 21) (lo := [some (pvR 124), none]) (st := []) (M := pvu M6_ 124 48 (M6_.1 124 0)) rfl ⟨trivial, trivial, rfl, rfl, trivial⟩ (fun M11_ e12_ => ?_)
  have o13_ : pvOk M11_ := pvok_u2 e12_ o8_ rfl b10_
  have f14_ : pvFr fp_X10_image_124 M M11_ := pvfr_u e12_ f9_ rfl
  have b15_ : 0 ≤ Int32.toInt (M11_.1 124 1) ∧ Int32.toInt (M11_.1 124 1) ≤ 9999 := pvok_r o13_ 124 1 rfl
  refine pw_blkw hT 4 (pc := 29) (lo := [some (pvR 124), none]) (st := []) (M := pvu M11_ 124 49 (M11_.1 124 1)) rfl ⟨trivial, trivial, rfl, rfl, trivial⟩ (fun M16_ e17_ => ?_)
  have o18_ : pvOk M16_ := pvok_u2 e17_ o13_ rfl b15_
  have f19_ : pvFr fp_X10_image_124 M M16_ := pvfr_u e17_ f14_ rfl
  have b20_ : 0 ≤ Int32.toInt (M16_.1 124 2) ∧ Int32.toInt (M16_.1 124 2) ≤ 999999 := pvok_r o18_ 124 2 rfl
  refine pw_blkw hT 4 (pc := 37) (lo := [some (pvR 124), none]) (st := []) (M := pvu M16_ 124 50 (M16_.1 124 2)) rfl ⟨trivial, trivial, rfl, rfl, trivial⟩ (fun M21_ e22_ => ?_)
  have o23_ : pvOk M21_ := pvok_u2 e22_ o18_ rfl b20_
  have f24_ : pvFr fp_X10_image_124 M M21_ := pvfr_u e22_ f19_ rfl
  have b25_ : 0 ≤ Int32.toInt (M21_.1 124 3) ∧ Int32.toInt (M21_.1 124 3) ≤ 108 := pvok_r o23_ 124 3 rfl
  refine pw_blkw hT 4 (pc := 45) (lo := [some (pvR 124), none]) (st := []) (M := pvu M21_ 124 51 (M21_.1 124 3)) rfl ⟨trivial, trivial, rfl, rfl, trivial⟩ (fun M26_ e27_ => ?_)
  have o28_ : pvOk M26_ := pvok_u2 e27_ o23_ rfl b25_
  have f29_ : pvFr fp_X10_image_124 M M26_ := pvfr_u e27_ f24_ rfl
  have b30_ : 0 ≤ Int32.toInt (M26_.1 124 4) ∧ Int32.toInt (M26_.1 124 4) ≤ 4 := pvok_r o28_ 124 4 rfl
  refine pw_blkw hT 4 (pc := 53) (lo := [some (pvR 124), none]) (st := []) (M := pvu M26_ 124 52 (M26_.1 124 4)) rfl ⟨trivial, trivial, rfl, rfl, trivial⟩ (fun M31_ e32_ => ?_)
  have o33_ : pvOk M31_ := pvok_u2 e32_ o28_ rfl b30_
  have f34_ : pvFr fp_X10_image_124 M M31_ := pvfr_u e32_ f29_ rfl
  have b35_ : 0 ≤ Int32.toInt (M31_.1 124 5) ∧ Int32.toInt (M31_.1 124 5) ≤ 3 := pvok_r o33_ 124 5 rfl
  refine pw_blkw hT 4 (pc := 61) (lo := [some (pvR 124), none]) (st := []) (M := pvu M31_ 124 53 (M31_.1 124 5)) rfl ⟨trivial, trivial, rfl, rfl, trivial⟩ (fun M36_ e37_ => ?_)
  have o38_ : pvOk M36_ := pvok_u2 e37_ o33_ rfl b35_
  have f39_ : pvFr fp_X10_image_124 M M36_ := pvfr_u e37_ f34_ rfl
  have b40_ : 0 ≤ Int32.toInt (M36_.1 124 6) ∧ Int32.toInt (M36_.1 124 6) ≤ 4 := pvok_r o38_ 124 6 rfl
  refine pw_blkw hT 4 (pc := 69) (lo := [some (pvR 124), none]) (st := []) (M := pvu M36_ 124 54 (M36_.1 124 6)) rfl ⟨trivial, trivial, rfl, rfl, trivial⟩ (fun M41_ e42_ => ?_)
  have o43_ : pvOk M41_ := pvok_u2 e42_ o38_ rfl b40_
  have f44_ : pvFr fp_X10_image_124 M M41_ := pvfr_u e42_ f39_ rfl
  have b45_ : 0 ≤ Int32.toInt (M41_.1 124 37) ∧ Int32.toInt (M41_.1 124 37) ≤ 7 := pvok_r o43_ 124 37 rfl
  refine pw_blkw hT 4 (pc := 77) (lo := [some (pvR 124), none]) (st := []) (M := pvu M41_ 124 55 (M41_.1 124 37)) rfl ⟨trivial, trivial, rfl, rfl, trivial⟩ (fun M46_ e47_ => ?_)
  have o48_ : pvOk M46_ := pvok_u2 e47_ o43_ rfl b45_
  have f49_ : pvFr fp_X10_image_124 M M46_ := pvfr_u e47_ f44_ rfl
  have b50_ : 0 ≤ Int32.toInt (M46_.1 124 40) ∧ Int32.toInt (M46_.1 124 40) ≤ 6 := pvok_r o48_ 124 40 rfl
  refine pw_blkw hT 4 (pc := 85) (lo := [some (pvR 124), none]) (st := []) (M := pvu M46_ 124 56 (M46_.1 124 40)) rfl ⟨trivial, trivial, rfl, rfl, trivial⟩ (fun M51_ e52_ => ?_)
  have o53_ : pvOk M51_ := pvok_u2 e52_ o48_ rfl b50_
  have f54_ : pvFr fp_X10_image_124 M M51_ := pvfr_u e52_ f49_ rfl
  have b55_ : 0 ≤ Int32.toInt (M51_.1 124 43) ∧ Int32.toInt (M51_.1 124 43) ≤ 8 := pvok_r o53_ 124 43 rfl
  refine pw_blkw hT 4 (pc := 93) (lo := [some (pvR 124), none]) (st := []) (M := pvu M51_ 124 57 (M51_.1 124 43)) rfl ⟨trivial, trivial, rfl, rfl, trivial⟩ (fun M56_ e57_ => ?_)
  have o58_ : pvOk M56_ := pvok_u2 e57_ o53_ rfl b55_
  have f59_ : pvFr fp_X10_image_124 M M56_ := pvfr_u e57_ f54_ rfl
  refine pw_blk hT 2 (S' := (95, [some (pvR 124), some (pvI 0)], [], M56_)) rfl ⟨trivial, trivial, trivial⟩ ?_
  have hlz5568_ : ∀ (nz5568_ : Nat) (i1z5568_ : Int32) (Mz5568_ : pvM), (pvOk Mz5568_) → (pvFr fp_X10_image_124 M Mz5568_) → (0 ≤ Int32.toInt i1z5568_ ∧ Int32.toInt i1z5568_ ≤ 7) → (Int32.toInt (Mz5568_.1 124 47) = Int32.toInt (M.1 124 15)) → (Int32.toInt (Mz5568_.1 124 51) = Int32.toInt (M.1 124 3)) → (zhide ((8 - Int32.toInt i1z5568_).toNat < nz5568_)) → PW 35 d (95, [some (pvR 124), some (pvI i1z5568_)], [], Mz5568_) (fun r X => (∃ x : Int32, r = some (pvI x) ∧ 0 ≤ Int32.toInt x ∧ Int32.toInt x ≤ 7) ∧ pvOk X ∧ pvFr fp_X10_image_124 M X ∧ (pvWF M → pvWF X) ∧ (Int32.toInt (M.1 124 3) ≤ 99 → Int32.toInt (M.1 124 51) ≤ 99 → Int32.toInt (X.1 124 51) ≤ 99)) := by
    intro nz5568_
    induction nz5568_ with
    | zero => intro i1z5568_ Mz5568_ oz5568_ fz5568_ h1z5568_ j0z5568_ j1z5568_ hmz5568_; exact absurd (zshow hmz5568_) (Nat.not_lt_zero _)
    | succ nz5568_ ihz5568_ =>
      intro i1z5568_ Mz5568_ oz5568_ fz5568_ h1z5568_ j0z5568_ j1z5568_ hmz5568_
      have b5569_ : (-1) ≤ Int32.toInt (Mz5568_.1 124 47) ∧ Int32.toInt (Mz5568_.1 124 47) ≤ 5 := pvok_r oz5568_ 124 47 rfl
      have b5570_ : 0 ≤ Int32.toInt (Mz5568_.1 124 51) ∧ Int32.toInt (Mz5568_.1 124 51) ≤ 108 := pvok_r oz5568_ 124 51 rfl
      refine pw_blk hT 2 (S' := (98, [some (pvR 124), some (pvI i1z5568_)], [pvI 7, pvI i1z5568_], Mz5568_)) rfl ⟨trivial, trivial, trivial⟩ ?_
      refine pw_ic hT (c := 7 ≤ i1z5568_) rfl rfl (fun c5571_ => ?_) (fun c5571_ => ?_)
      · have b5572_ : 7 ≤ Int32.toInt i1z5568_ ∧ Int32.toInt i1z5568_ ≤ 7 := zr_le_r 7 c5571_ h1z5568_ (show 7 ≤ Int32.toInt 7 ∧ Int32.toInt 7 ≤ 7 from (by decide)) (by decide)
        refine pw_blk hT 2 (S' := (193, [some (pvR 124), some (pvI 0)], [], Mz5568_)) rfl ⟨trivial, trivial, trivial⟩ ?_
        have hlz6908_ : ∀ (nz6908_ : Nat) (i1z6908_ : Int32) (Mz6908_ : pvM), (pvOk Mz6908_) → (pvFr fp_X10_image_124 M Mz6908_) → (0 ≤ Int32.toInt i1z6908_ ∧ Int32.toInt i1z6908_ ≤ 28) → (Int32.toInt (Mz6908_.1 124 47) = Int32.toInt (M.1 124 15)) → (Int32.toInt (Mz6908_.1 124 51) = Int32.toInt (M.1 124 3)) → (zhide ((29 - Int32.toInt i1z6908_).toNat < nz6908_)) → PW 35 d (193, [some (pvR 124), some (pvI i1z6908_)], [], Mz6908_) (fun r X => (∃ x : Int32, r = some (pvI x) ∧ 0 ≤ Int32.toInt x ∧ Int32.toInt x ≤ 7) ∧ pvOk X ∧ pvFr fp_X10_image_124 M X ∧ (pvWF M → pvWF X) ∧ (Int32.toInt (M.1 124 3) ≤ 99 → Int32.toInt (M.1 124 51) ≤ 99 → Int32.toInt (X.1 124 51) ≤ 99)) := by
          intro nz6908_
          induction nz6908_ with
          | zero => intro i1z6908_ Mz6908_ oz6908_ fz6908_ h1z6908_ j0z6908_ j1z6908_ hmz6908_; exact absurd (zshow hmz6908_) (Nat.not_lt_zero _)
          | succ nz6908_ ihz6908_ =>
            intro i1z6908_ Mz6908_ oz6908_ fz6908_ h1z6908_ j0z6908_ j1z6908_ hmz6908_
            have b6909_ : (-1) ≤ Int32.toInt (Mz6908_.1 124 47) ∧ Int32.toInt (Mz6908_.1 124 47) ≤ 5 := pvok_r oz6908_ 124 47 rfl
            have b6910_ : 0 ≤ Int32.toInt (Mz6908_.1 124 51) ∧ Int32.toInt (Mz6908_.1 124 51) ≤ 108 := pvok_r oz6908_ 124 51 rfl
            refine pw_blk hT 2 (S' := (196, [some (pvR 124), some (pvI i1z6908_)], [pvI 28, pvI i1z6908_], Mz6908_)) rfl ⟨trivial, trivial, trivial⟩ ?_
            refine pw_ic hT (c := 28 ≤ i1z6908_) rfl rfl (fun c6911_ => ?_) (fun c6911_ => ?_)
            · have b6912_ : 28 ≤ Int32.toInt i1z6908_ ∧ Int32.toInt i1z6908_ ≤ 28 := zr_le_r 28 c6911_ h1z6908_ (show 28 ≤ Int32.toInt 28 ∧ Int32.toInt 28 ≤ 28 from (by decide)) (by decide)
              refine pw_blk hT 2 (S' := (219, [some (pvR 124), some (pvI 0)], [], Mz6908_)) rfl ⟨trivial, trivial, trivial⟩ ?_
              have hlz7236_ : ∀ (nz7236_ : Nat) (i1z7236_ : Int32) (Mz7236_ : pvM), (pvOk Mz7236_) → (pvFr fp_X10_image_124 M Mz7236_) → (0 ≤ Int32.toInt i1z7236_ ∧ Int32.toInt i1z7236_ ≤ 6) → (Int32.toInt (Mz7236_.1 124 47) = Int32.toInt (M.1 124 15)) → (Int32.toInt (Mz7236_.1 124 51) = Int32.toInt (M.1 124 3)) → (zhide ((7 - Int32.toInt i1z7236_).toNat < nz7236_)) → PW 35 d (219, [some (pvR 124), some (pvI i1z7236_)], [], Mz7236_) (fun r X => (∃ x : Int32, r = some (pvI x) ∧ 0 ≤ Int32.toInt x ∧ Int32.toInt x ≤ 7) ∧ pvOk X ∧ pvFr fp_X10_image_124 M X ∧ (pvWF M → pvWF X) ∧ (Int32.toInt (M.1 124 3) ≤ 99 → Int32.toInt (M.1 124 51) ≤ 99 → Int32.toInt (X.1 124 51) ≤ 99)) := by
                intro nz7236_
                induction nz7236_ with
                | zero => intro i1z7236_ Mz7236_ oz7236_ fz7236_ h1z7236_ j0z7236_ j1z7236_ hmz7236_; exact absurd (zshow hmz7236_) (Nat.not_lt_zero _)
                | succ nz7236_ ihz7236_ =>
                  intro i1z7236_ Mz7236_ oz7236_ fz7236_ h1z7236_ j0z7236_ j1z7236_ hmz7236_
                  have b7237_ : (-1) ≤ Int32.toInt (Mz7236_.1 124 47) ∧ Int32.toInt (Mz7236_.1 124 47) ≤ 5 := pvok_r oz7236_ 124 47 rfl
                  have b7238_ : 0 ≤ Int32.toInt (Mz7236_.1 124 51) ∧ Int32.toInt (Mz7236_.1 124 51) ≤ 108 := pvok_r oz7236_ 124 51 rfl
                  refine pw_blk hT 2 (S' := (222, [some (pvR 124), some (pvI i1z7236_)], [pvI 6, pvI i1z7236_], Mz7236_)) rfl ⟨trivial, trivial, trivial⟩ ?_
                  refine pw_ic hT (c := 6 ≤ i1z7236_) rfl rfl (fun c7239_ => ?_) (fun c7239_ => ?_)
                  · have b7240_ : 6 ≤ Int32.toInt i1z7236_ ∧ Int32.toInt i1z7236_ ≤ 6 := zr_le_r 6 c7239_ h1z7236_ (show 6 ≤ Int32.toInt 6 ∧ Int32.toInt 6 ≤ 6 from (by decide)) (by decide)
                    refine pw_blk hT 2 (S' := (257, [some (pvR 124), some (pvI 0)], [], Mz7236_)) rfl ⟨trivial, trivial, trivial⟩ ?_
                    have hlz7306_ : ∀ (nz7306_ : Nat) (i1z7306_ : Int32) (Mz7306_ : pvM), (pvOk Mz7306_) → (pvFr fp_X10_image_124 M Mz7306_) → (0 ≤ Int32.toInt i1z7306_ ∧ Int32.toInt i1z7306_ ≤ 8) → (Int32.toInt (Mz7306_.1 124 47) = Int32.toInt (M.1 124 15)) → (Int32.toInt (Mz7306_.1 124 51) = Int32.toInt (M.1 124 3)) → (zhide ((9 - Int32.toInt i1z7306_).toNat < nz7306_)) → PW 35 d (257, [some (pvR 124), some (pvI i1z7306_)], [], Mz7306_) (fun r X => (∃ x : Int32, r = some (pvI x) ∧ 0 ≤ Int32.toInt x ∧ Int32.toInt x ≤ 7) ∧ pvOk X ∧ pvFr fp_X10_image_124 M X ∧ (pvWF M → pvWF X) ∧ (Int32.toInt (M.1 124 3) ≤ 99 → Int32.toInt (M.1 124 51) ≤ 99 → Int32.toInt (X.1 124 51) ≤ 99)) := by
                      intro nz7306_
                      induction nz7306_ with
                      | zero => intro i1z7306_ Mz7306_ oz7306_ fz7306_ h1z7306_ j0z7306_ j1z7306_ hmz7306_; exact absurd (zshow hmz7306_) (Nat.not_lt_zero _)
                      | succ nz7306_ ihz7306_ =>
                        intro i1z7306_ Mz7306_ oz7306_ fz7306_ h1z7306_ j0z7306_ j1z7306_ hmz7306_
                        have b7307_ : (-1) ≤ Int32.toInt (Mz7306_.1 124 47) ∧ Int32.toInt (Mz7306_.1 124 47) ≤ 5 := pvok_r oz7306_ 124 47 rfl
                        have b7308_ : 0 ≤ Int32.toInt (Mz7306_.1 124 51) ∧ Int32.toInt (Mz7306_.1 124 51) ≤ 108 := pvok_r oz7306_ 124 51 rfl
                        refine pw_blk hT 2 (S' := (260, [some (pvR 124), some (pvI i1z7306_)], [pvI 8, pvI i1z7306_], Mz7306_)) rfl ⟨trivial, trivial, trivial⟩ ?_
                        refine pw_ic hT (c := 8 ≤ i1z7306_) rfl rfl (fun c7309_ => ?_) (fun c7309_ => ?_)
                        · have b7310_ : 8 ≤ Int32.toInt i1z7306_ ∧ Int32.toInt i1z7306_ ≤ 8 := zr_le_r 8 c7309_ h1z7306_ (show 8 ≤ Int32.toInt 8 ∧ Int32.toInt 8 ≤ 8 from (by decide)) (by decide)
                          have b7311_ : 0 ≤ Int32.toInt (Mz7306_.1 124 0) ∧ Int32.toInt (Mz7306_.1 124 0) ≤ 7 := pvok_r oz7306_ 124 0 rfl
                          refine pw_blk hT 2 (S' := (297, [some (pvR 124), some (pvI i1z7306_)], [pvI (Mz7306_.1 124 0)], Mz7306_)) rfl ⟨trivial, rfl, trivial⟩ ?_
                          exact pw_ret hT rfl (r := some (pvI (Mz7306_.1 124 0))) (M' := Mz7306_) ⟨rfl, rfl⟩ ⟨⟨_, rfl, b7311_⟩, oz7306_, fz7306_, ⟨fun hz => ⟨by have z3 := hz.1; have z4 := hz.2.1; have w0 : Int32.toInt (Mz7306_.1 124 14) = Int32.toInt (M.1 124 14) := congrArg Int32.toInt (fz7306_ 124 14 rfl); have v0 : Int32.toInt (Mz7306_.1 124 15) = Int32.toInt (M.1 124 15) := congrArg Int32.toInt (fz7306_ 124 15 rfl); omega, by have z3 := hz.1; have z4 := hz.2.1; have w0 : Int32.toInt (Mz7306_.1 124 14) = Int32.toInt (M.1 124 14) := congrArg Int32.toInt (fz7306_ 124 14 rfl); omega, fun a ha => pvWh_r (pvfr_row (L := fpL_X10_image_124) fz7306_ rfl) (pvfr_row (L := fpL_X10_image_124) fz7306_ rfl) (pvfr_row (L := fpL_X10_image_124) fz7306_ rfl) (pvfr_row (L := fpL_X10_image_124) fz7306_ rfl) (pvfr_row (L := fpL_X10_image_124) fz7306_ rfl) (hz.2.2 a (by have w0 : Int32.toInt (Mz7306_.1 124 14) = Int32.toInt (M.1 124 14) := congrArg Int32.toInt (fz7306_ 124 14 rfl); omega))⟩, fun hc hc2 => by omega⟩⟩
                        · have b7312_ : 0 ≤ Int32.toInt i1z7306_ ∧ Int32.toInt i1z7306_ ≤ 7 := zr_nle_r 7 c7309_ h1z7306_ (show 8 ≤ Int32.toInt 8 ∧ Int32.toInt 8 ≤ 8 from (by decide)) (by decide)
                          have b7313_ : 0 ≤ Int32.toInt (Mz7306_.1 149 (Int32.toNatClampNeg i1z7306_)) ∧ Int32.toInt (Mz7306_.1 149 (Int32.toNatClampNeg i1z7306_)) ≤ 6 := pvok_r oz7306_ 149 (Int32.toNatClampNeg i1z7306_) rfl
                          refine pw_blkw hT 8 (pc := 275) (lo := [some (pvR 124), some (pvI i1z7306_)]) (st := []) (M := pvu Mz7306_ 160 (Int32.toNatClampNeg i1z7306_) (Mz7306_.1 149 (Int32.toNatClampNeg i1z7306_))) rfl ⟨trivial, rfl, trivial, trivial, rfl, trivial, ⟨rfl, (zr_in (n := 8) b7312_ (by decide) (by decide))⟩, ⟨rfl, (zr_in (n := 8) b7312_ (by decide) (by decide))⟩, trivial⟩ (fun M7314_ e7315_ => ?_)
                          have o7316_ : pvOk M7314_ := pvok_u2 e7315_ oz7306_ rfl b7313_
                          have f7317_ : pvFr fp_X10_image_124 M M7314_ := pvfr_u e7315_ fz7306_ rfl
                          have b7318_ : 0 ≤ Int32.toInt (M7314_.1 150 (Int32.toNatClampNeg i1z7306_)) ∧ Int32.toInt (M7314_.1 150 (Int32.toNatClampNeg i1z7306_)) ≤ 9999 := pvok_r o7316_ 150 (Int32.toNatClampNeg i1z7306_) rfl
                          refine pw_blkw hT 8 (pc := 287) (lo := [some (pvR 124), some (pvI i1z7306_)]) (st := []) (M := pvu M7314_ 161 (Int32.toNatClampNeg i1z7306_) (M7314_.1 150 (Int32.toNatClampNeg i1z7306_))) rfl ⟨trivial, rfl, trivial, trivial, rfl, trivial, ⟨rfl, (zr_in (n := 8) b7312_ (by decide) (by decide))⟩, ⟨rfl, (zr_in (n := 8) b7312_ (by decide) (by decide))⟩, trivial⟩ (fun M7319_ e7320_ => ?_)
                          have o7321_ : pvOk M7319_ := pvok_u2 e7320_ o7316_ rfl b7318_
                          have f7322_ : pvFr fp_X10_image_124 M M7319_ := pvfr_u e7320_ f7317_ rfl
                          obtain ⟨q7324_, b7323_⟩ : (Int32.toInt (i1z7306_ + 1) = Int32.toInt i1z7306_ + 1) ∧ (1 ≤ Int32.toInt (i1z7306_ + 1) ∧ Int32.toInt (i1z7306_ + 1) ≤ 8) := zadd_k i1z7306_ 1 1 1 8 b7312_ (by decide) (by decide) (by decide) (by decide) (by decide)
                          refine pw_blk hT 2 (S' := (257, [some (pvR 124), some (pvI (i1z7306_ + 1))], [], M7319_)) rfl ⟨trivial, trivial, trivial⟩ ?_
                          have j7325_ : Int32.toInt (M7319_.1 124 47) = Int32.toInt (M.1 124 15) := (by have y01 : Int32.toInt (M7319_.1 124 47) = Int32.toInt (Mz7306_.1 124 47) := congrArg Int32.toInt ((pvu_n e7320_ 124 47 (Or.inl (by decide))).trans (pvu_n e7315_ 124 47 (Or.inl (by decide)))); omega)
                          have j7326_ : Int32.toInt (M7319_.1 124 51) = Int32.toInt (M.1 124 3) := (by have y01 : Int32.toInt (M7319_.1 124 51) = Int32.toInt (Mz7306_.1 124 51) := congrArg Int32.toInt ((pvu_n e7320_ 124 51 (Or.inl (by decide))).trans (pvu_n e7315_ 124 51 (Or.inl (by decide)))); omega)
                          exact ihz7306_ (i1z7306_ + 1) M7319_ o7321_ f7322_ (zr_wide b7323_ (by decide) (by decide)) j7325_ j7326_ (zhid (by have hm0 := zshow hmz7306_; have y01 : Int32.toInt (M7319_.1 124 47) = Int32.toInt (Mz7306_.1 124 47) := congrArg Int32.toInt ((pvu_n e7320_ 124 47 (Or.inl (by decide))).trans (pvu_n e7315_ 124 47 (Or.inl (by decide)))); have y11 : Int32.toInt (M7319_.1 124 51) = Int32.toInt (Mz7306_.1 124 51) := congrArg Int32.toInt ((pvu_n e7320_ 124 51 (Or.inl (by decide))).trans (pvu_n e7315_ 124 51 (Or.inl (by decide)))); omega))
                    have u7327_ : Int32.toInt 0 = 0 := by decide
                    have j7328_ : Int32.toInt (Mz7236_.1 124 47) = Int32.toInt (M.1 124 15) := (by omega)
                    have j7329_ : Int32.toInt (Mz7236_.1 124 51) = Int32.toInt (M.1 124 3) := (by omega)
                    exact hlz7306_ _ 0 Mz7236_ oz7236_ fz7236_ (zr_wide (show 0 ≤ Int32.toInt 0 ∧ Int32.toInt 0 ≤ 0 from (by decide)) (by decide) (by decide)) j7328_ j7329_ (zhid (Nat.lt_succ_self _))
                  · have b7330_ : 0 ≤ Int32.toInt i1z7236_ ∧ Int32.toInt i1z7236_ ≤ 5 := zr_nle_r 5 c7239_ h1z7236_ (show 6 ≤ Int32.toInt 6 ∧ Int32.toInt 6 ≤ 6 from (by decide)) (by decide)
                    have b7331_ : 0 ≤ Int32.toInt (Mz7236_.1 147 (Int32.toNatClampNeg i1z7236_)) ∧ Int32.toInt (Mz7236_.1 147 (Int32.toNatClampNeg i1z7236_)) ≤ 6 := pvok_r oz7236_ 147 (Int32.toNatClampNeg i1z7236_) rfl
                    refine pw_blkw hT 8 (pc := 237) (lo := [some (pvR 124), some (pvI i1z7236_)]) (st := []) (M := pvu Mz7236_ 158 (Int32.toNatClampNeg i1z7236_) (Mz7236_.1 147 (Int32.toNatClampNeg i1z7236_))) rfl ⟨trivial, rfl, trivial, trivial, rfl, trivial, ⟨rfl, (zr_in (n := 6) b7330_ (by decide) (by decide))⟩, ⟨rfl, (zr_in (n := 6) b7330_ (by decide) (by decide))⟩, trivial⟩ (fun M7332_ e7333_ => ?_)
                    have o7334_ : pvOk M7332_ := pvok_u2 e7333_ oz7236_ rfl b7331_
                    have f7335_ : pvFr fp_X10_image_124 M M7332_ := pvfr_u e7333_ fz7236_ rfl
                    have b7336_ : 0 ≤ Int32.toInt (M7332_.1 148 (Int32.toNatClampNeg i1z7236_)) ∧ Int32.toInt (M7332_.1 148 (Int32.toNatClampNeg i1z7236_)) ≤ 9999 := pvok_r o7334_ 148 (Int32.toNatClampNeg i1z7236_) rfl
                    refine pw_blkw hT 8 (pc := 249) (lo := [some (pvR 124), some (pvI i1z7236_)]) (st := []) (M := pvu M7332_ 159 (Int32.toNatClampNeg i1z7236_) (M7332_.1 148 (Int32.toNatClampNeg i1z7236_))) rfl ⟨trivial, rfl, trivial, trivial, rfl, trivial, ⟨rfl, (zr_in (n := 6) b7330_ (by decide) (by decide))⟩, ⟨rfl, (zr_in (n := 6) b7330_ (by decide) (by decide))⟩, trivial⟩ (fun M7337_ e7338_ => ?_)
                    have o7339_ : pvOk M7337_ := pvok_u2 e7338_ o7334_ rfl b7336_
                    have f7340_ : pvFr fp_X10_image_124 M M7337_ := pvfr_u e7338_ f7335_ rfl
                    obtain ⟨q7342_, b7341_⟩ : (Int32.toInt (i1z7236_ + 1) = Int32.toInt i1z7236_ + 1) ∧ (1 ≤ Int32.toInt (i1z7236_ + 1) ∧ Int32.toInt (i1z7236_ + 1) ≤ 6) := zadd_k i1z7236_ 1 1 1 6 b7330_ (by decide) (by decide) (by decide) (by decide) (by decide)
                    refine pw_blk hT 2 (S' := (219, [some (pvR 124), some (pvI (i1z7236_ + 1))], [], M7337_)) rfl ⟨trivial, trivial, trivial⟩ ?_
                    have j7343_ : Int32.toInt (M7337_.1 124 47) = Int32.toInt (M.1 124 15) := (by have y01 : Int32.toInt (M7337_.1 124 47) = Int32.toInt (Mz7236_.1 124 47) := congrArg Int32.toInt ((pvu_n e7338_ 124 47 (Or.inl (by decide))).trans (pvu_n e7333_ 124 47 (Or.inl (by decide)))); omega)
                    have j7344_ : Int32.toInt (M7337_.1 124 51) = Int32.toInt (M.1 124 3) := (by have y01 : Int32.toInt (M7337_.1 124 51) = Int32.toInt (Mz7236_.1 124 51) := congrArg Int32.toInt ((pvu_n e7338_ 124 51 (Or.inl (by decide))).trans (pvu_n e7333_ 124 51 (Or.inl (by decide)))); omega)
                    exact ihz7236_ (i1z7236_ + 1) M7337_ o7339_ f7340_ (zr_wide b7341_ (by decide) (by decide)) j7343_ j7344_ (zhid (by have hm0 := zshow hmz7236_; have y01 : Int32.toInt (M7337_.1 124 47) = Int32.toInt (Mz7236_.1 124 47) := congrArg Int32.toInt ((pvu_n e7338_ 124 47 (Or.inl (by decide))).trans (pvu_n e7333_ 124 47 (Or.inl (by decide)))); have y11 : Int32.toInt (M7337_.1 124 51) = Int32.toInt (Mz7236_.1 124 51) := congrArg Int32.toInt ((pvu_n e7338_ 124 51 (Or.inl (by decide))).trans (pvu_n e7333_ 124 51 (Or.inl (by decide)))); omega))
              have u7345_ : Int32.toInt 0 = 0 := by decide
              have j7346_ : Int32.toInt (Mz6908_.1 124 47) = Int32.toInt (M.1 124 15) := (by omega)
              have j7347_ : Int32.toInt (Mz6908_.1 124 51) = Int32.toInt (M.1 124 3) := (by omega)
              exact hlz7236_ _ 0 Mz6908_ oz6908_ fz6908_ (zr_wide (show 0 ≤ Int32.toInt 0 ∧ Int32.toInt 0 ≤ 0 from (by decide)) (by decide) (by decide)) j7346_ j7347_ (zhid (Nat.lt_succ_self _))
            · have b7348_ : 0 ≤ Int32.toInt i1z6908_ ∧ Int32.toInt i1z6908_ ≤ 27 := zr_nle_r 27 c6911_ h1z6908_ (show 28 ≤ Int32.toInt 28 ∧ Int32.toInt 28 ≤ 28 from (by decide)) (by decide)
              have b7349_ : 0 ≤ Int32.toInt (Mz6908_.1 130 (Int32.toNatClampNeg i1z6908_)) ∧ Int32.toInt (Mz6908_.1 130 (Int32.toNatClampNeg i1z6908_)) ≤ 9 := pvok_r oz6908_ 130 (Int32.toNatClampNeg i1z6908_) rfl
              refine pw_blkw hT 8 (pc := 211) (lo := [some (pvR 124), some (pvI i1z6908_)]) (st := []) (M := pvu Mz6908_ 156 (Int32.toNatClampNeg i1z6908_) (Mz6908_.1 130 (Int32.toNatClampNeg i1z6908_))) rfl ⟨trivial, rfl, trivial, trivial, rfl, trivial, ⟨rfl, (zr_in (n := 28) b7348_ (by decide) (by decide))⟩, ⟨rfl, (zr_in (n := 28) b7348_ (by decide) (by decide))⟩, trivial⟩ (fun M7350_ e7351_ => ?_)
              have o7352_ : pvOk M7350_ := pvok_u2 e7351_ oz6908_ rfl b7349_
              have f7353_ : pvFr fp_X10_image_124 M M7350_ := pvfr_u e7351_ fz6908_ rfl
              obtain ⟨q7355_, b7354_⟩ : (Int32.toInt (i1z6908_ + 1) = Int32.toInt i1z6908_ + 1) ∧ (1 ≤ Int32.toInt (i1z6908_ + 1) ∧ Int32.toInt (i1z6908_ + 1) ≤ 28) := zadd_k i1z6908_ 1 1 1 28 b7348_ (by decide) (by decide) (by decide) (by decide) (by decide)
              refine pw_blk hT 2 (S' := (193, [some (pvR 124), some (pvI (i1z6908_ + 1))], [], M7350_)) rfl ⟨trivial, trivial, trivial⟩ ?_
              have j7356_ : Int32.toInt (M7350_.1 124 47) = Int32.toInt (M.1 124 15) := (by have y01 : Int32.toInt (M7350_.1 124 47) = Int32.toInt (Mz6908_.1 124 47) := congrArg Int32.toInt (pvu_n e7351_ 124 47 (Or.inl (by decide))); omega)
              have j7357_ : Int32.toInt (M7350_.1 124 51) = Int32.toInt (M.1 124 3) := (by have y01 : Int32.toInt (M7350_.1 124 51) = Int32.toInt (Mz6908_.1 124 51) := congrArg Int32.toInt (pvu_n e7351_ 124 51 (Or.inl (by decide))); omega)
              exact ihz6908_ (i1z6908_ + 1) M7350_ o7352_ f7353_ (zr_wide b7354_ (by decide) (by decide)) j7356_ j7357_ (zhid (by have hm0 := zshow hmz6908_; have y01 : Int32.toInt (M7350_.1 124 47) = Int32.toInt (Mz6908_.1 124 47) := congrArg Int32.toInt (pvu_n e7351_ 124 47 (Or.inl (by decide))); have y11 : Int32.toInt (M7350_.1 124 51) = Int32.toInt (Mz6908_.1 124 51) := congrArg Int32.toInt (pvu_n e7351_ 124 51 (Or.inl (by decide))); omega))
        have u7358_ : Int32.toInt 0 = 0 := by decide
        have j7359_ : Int32.toInt (Mz5568_.1 124 47) = Int32.toInt (M.1 124 15) := (by omega)
        have j7360_ : Int32.toInt (Mz5568_.1 124 51) = Int32.toInt (M.1 124 3) := (by omega)
        exact hlz6908_ _ 0 Mz5568_ oz5568_ fz5568_ (zr_wide (show 0 ≤ Int32.toInt 0 ∧ Int32.toInt 0 ≤ 0 from (by decide)) (by decide) (by decide)) j7359_ j7360_ (zhid (Nat.lt_succ_self _))
      · have b7361_ : 0 ≤ Int32.toInt i1z5568_ ∧ Int32.toInt i1z5568_ ≤ 6 := zr_nle_r 6 c5571_ h1z5568_ (show 7 ≤ Int32.toInt 7 ∧ Int32.toInt 7 ≤ 7 from (by decide)) (by decide)
        have b7362_ : 0 ≤ Int32.toInt (Mz5568_.1 125 (Int32.toNatClampNeg i1z5568_)) ∧ Int32.toInt (Mz5568_.1 125 (Int32.toNatClampNeg i1z5568_)) ≤ 6 := pvok_r oz5568_ 125 (Int32.toNatClampNeg i1z5568_) rfl
        refine pw_blkw hT 8 (pc := 113) (lo := [some (pvR 124), some (pvI i1z5568_)]) (st := []) (M := pvu Mz5568_ 151 (Int32.toNatClampNeg i1z5568_) (Mz5568_.1 125 (Int32.toNatClampNeg i1z5568_))) rfl ⟨trivial, rfl, trivial, trivial, rfl, trivial, ⟨rfl, (zr_in (n := 7) b7361_ (by decide) (by decide))⟩, ⟨rfl, (zr_in (n := 7) b7361_ (by decide) (by decide))⟩, trivial⟩ (fun M7363_ e7364_ => ?_)
        have o7365_ : pvOk M7363_ := pvok_u2 e7364_ oz5568_ rfl b7362_
        have f7366_ : pvFr fp_X10_image_124 M M7363_ := pvfr_u e7364_ fz5568_ rfl
        have b7367_ : 0 ≤ Int32.toInt (M7363_.1 126 (Int32.toNatClampNeg i1z5568_)) ∧ Int32.toInt (M7363_.1 126 (Int32.toNatClampNeg i1z5568_)) ≤ 9 := pvok_r o7365_ 126 (Int32.toNatClampNeg i1z5568_) rfl
        refine pw_blkw hT 8 (pc := 125) (lo := [some (pvR 124), some (pvI i1z5568_)]) (st := []) (M := pvu M7363_ 152 (Int32.toNatClampNeg i1z5568_) (M7363_.1 126 (Int32.toNatClampNeg i1z5568_))) rfl ⟨trivial, rfl, trivial, trivial, rfl, trivial, ⟨rfl, (zr_in (n := 7) b7361_ (by decide) (by decide))⟩, ⟨rfl, (zr_in (n := 7) b7361_ (by decide) (by decide))⟩, trivial⟩ (fun M7368_ e7369_ => ?_)
        have o7370_ : pvOk M7368_ := pvok_u2 e7369_ o7365_ rfl b7367_
        have f7371_ : pvFr fp_X10_image_124 M M7368_ := pvfr_u e7369_ f7366_ rfl
        have b7372_ : 0 ≤ Int32.toInt (M7368_.1 127 (Int32.toNatClampNeg i1z5568_)) ∧ Int32.toInt (M7368_.1 127 (Int32.toNatClampNeg i1z5568_)) ≤ 3 := pvok_r o7370_ 127 (Int32.toNatClampNeg i1z5568_) rfl
        refine pw_blkw hT 8 (pc := 137) (lo := [some (pvR 124), some (pvI i1z5568_)]) (st := []) (M := pvu M7368_ 153 (Int32.toNatClampNeg i1z5568_) (M7368_.1 127 (Int32.toNatClampNeg i1z5568_))) rfl ⟨trivial, rfl, trivial, trivial, rfl, trivial, ⟨rfl, (zr_in (n := 7) b7361_ (by decide) (by decide))⟩, ⟨rfl, (zr_in (n := 7) b7361_ (by decide) (by decide))⟩, trivial⟩ (fun M7373_ e7374_ => ?_)
        have o7375_ : pvOk M7373_ := pvok_u2 e7374_ o7370_ rfl b7372_
        have f7376_ : pvFr fp_X10_image_124 M M7373_ := pvfr_u e7374_ f7371_ rfl
        have b7377_ : 0 ≤ Int32.toInt (M7373_.1 128 (Int32.toNatClampNeg i1z5568_)) ∧ Int32.toInt (M7373_.1 128 (Int32.toNatClampNeg i1z5568_)) ≤ 4 := pvok_r o7375_ 128 (Int32.toNatClampNeg i1z5568_) rfl
        refine pw_blkw hT 8 (pc := 149) (lo := [some (pvR 124), some (pvI i1z5568_)]) (st := []) (M := pvu M7373_ 154 (Int32.toNatClampNeg i1z5568_) (M7373_.1 128 (Int32.toNatClampNeg i1z5568_))) rfl ⟨trivial, rfl, trivial, trivial, rfl, trivial, ⟨rfl, (zr_in (n := 7) b7361_ (by decide) (by decide))⟩, ⟨rfl, (zr_in (n := 7) b7361_ (by decide) (by decide))⟩, trivial⟩ (fun M7378_ e7379_ => ?_)
        have o7380_ : pvOk M7378_ := pvok_u2 e7379_ o7375_ rfl b7377_
        have f7381_ : pvFr fp_X10_image_124 M M7378_ := pvfr_u e7379_ f7376_ rfl
        have b7382_ : 0 ≤ Int32.toInt (M7378_.1 129 (Int32.toNatClampNeg i1z5568_)) ∧ Int32.toInt (M7378_.1 129 (Int32.toNatClampNeg i1z5568_)) ≤ 9 := pvok_r o7380_ 129 (Int32.toNatClampNeg i1z5568_) rfl
        refine pw_blkw hT 8 (pc := 161) (lo := [some (pvR 124), some (pvI i1z5568_)]) (st := []) (M := pvu M7378_ 155 (Int32.toNatClampNeg i1z5568_) (M7378_.1 129 (Int32.toNatClampNeg i1z5568_))) rfl ⟨trivial, rfl, trivial, trivial, rfl, trivial, ⟨rfl, (zr_in (n := 7) b7361_ (by decide) (by decide))⟩, ⟨rfl, (zr_in (n := 7) b7361_ (by decide) (by decide))⟩, trivial⟩ (fun M7383_ e7384_ => ?_)
        have o7385_ : pvOk M7383_ := pvok_u2 e7384_ o7380_ rfl b7382_
        have f7386_ : pvFr fp_X10_image_124 M M7383_ := pvfr_u e7384_ f7381_ rfl
        have b7387_ : 0 ≤ Int32.toInt (M7383_.1 131 (Int32.toNatClampNeg i1z5568_)) ∧ Int32.toInt (M7383_.1 131 (Int32.toNatClampNeg i1z5568_)) ≤ 1 := pvok_r o7385_ 131 (Int32.toNatClampNeg i1z5568_) rfl
        refine pw_blkw hT 8 (pc := 173) (lo := [some (pvR 124), some (pvI i1z5568_)]) (st := []) (M := pvu M7383_ 162 (Int32.toNatClampNeg i1z5568_) (vp_nar .boolean (M7383_.1 131 (Int32.toNatClampNeg i1z5568_)))) rfl ⟨trivial, rfl, trivial, trivial, rfl, trivial, ⟨rfl, (zr_in (n := 7) b7361_ (by decide) (by decide))⟩, ⟨rfl, (zr_in (n := 7) b7361_ (by decide) (by decide))⟩, trivial⟩ (fun M7388_ e7389_ => ?_)
        have o7390_ : pvOk M7388_ := pvok_u2 e7389_ o7385_ rfl (zboolr (M7383_.1 131 (Int32.toNatClampNeg i1z5568_)))
        have f7391_ : pvFr fp_X10_image_124 M M7388_ := pvfr_u e7389_ f7386_ rfl
        have b7392_ : 0 ≤ Int32.toInt (M7388_.1 145 (Int32.toNatClampNeg i1z5568_)) ∧ Int32.toInt (M7388_.1 145 (Int32.toNatClampNeg i1z5568_)) ≤ 6 := pvok_r o7390_ 145 (Int32.toNatClampNeg i1z5568_) rfl
        refine pw_blkw hT 8 (pc := 185) (lo := [some (pvR 124), some (pvI i1z5568_)]) (st := []) (M := pvu M7388_ 157 (Int32.toNatClampNeg i1z5568_) (M7388_.1 145 (Int32.toNatClampNeg i1z5568_))) rfl ⟨trivial, rfl, trivial, trivial, rfl, trivial, ⟨rfl, (zr_in (n := 7) b7361_ (by decide) (by decide))⟩, ⟨rfl, (zr_in (n := 7) b7361_ (by decide) (by decide))⟩, trivial⟩ (fun M7393_ e7394_ => ?_)
        have o7395_ : pvOk M7393_ := pvok_u2 e7394_ o7390_ rfl b7392_
        have f7396_ : pvFr fp_X10_image_124 M M7393_ := pvfr_u e7394_ f7391_ rfl
        obtain ⟨q7398_, b7397_⟩ : (Int32.toInt (i1z5568_ + 1) = Int32.toInt i1z5568_ + 1) ∧ (1 ≤ Int32.toInt (i1z5568_ + 1) ∧ Int32.toInt (i1z5568_ + 1) ≤ 7) := zadd_k i1z5568_ 1 1 1 7 b7361_ (by decide) (by decide) (by decide) (by decide) (by decide)
        refine pw_blk hT 2 (S' := (95, [some (pvR 124), some (pvI (i1z5568_ + 1))], [], M7393_)) rfl ⟨trivial, trivial, trivial⟩ ?_
        have j7399_ : Int32.toInt (M7393_.1 124 47) = Int32.toInt (M.1 124 15) := (by have y01 : Int32.toInt (M7393_.1 124 47) = Int32.toInt (Mz5568_.1 124 47) := congrArg Int32.toInt (((((((pvu_n e7394_ 124 47 (Or.inl (by decide))).trans (pvu_n e7389_ 124 47 (Or.inl (by decide)))).trans (pvu_n e7384_ 124 47 (Or.inl (by decide)))).trans (pvu_n e7379_ 124 47 (Or.inl (by decide)))).trans (pvu_n e7374_ 124 47 (Or.inl (by decide)))).trans (pvu_n e7369_ 124 47 (Or.inl (by decide)))).trans (pvu_n e7364_ 124 47 (Or.inl (by decide)))); omega)
        have j7400_ : Int32.toInt (M7393_.1 124 51) = Int32.toInt (M.1 124 3) := (by have y01 : Int32.toInt (M7393_.1 124 51) = Int32.toInt (Mz5568_.1 124 51) := congrArg Int32.toInt (((((((pvu_n e7394_ 124 51 (Or.inl (by decide))).trans (pvu_n e7389_ 124 51 (Or.inl (by decide)))).trans (pvu_n e7384_ 124 51 (Or.inl (by decide)))).trans (pvu_n e7379_ 124 51 (Or.inl (by decide)))).trans (pvu_n e7374_ 124 51 (Or.inl (by decide)))).trans (pvu_n e7369_ 124 51 (Or.inl (by decide)))).trans (pvu_n e7364_ 124 51 (Or.inl (by decide)))); omega)
        exact ihz5568_ (i1z5568_ + 1) M7393_ o7395_ f7396_ (zr_wide b7397_ (by decide) (by decide)) j7399_ j7400_ (zhid (by have hm0 := zshow hmz5568_; have y01 : Int32.toInt (M7393_.1 124 47) = Int32.toInt (Mz5568_.1 124 47) := congrArg Int32.toInt (((((((pvu_n e7394_ 124 47 (Or.inl (by decide))).trans (pvu_n e7389_ 124 47 (Or.inl (by decide)))).trans (pvu_n e7384_ 124 47 (Or.inl (by decide)))).trans (pvu_n e7379_ 124 47 (Or.inl (by decide)))).trans (pvu_n e7374_ 124 47 (Or.inl (by decide)))).trans (pvu_n e7369_ 124 47 (Or.inl (by decide)))).trans (pvu_n e7364_ 124 47 (Or.inl (by decide)))); have y11 : Int32.toInt (M7393_.1 124 51) = Int32.toInt (Mz5568_.1 124 51) := congrArg Int32.toInt (((((((pvu_n e7394_ 124 51 (Or.inl (by decide))).trans (pvu_n e7389_ 124 51 (Or.inl (by decide)))).trans (pvu_n e7384_ 124 51 (Or.inl (by decide)))).trans (pvu_n e7379_ 124 51 (Or.inl (by decide)))).trans (pvu_n e7374_ 124 51 (Or.inl (by decide)))).trans (pvu_n e7369_ 124 51 (Or.inl (by decide)))).trans (pvu_n e7364_ 124 51 (Or.inl (by decide)))); omega))
  have u7401_ : Int32.toInt 0 = 0 := by decide
  have j7402_ : Int32.toInt (M56_.1 124 47) = Int32.toInt (M.1 124 15) := (by have z1 : Int32.toInt (M56_.1 124 47) = Int32.toInt (M1_.1 124 15) := congrArg Int32.toInt (((((((((((pvu_n e57_ 124 47 (Or.inr (by decide))).trans (pvu_n e52_ 124 47 (Or.inr (by decide)))).trans (pvu_n e47_ 124 47 (Or.inr (by decide)))).trans (pvu_n e42_ 124 47 (Or.inr (by decide)))).trans (pvu_n e37_ 124 47 (Or.inr (by decide)))).trans (pvu_n e32_ 124 47 (Or.inr (by decide)))).trans (pvu_n e27_ 124 47 (Or.inr (by decide)))).trans (pvu_n e22_ 124 47 (Or.inr (by decide)))).trans (pvu_n e17_ 124 47 (Or.inr (by decide)))).trans (pvu_n e12_ 124 47 (Or.inr (by decide)))).trans (pvu_s e7_)); have z2 : Int32.toInt (M1_.1 124 15) = Int32.toInt (M.1 124 15) := congrArg Int32.toInt (pvu_n e2_ 124 15 (Or.inr (by decide))); omega)
  have j7403_ : Int32.toInt (M56_.1 124 51) = Int32.toInt (M.1 124 3) := (by have z1 : Int32.toInt (M56_.1 124 51) = Int32.toInt (M21_.1 124 3) := congrArg Int32.toInt (((((((pvu_n e57_ 124 51 (Or.inr (by decide))).trans (pvu_n e52_ 124 51 (Or.inr (by decide)))).trans (pvu_n e47_ 124 51 (Or.inr (by decide)))).trans (pvu_n e42_ 124 51 (Or.inr (by decide)))).trans (pvu_n e37_ 124 51 (Or.inr (by decide)))).trans (pvu_n e32_ 124 51 (Or.inr (by decide)))).trans (pvu_s e27_)); have z2 : Int32.toInt (M21_.1 124 3) = Int32.toInt (M.1 124 3) := congrArg Int32.toInt (((((pvu_n e22_ 124 3 (Or.inr (by decide))).trans (pvu_n e17_ 124 3 (Or.inr (by decide)))).trans (pvu_n e12_ 124 3 (Or.inr (by decide)))).trans (pvu_n e7_ 124 3 (Or.inr (by decide)))).trans (pvu_n e2_ 124 3 (Or.inr (by decide)))); omega)
  exact hlz5568_ _ 0 M56_ o58_ f59_ (zr_wide (show 0 ≤ Int32.toInt 0 ∧ Int32.toInt 0 ≤ 0 from (by decide)) (by decide) (by decide)) j7402_ j7403_ (zhid (Nat.lt_succ_self _))
set_option maxHeartbeats 4000000 in
set_option maxRecDepth 10000 in
theorem sf_X10_isLimit_124_x (M : pvM) (hok : pvOk M) (n1 : Int32) (d : Nat) : PW 38 d (0, [some (pvR 124), some (pvI n1)], [], M) (fun r X => r = some (pvI ((if n1 < 0 then 0 else (if 99999 < n1 then 0 else 1)))) ∧ X = M) := by
  have hT : pvdom 38 = pvD_38 := rfl
  refine pw_blk hT 4 (S' := (6, [some (pvR 124), some (pvI n1)], [pvI 99999, pvI 0, pvI n1, pvR 124], M)) rfl ⟨trivial, trivial, trivial, trivial, trivial⟩ ?_
  refine pw_callT hT (as := [pvR 124, pvI n1, pvI 0, pvI 99999]) (lo1 := [some (pvR 124), some (pvI n1), some (pvI 0), some (pvI 99999)]) (d1 := d) (rest := []) rfl rfl rfl rfl rfl (fun _ => rfl) (Nat.zero_le _) rfl rfl rfl (sf_X10_in_124_x_x_x M hok n1 0 99999 d) ?_
  by_cases c6_ : n1 < 0
  · refine pw_eqI (if_pos c6_) ?_
    have b7_ : (-2147483648) ≤ Int32.toInt n1 ∧ Int32.toInt n1 ≤ (-1) := zr_lt_l (-1) c6_ (zbnd n1) (show 0 ≤ Int32.toInt 0 ∧ Int32.toInt 0 ≤ 0 from (by decide)) (by decide)
    show PW 38 d (9, [some (pvR 124), some (pvI n1)], [pvI 0], M) _
    exact pw_ret hT rfl (r := some (pvI 0)) (M' := M) ⟨Or.inl rfl, rfl, rfl⟩ ⟨(by rw [if_pos c6_]), rfl⟩
  · refine pw_eqI (if_neg c6_) ?_
    have b8_ : 0 ≤ Int32.toInt n1 ∧ Int32.toInt n1 ≤ 2147483647 := zr_nlt_l 0 c6_ (zbnd n1) (show 0 ≤ Int32.toInt 0 ∧ Int32.toInt 0 ≤ 0 from (by decide)) (by decide)
    by_cases c9_ : 99999 < n1
    · refine pw_eqI (if_pos c9_) ?_
      have b10_ : 100000 ≤ Int32.toInt n1 ∧ Int32.toInt n1 ≤ 2147483647 := zr_lt_r 100000 c9_ b8_ (show 99999 ≤ Int32.toInt 99999 ∧ Int32.toInt 99999 ≤ 99999 from (by decide)) (by decide)
      show PW 38 d (9, [some (pvR 124), some (pvI n1)], [pvI 0], M) _
      exact pw_ret hT rfl (r := some (pvI 0)) (M' := M) ⟨Or.inl rfl, rfl, rfl⟩ ⟨(by rw [if_neg c6_, if_pos c9_]), rfl⟩
    · refine pw_eqI (if_neg c9_) ?_
      have b11_ : 0 ≤ Int32.toInt n1 ∧ Int32.toInt n1 ≤ 99999 := zr_nlt_r 99999 c9_ b8_ (show 99999 ≤ Int32.toInt 99999 ∧ Int32.toInt 99999 ≤ 99999 from (by decide)) (by decide)
      show PW 38 d (9, [some (pvR 124), some (pvI n1)], [pvI 1], M) _
      exact pw_ret hT rfl (r := some (pvI 1)) (M' := M) ⟨Or.inr rfl, rfl, rfl⟩ ⟨(by rw [if_neg c6_, if_neg c9_]), rfl⟩
set_option maxHeartbeats 4000000 in
set_option maxRecDepth 10000 in
theorem sf_X10_isPlace_124_x_x (M : pvM) (hok : pvOk M) (n1 : Int32) (n2 : Int32) (d : Nat) : PW 40 d (0, [some (pvR 124), some (pvI n1), some (pvI n2)], [], M) (fun r X => r = some (pvI ((if n1 < 0 then 0 else (if 3 < n1 then 0 else (if n2 < 0 then 0 else (if 4 < n2 then 0 else 1)))))) ∧ X = M) := by
  have hT : pvdom 40 = pvD_40 := rfl
  refine pw_blk hT 4 (S' := (4, [some (pvR 124), some (pvI n1), some (pvI n2)], [pvI 3, pvI 0, pvI n1, pvR 124], M)) rfl ⟨trivial, trivial, trivial, trivial, trivial⟩ ?_
  refine pw_callT hT (as := [pvR 124, pvI n1, pvI 0, pvI 3]) (lo1 := [some (pvR 124), some (pvI n1), some (pvI 0), some (pvI 3)]) (d1 := d) (rest := []) rfl rfl rfl rfl rfl (fun _ => rfl) (Nat.zero_le _) rfl rfl rfl (sf_X10_in_124_x_x_x M hok n1 0 3 d) ?_
  by_cases c6_ : n1 < 0
  · refine pw_eqI (if_pos c6_) ?_
    have b7_ : (-2147483648) ≤ Int32.toInt n1 ∧ Int32.toInt n1 ≤ (-1) := zr_lt_l (-1) c6_ (zbnd n1) (show 0 ≤ Int32.toInt 0 ∧ Int32.toInt 0 ≤ 0 from (by decide)) (by decide)
    show PW 40 d (7, [some (pvR 124), some (pvI n1), some (pvI n2)], [pvI 0], M) _
    refine pw_if hT (c := 0 = 0) rfl rfl (fun c8_ => ?_) (fun c8_ => absurd (by decide) c8_)
    refine pw_blk hT 1 (S' := (25, [some (pvR 124), some (pvI n1), some (pvI n2)], [pvI 0], M)) rfl ⟨trivial, trivial⟩ ?_
    exact pw_ret hT rfl (r := some (pvI 0)) (M' := M) ⟨Or.inl rfl, rfl, rfl⟩ ⟨(by rw [if_pos c6_]), rfl⟩
  · refine pw_eqI (if_neg c6_) ?_
    have b9_ : 0 ≤ Int32.toInt n1 ∧ Int32.toInt n1 ≤ 2147483647 := zr_nlt_l 0 c6_ (zbnd n1) (show 0 ≤ Int32.toInt 0 ∧ Int32.toInt 0 ≤ 0 from (by decide)) (by decide)
    by_cases c10_ : 3 < n1
    · refine pw_eqI (if_pos c10_) ?_
      have b11_ : 4 ≤ Int32.toInt n1 ∧ Int32.toInt n1 ≤ 2147483647 := zr_lt_r 4 c10_ b9_ (show 3 ≤ Int32.toInt 3 ∧ Int32.toInt 3 ≤ 3 from (by decide)) (by decide)
      show PW 40 d (7, [some (pvR 124), some (pvI n1), some (pvI n2)], [pvI 0], M) _
      refine pw_if hT (c := 0 = 0) rfl rfl (fun c12_ => ?_) (fun c12_ => absurd (by decide) c12_)
      refine pw_blk hT 1 (S' := (25, [some (pvR 124), some (pvI n1), some (pvI n2)], [pvI 0], M)) rfl ⟨trivial, trivial⟩ ?_
      exact pw_ret hT rfl (r := some (pvI 0)) (M' := M) ⟨Or.inl rfl, rfl, rfl⟩ ⟨(by rw [if_neg c6_, if_pos c10_]), rfl⟩
    · refine pw_eqI (if_neg c10_) ?_
      have b13_ : 0 ≤ Int32.toInt n1 ∧ Int32.toInt n1 ≤ 3 := zr_nlt_r 3 c10_ b9_ (show 3 ≤ Int32.toInt 3 ∧ Int32.toInt 3 ≤ 3 from (by decide)) (by decide)
      show PW 40 d (7, [some (pvR 124), some (pvI n1), some (pvI n2)], [pvI 1], M) _
      refine pw_if hT (c := 1 = 0) rfl rfl (fun c14_ => absurd c14_ (by decide)) (fun c14_ => ?_)
      refine pw_blk hT 4 (S' := (14, [some (pvR 124), some (pvI n1), some (pvI n2)], [pvI 4, pvI 0, pvI n2, pvR 124], M)) rfl ⟨trivial, trivial, trivial, trivial, trivial⟩ ?_
      refine pw_callT hT (as := [pvR 124, pvI n2, pvI 0, pvI 4]) (lo1 := [some (pvR 124), some (pvI n2), some (pvI 0), some (pvI 4)]) (d1 := d) (rest := []) rfl rfl rfl rfl rfl (fun _ => rfl) (Nat.zero_le _) rfl rfl rfl (sf_X10_in_124_x_x_x M hok n2 0 4 d) ?_
      by_cases c20_ : n2 < 0
      · refine pw_eqI (if_pos c20_) ?_
        have b21_ : (-2147483648) ≤ Int32.toInt n2 ∧ Int32.toInt n2 ≤ (-1) := zr_lt_l (-1) c20_ (zbnd n2) (show 0 ≤ Int32.toInt 0 ∧ Int32.toInt 0 ≤ 0 from (by decide)) (by decide)
        show PW 40 d (17, [some (pvR 124), some (pvI n1), some (pvI n2)], [pvI 0], M) _
        refine pw_if hT (c := 0 = 0) rfl rfl (fun c22_ => ?_) (fun c22_ => absurd (by decide) c22_)
        refine pw_blk hT 1 (S' := (25, [some (pvR 124), some (pvI n1), some (pvI n2)], [pvI 0], M)) rfl ⟨trivial, trivial⟩ ?_
        exact pw_ret hT rfl (r := some (pvI 0)) (M' := M) ⟨Or.inl rfl, rfl, rfl⟩ ⟨(by rw [if_neg c6_, if_neg c10_, if_pos c20_]), rfl⟩
      · refine pw_eqI (if_neg c20_) ?_
        have b23_ : 0 ≤ Int32.toInt n2 ∧ Int32.toInt n2 ≤ 2147483647 := zr_nlt_l 0 c20_ (zbnd n2) (show 0 ≤ Int32.toInt 0 ∧ Int32.toInt 0 ≤ 0 from (by decide)) (by decide)
        by_cases c24_ : 4 < n2
        · refine pw_eqI (if_pos c24_) ?_
          have b25_ : 5 ≤ Int32.toInt n2 ∧ Int32.toInt n2 ≤ 2147483647 := zr_lt_r 5 c24_ b23_ (show 4 ≤ Int32.toInt 4 ∧ Int32.toInt 4 ≤ 4 from (by decide)) (by decide)
          show PW 40 d (17, [some (pvR 124), some (pvI n1), some (pvI n2)], [pvI 0], M) _
          refine pw_if hT (c := 0 = 0) rfl rfl (fun c26_ => ?_) (fun c26_ => absurd (by decide) c26_)
          refine pw_blk hT 1 (S' := (25, [some (pvR 124), some (pvI n1), some (pvI n2)], [pvI 0], M)) rfl ⟨trivial, trivial⟩ ?_
          exact pw_ret hT rfl (r := some (pvI 0)) (M' := M) ⟨Or.inl rfl, rfl, rfl⟩ ⟨(by rw [if_neg c6_, if_neg c10_, if_neg c20_, if_pos c24_]), rfl⟩
        · refine pw_eqI (if_neg c24_) ?_
          have b27_ : 0 ≤ Int32.toInt n2 ∧ Int32.toInt n2 ≤ 4 := zr_nlt_r 4 c24_ b23_ (show 4 ≤ Int32.toInt 4 ∧ Int32.toInt 4 ≤ 4 from (by decide)) (by decide)
          show PW 40 d (17, [some (pvR 124), some (pvI n1), some (pvI n2)], [pvI 1], M) _
          refine pw_if hT (c := 1 = 0) rfl rfl (fun c28_ => absurd c28_ (by decide)) (fun c28_ => ?_)
          refine pw_blk hT 2 (S' := (25, [some (pvR 124), some (pvI n1), some (pvI n2)], [pvI 1], M)) rfl ⟨trivial, trivial, trivial⟩ ?_
          exact pw_ret hT rfl (r := some (pvI 1)) (M' := M) ⟨Or.inr rfl, rfl, rfl⟩ ⟨(by rw [if_neg c6_, if_neg c10_, if_neg c20_, if_neg c24_]), rfl⟩
set_option maxHeartbeats 4000000 in
set_option maxRecDepth 10000 in
theorem sf_X10_isTape_124_x (M : pvM) (hok : pvOk M) (n1 : Int32) (d : Nat) : PW 41 d (0, [some (pvR 124), some (pvI n1)], [], M) (fun r X => r = some (pvI ((if n1 < 0 then 0 else (if 5 < n1 then 0 else 1)))) ∧ X = M) := by
  have hT : pvdom 41 = pvD_41 := rfl
  refine pw_blk hT 4 (S' := (4, [some (pvR 124), some (pvI n1)], [pvI 5, pvI 0, pvI n1, pvR 124], M)) rfl ⟨trivial, trivial, trivial, trivial, trivial⟩ ?_
  refine pw_callT hT (as := [pvR 124, pvI n1, pvI 0, pvI 5]) (lo1 := [some (pvR 124), some (pvI n1), some (pvI 0), some (pvI 5)]) (d1 := d) (rest := []) rfl rfl rfl rfl rfl (fun _ => rfl) (Nat.zero_le _) rfl rfl rfl (sf_X10_in_124_x_x_x M hok n1 0 5 d) ?_
  by_cases c6_ : n1 < 0
  · refine pw_eqI (if_pos c6_) ?_
    have b7_ : (-2147483648) ≤ Int32.toInt n1 ∧ Int32.toInt n1 ≤ (-1) := zr_lt_l (-1) c6_ (zbnd n1) (show 0 ≤ Int32.toInt 0 ∧ Int32.toInt 0 ≤ 0 from (by decide)) (by decide)
    show PW 41 d (7, [some (pvR 124), some (pvI n1)], [pvI 0], M) _
    exact pw_ret hT rfl (r := some (pvI 0)) (M' := M) ⟨Or.inl rfl, rfl, rfl⟩ ⟨(by rw [if_pos c6_]), rfl⟩
  · refine pw_eqI (if_neg c6_) ?_
    have b8_ : 0 ≤ Int32.toInt n1 ∧ Int32.toInt n1 ≤ 2147483647 := zr_nlt_l 0 c6_ (zbnd n1) (show 0 ≤ Int32.toInt 0 ∧ Int32.toInt 0 ≤ 0 from (by decide)) (by decide)
    by_cases c9_ : 5 < n1
    · refine pw_eqI (if_pos c9_) ?_
      have b10_ : 6 ≤ Int32.toInt n1 ∧ Int32.toInt n1 ≤ 2147483647 := zr_lt_r 6 c9_ b8_ (show 5 ≤ Int32.toInt 5 ∧ Int32.toInt 5 ≤ 5 from (by decide)) (by decide)
      show PW 41 d (7, [some (pvR 124), some (pvI n1)], [pvI 0], M) _
      exact pw_ret hT rfl (r := some (pvI 0)) (M' := M) ⟨Or.inl rfl, rfl, rfl⟩ ⟨(by rw [if_neg c6_, if_pos c9_]), rfl⟩
    · refine pw_eqI (if_neg c9_) ?_
      have b11_ : 0 ≤ Int32.toInt n1 ∧ Int32.toInt n1 ≤ 5 := zr_nlt_r 5 c9_ b8_ (show 5 ≤ Int32.toInt 5 ∧ Int32.toInt 5 ≤ 5 from (by decide)) (by decide)
      show PW 41 d (7, [some (pvR 124), some (pvI n1)], [pvI 1], M) _
      exact pw_ret hT rfl (r := some (pvI 1)) (M' := M) ⟨Or.inr rfl, rfl, rfl⟩ ⟨(by rw [if_neg c6_, if_neg c9_]), rfl⟩
set_option maxHeartbeats 4000000 in
set_option maxRecDepth 10000 in
theorem sf_X10_narrow_124_x_x (M : pvM) (hok : pvOk M) (n1 : Int32) (n2 : Int64) (d : Nat) : PW 56 d (0, [some (pvR 124), some (pvI n1), some (pvJ n2), none], [], M) (fun r X => (∃ x : Int64, r = some (pvJ x)) ∧ X = M) := by
  have hT : pvdom 56 = pvD_56 := rfl
  refine pw_blk hT 1 (S' := (1, [some (pvR 124), some (pvI n1), some (pvJ n2), none], [pvI n1], M)) rfl ⟨trivial, trivial⟩ ?_
  refine pw_ifn hT (c := n1 = 0) rfl rfl (fun c1_ => ?_) (fun c1_ => ?_)
  · refine pw_blk hT 2 (S' := (13, [some (pvR 124), some (pvI n1), some (pvJ n2), none], [pvI 1, pvI n1], M)) rfl ⟨trivial, trivial, trivial⟩ ?_
    refine pw_icn hT (c := n1 = 1) rfl rfl (fun c2_ => ?_) (fun c2_ => ?_)
    · refine pw_blk hT 2 (S' := (25, [some (pvR 124), some (pvI n1), some (pvJ n2), none], [pvI 2, pvI n1], M)) rfl ⟨trivial, trivial, trivial⟩ ?_
      refine pw_icn hT (c := n1 = 2) rfl rfl (fun c3_ => ?_) (fun c3_ => ?_)
      · refine pw_blk hT 2 (S' := (36, [some (pvR 124), some (pvI n1), some (pvJ n2), none], [pvI 4, pvI n1], M)) rfl ⟨trivial, trivial, trivial⟩ ?_
        refine pw_icn hT (c := n1 = 4) rfl rfl (fun c4_ => ?_) (fun c4_ => ?_)
        · refine pw_blk hT 1 (S' := (54, [some (pvR 124), some (pvI n1), some (pvJ n2), none], [pvJ n2], M)) rfl ⟨trivial, trivial⟩ ?_
          exact pw_ret hT rfl (r := some (pvJ n2)) (M' := M) ⟨rfl, rfl⟩ ⟨⟨_, rfl⟩, rfl⟩
        · have b5_ : 4 ≤ Int32.toInt n1 ∧ Int32.toInt n1 ≤ 4 := (by have u0 := (zbnd n1); have u1 := (zi_eq _ _).mp c4_; have u2 := (show 4 ≤ Int32.toInt 4 ∧ Int32.toInt 4 ≤ 4 from (by decide)); omega)
          refine pw_blk hT 3 (S' := (42, [some (pvR 124), some (pvI n1), some (pvJ n2), none], [pvI (lg_cmp n2 0)], M)) rfl ⟨trivial, trivial, trivial, trivial⟩ ?_
          refine pw_if hT (c := (lg_cmp n2 0) = 0) rfl rfl (fun c6_ => ?_) (fun c6_ => ?_)
          · have b7_ : 0 ≤ Int32.toInt (lg_cmp n2 0) ∧ Int32.toInt (lg_cmp n2 0) ≤ 0 := (by have u0 := (zbnd (lg_cmp n2 0)); have u1 := (zi_eq _ _).mp c6_; have u2 := (show 0 ≤ Int32.toInt 0 ∧ Int32.toInt 0 ≤ 0 from (by decide)); omega)
            refine pw_blk hT 2 (S' := (54, [some (pvR 124), some (pvI n1), some (pvJ n2), none], [pvJ 0], M)) rfl ⟨trivial, trivial, trivial⟩ ?_
            exact pw_ret hT rfl (r := some (pvJ 0)) (M' := M) ⟨rfl, rfl⟩ ⟨⟨_, rfl⟩, rfl⟩
          · refine pw_blk hT 2 (S' := (54, [some (pvR 124), some (pvI n1), some (pvJ n2), none], [pvJ 1], M)) rfl ⟨trivial, trivial, trivial⟩ ?_
            exact pw_ret hT rfl (r := some (pvJ 1)) (M' := M) ⟨rfl, rfl⟩ ⟨⟨_, rfl⟩, rfl⟩
      · have b8_ : 2 ≤ Int32.toInt n1 ∧ Int32.toInt n1 ≤ 2 := (by have u0 := (zbnd n1); have u1 := (zi_eq _ _).mp c3_; have u2 := (show 2 ≤ Int32.toInt 2 ∧ Int32.toInt 2 ≤ 2 from (by decide)); omega)
        refine pw_blk hT 4 (S' := (54, [some (pvR 124), some (pvI n1), some (pvJ n2), none], [pvJ (Int32.toInt64 (Int64.toInt32 n2))], M)) rfl ⟨trivial, trivial, trivial, trivial, trivial⟩ ?_
        exact pw_ret hT rfl (r := some (pvJ (Int32.toInt64 (Int64.toInt32 n2)))) (M' := M) ⟨rfl, rfl⟩ ⟨⟨_, rfl⟩, rfl⟩
    · have b9_ : 1 ≤ Int32.toInt n1 ∧ Int32.toInt n1 ≤ 1 := (by have u0 := (zbnd n1); have u1 := (zi_eq _ _).mp c2_; have u2 := (show 1 ≤ Int32.toInt 1 ∧ Int32.toInt 1 ≤ 1 from (by decide)); omega)
      refine pw_blk hT 5 (S' := (54, [some (pvR 124), some (pvI n1), some (pvJ n2), none], [pvJ (Int32.toInt64 (Int16.toInt32 (Int32.toInt16 (Int64.toInt32 n2))))], M)) rfl ⟨trivial, trivial, trivial, trivial, trivial, trivial⟩ ?_
      exact pw_ret hT rfl (r := some (pvJ (Int32.toInt64 (Int16.toInt32 (Int32.toInt16 (Int64.toInt32 n2)))))) (M' := M) ⟨rfl, rfl⟩ ⟨⟨_, rfl⟩, rfl⟩
  · have b10_ : 0 ≤ Int32.toInt n1 ∧ Int32.toInt n1 ≤ 0 := (by have u0 := (zbnd n1); have u1 := (zi_eq _ _).mp c1_; have u2 := (show 0 ≤ Int32.toInt 0 ∧ Int32.toInt 0 ≤ 0 from (by decide)); omega)
    refine pw_blk hT 5 (S' := (54, [some (pvR 124), some (pvI n1), some (pvJ n2), none], [pvJ (Int32.toInt64 (Int8.toInt32 (Int32.toInt8 (Int64.toInt32 n2))))], M)) rfl ⟨trivial, trivial, trivial, trivial, trivial, trivial⟩ ?_
    exact pw_ret hT rfl (r := some (pvJ (Int32.toInt64 (Int8.toInt32 (Int32.toInt8 (Int64.toInt32 n2)))))) (M' := M) ⟨rfl, rfl⟩ ⟨⟨_, rfl⟩, rfl⟩
def fpL_X10_item_124_x_x_x : List (Nat × Nat × Nat) := []
def fp_X10_item_124_x_x_x (q k : Nat) : Bool := pvfp fpL_X10_item_124_x_x_x q k
set_option maxHeartbeats 4000000 in
set_option maxRecDepth 10000 in
theorem sf_X10_item_124_x_x_x (M : pvM) (hok : pvOk M) (n1 : Int32) (n2 : Int32) (n3 : Int64) (d : Nat) : PW 43 d (0, [some (pvR 124), some (pvI n1), some (pvI n2), some (pvJ n3), none], [], M) (fun r X => (∃ x : Int32, r = some (pvI x) ∧ (-13) ≤ Int32.toInt x ∧ Int32.toInt x ≤ 1) ∧ pvOk X ∧ pvFr fp_X10_item_124_x_x_x M X) := by
  have hT : pvdom 43 = pvD_43 := rfl
  refine pw_blk hT 2 (S' := (2, [some (pvR 124), some (pvI n1), some (pvI n2), some (pvJ n3), none], [pvI n1, pvR 124], M)) rfl ⟨trivial, trivial, trivial⟩ ?_
  refine pw_callT hT (as := [pvR 124, pvI n1]) (lo1 := [some (pvR 124), some (pvI n1)]) (d1 := d) (rest := []) rfl rfl rfl rfl rfl (fun _ => rfl) (Nat.zero_le _) rfl rfl rfl (sf_X10_isTape_124_x M hok n1 d) ?_
  by_cases c6_ : n1 < 0
  · refine pw_eqI (if_pos c6_) ?_
    have b7_ : (-2147483648) ≤ Int32.toInt n1 ∧ Int32.toInt n1 ≤ (-1) := zr_lt_l (-1) c6_ (zbnd n1) (show 0 ≤ Int32.toInt 0 ∧ Int32.toInt 0 ≤ 0 from (by decide)) (by decide)
    show PW 43 d (5, [some (pvR 124), some (pvI n1), some (pvI n2), some (pvJ n3), none], [pvI 0], M) _
    refine pw_ifn hT (c := 0 = 0) rfl rfl (fun c8_ => absurd (by decide) c8_) (fun c8_ => ?_)
    refine pw_blk hT 1 (S' := (9, [some (pvR 124), some (pvI n1), some (pvI n2), some (pvJ n3), none], [pvI (-1)], M)) rfl ⟨trivial, trivial⟩ ?_
    exact pw_ret hT rfl (r := some (pvI (-1))) (M' := M) ⟨rfl, rfl⟩ ⟨⟨_, rfl, (zr_wide (show (-1) ≤ Int32.toInt (-1) ∧ Int32.toInt (-1) ≤ (-1) from (by decide)) (by decide) (by decide))⟩, hok, pvfr_0⟩
  · refine pw_eqI (if_neg c6_) ?_
    have b9_ : 0 ≤ Int32.toInt n1 ∧ Int32.toInt n1 ≤ 2147483647 := zr_nlt_l 0 c6_ (zbnd n1) (show 0 ≤ Int32.toInt 0 ∧ Int32.toInt 0 ≤ 0 from (by decide)) (by decide)
    by_cases c10_ : 5 < n1
    · refine pw_eqI (if_pos c10_) ?_
      have b11_ : 6 ≤ Int32.toInt n1 ∧ Int32.toInt n1 ≤ 2147483647 := zr_lt_r 6 c10_ b9_ (show 5 ≤ Int32.toInt 5 ∧ Int32.toInt 5 ≤ 5 from (by decide)) (by decide)
      show PW 43 d (5, [some (pvR 124), some (pvI n1), some (pvI n2), some (pvJ n3), none], [pvI 0], M) _
      refine pw_ifn hT (c := 0 = 0) rfl rfl (fun c12_ => absurd (by decide) c12_) (fun c12_ => ?_)
      refine pw_blk hT 1 (S' := (9, [some (pvR 124), some (pvI n1), some (pvI n2), some (pvJ n3), none], [pvI (-1)], M)) rfl ⟨trivial, trivial⟩ ?_
      exact pw_ret hT rfl (r := some (pvI (-1))) (M' := M) ⟨rfl, rfl⟩ ⟨⟨_, rfl, (zr_wide (show (-1) ≤ Int32.toInt (-1) ∧ Int32.toInt (-1) ≤ (-1) from (by decide)) (by decide) (by decide))⟩, hok, pvfr_0⟩
    · refine pw_eqI (if_neg c10_) ?_
      have b13_ : 0 ≤ Int32.toInt n1 ∧ Int32.toInt n1 ≤ 5 := zr_nlt_r 5 c10_ b9_ (show 5 ≤ Int32.toInt 5 ∧ Int32.toInt 5 ≤ 5 from (by decide)) (by decide)
      show PW 43 d (5, [some (pvR 124), some (pvI n1), some (pvI n2), some (pvJ n3), none], [pvI 1], M) _
      refine pw_ifn hT (c := 1 = 0) rfl rfl (fun c14_ => ?_) (fun c14_ => absurd c14_ (by decide))
      have b15_ : (-1) ≤ Int32.toInt (M.1 164 (Int32.toNatClampNeg n1)) ∧ Int32.toInt (M.1 164 (Int32.toNatClampNeg n1)) ≤ 4 := pvok_r hok 164 (Int32.toNatClampNeg n1) rfl
      refine pw_blk hT 4 (S' := (16, [some (pvR 124), some (pvI n1), some (pvI n2), some (pvJ n3), none], [pvI (M.1 164 (Int32.toNatClampNeg n1))], M)) rfl ⟨trivial, rfl, trivial, ⟨rfl, (zr_in (n := 6) b13_ (by decide) (by decide))⟩, trivial⟩ ?_
      refine pw_if hT (c := 0 ≤ (M.1 164 (Int32.toNatClampNeg n1))) rfl rfl (fun c16_ => ?_) (fun c16_ => ?_)
      · have b17_ : 0 ≤ Int32.toInt (M.1 164 (Int32.toNatClampNeg n1)) ∧ Int32.toInt (M.1 164 (Int32.toNatClampNeg n1)) ≤ 4 := zr_le_r 0 c16_ b15_ (show 0 ≤ Int32.toInt 0 ∧ Int32.toInt 0 ≤ 0 from (by decide)) (by decide)
        have b18_ : 0 ≤ Int32.toInt (M.1 165 (Int32.toNatClampNeg n1)) ∧ Int32.toInt (M.1 165 (Int32.toNatClampNeg n1)) ≤ 60 := pvok_r hok 165 (Int32.toNatClampNeg n1) rfl
        obtain ⟨q20_, b19_⟩ : (Int32.toInt ((M.1 165 (Int32.toNatClampNeg n1)) - 1) = Int32.toInt (M.1 165 (Int32.toNatClampNeg n1)) - 1) ∧ ((-1) ≤ Int32.toInt ((M.1 165 (Int32.toNatClampNeg n1)) - 1) ∧ Int32.toInt ((M.1 165 (Int32.toNatClampNeg n1)) - 1) ≤ 59) := zsub_k (M.1 165 (Int32.toNatClampNeg n1)) 1 1 (-1) 59 b18_ (by decide) (by decide) (by decide) (by decide) (by decide)
        refine pw_blk hT 9 (S' := (33, [some (pvR 124), some (pvI n1), some (pvI n2), some (pvJ n3), none], [pvI ((M.1 165 (Int32.toNatClampNeg n1)) - 1), pvI 0, pvI n2, pvR 124], M)) rfl ⟨trivial, trivial, trivial, trivial, rfl, trivial, ⟨rfl, (zr_in (n := 6) b13_ (by decide) (by decide))⟩, trivial, trivial, trivial⟩ ?_
        refine pw_callT hT (as := [pvR 124, pvI n2, pvI 0, pvI ((M.1 165 (Int32.toNatClampNeg n1)) - 1)]) (lo1 := [some (pvR 124), some (pvI n2), some (pvI 0), some (pvI ((M.1 165 (Int32.toNatClampNeg n1)) - 1))]) (d1 := d) (rest := []) rfl rfl rfl rfl rfl (fun _ => rfl) (Nat.zero_le _) rfl rfl rfl (sf_X10_in_124_x_x_x M hok n2 0 ((M.1 165 (Int32.toNatClampNeg n1)) - 1) d) ?_
        by_cases c26_ : n2 < 0
        · refine pw_eqI (if_pos c26_) ?_
          have b27_ : (-2147483648) ≤ Int32.toInt n2 ∧ Int32.toInt n2 ≤ (-1) := zr_lt_l (-1) c26_ (zbnd n2) (show 0 ≤ Int32.toInt 0 ∧ Int32.toInt 0 ≤ 0 from (by decide)) (by decide)
          show PW 43 d (36, [some (pvR 124), some (pvI n1), some (pvI n2), some (pvJ n3), none], [pvI 0], M) _
          refine pw_ifn hT (c := 0 = 0) rfl rfl (fun c28_ => absurd (by decide) c28_) (fun c28_ => ?_)
          refine pw_blk hT 1 (S' := (41, [some (pvR 124), some (pvI n1), some (pvI n2), some (pvJ n3), none], [pvI (-13)], M)) rfl ⟨trivial, trivial⟩ ?_
          exact pw_ret hT rfl (r := some (pvI (-13))) (M' := M) ⟨rfl, rfl⟩ ⟨⟨_, rfl, (zr_wide (show (-13) ≤ Int32.toInt (-13) ∧ Int32.toInt (-13) ≤ (-13) from (by decide)) (by decide) (by decide))⟩, hok, pvfr_0⟩
        · refine pw_eqI (if_neg c26_) ?_
          have b29_ : 0 ≤ Int32.toInt n2 ∧ Int32.toInt n2 ≤ 2147483647 := zr_nlt_l 0 c26_ (zbnd n2) (show 0 ≤ Int32.toInt 0 ∧ Int32.toInt 0 ≤ 0 from (by decide)) (by decide)
          by_cases c30_ : ((M.1 165 (Int32.toNatClampNeg n1)) - 1) < n2
          · refine pw_eqI (if_pos c30_) ?_
            have d31_ : Int32.toInt ((M.1 165 (Int32.toNatClampNeg n1)) - 1) < Int32.toInt n2 := (zi_lt _ _).mp c30_
            show PW 43 d (36, [some (pvR 124), some (pvI n1), some (pvI n2), some (pvJ n3), none], [pvI 0], M) _
            refine pw_ifn hT (c := 0 = 0) rfl rfl (fun c32_ => absurd (by decide) c32_) (fun c32_ => ?_)
            refine pw_blk hT 1 (S' := (41, [some (pvR 124), some (pvI n1), some (pvI n2), some (pvJ n3), none], [pvI (-13)], M)) rfl ⟨trivial, trivial⟩ ?_
            exact pw_ret hT rfl (r := some (pvI (-13))) (M' := M) ⟨rfl, rfl⟩ ⟨⟨_, rfl, (zr_wide (show (-13) ≤ Int32.toInt (-13) ∧ Int32.toInt (-13) ≤ (-13) from (by decide)) (by decide) (by decide))⟩, hok, pvfr_0⟩
          · refine pw_eqI (if_neg c30_) ?_
            have b33_ : 0 ≤ Int32.toInt ((M.1 165 (Int32.toNatClampNeg n1)) - 1) ∧ Int32.toInt ((M.1 165 (Int32.toNatClampNeg n1)) - 1) ≤ 59 := zr_nlt_l 0 c30_ b19_ b29_ (by decide)
            have b34_ : 0 ≤ Int32.toInt n2 ∧ Int32.toInt n2 ≤ 59 := zr_nlt_r 59 c30_ b29_ b33_ (by decide)
            have d35_ : Int32.toInt ((M.1 165 (Int32.toNatClampNeg n1)) - 1) ≥ Int32.toInt n2 := Int.not_lt.mp ((not_congr (zi_lt _ _)).mp c30_)
            show PW 43 d (36, [some (pvR 124), some (pvI n1), some (pvI n2), some (pvJ n3), none], [pvI 1], M) _
            refine pw_ifn hT (c := 1 = 0) rfl rfl (fun c36_ => ?_) (fun c36_ => absurd c36_ (by decide))
            have q37_ : Int32.toInt (60 * n1) = 60 * Int32.toInt n1 := by have u0 : Int32.toInt 60 = 60 := (by decide); have u1 := b13_; have u2 := zmul 60 n1 (by rw [u0]; omega) (by rw [u0]; omega); rw [u0] at u2; omega
            have b38_ : 0 ≤ Int32.toInt (60 * n1) ∧ Int32.toInt (60 * n1) ≤ 300 := (by have u1 := b13_; omega)
            obtain ⟨q40_, b39_⟩ : (Int32.toInt ((60 * n1) + n2) = Int32.toInt (60 * n1) + Int32.toInt n2) ∧ (0 ≤ Int32.toInt ((60 * n1) + n2) ∧ Int32.toInt ((60 * n1) + n2) ≤ 359) := zadd_r (60 * n1) n2 0 359 b38_ b34_ (by decide) (by decide) (by decide) (by decide)
            refine pw_blk hT 13 (S' := (60, [some (pvR 124), some (pvI n1), some (pvI n2), some (pvJ n3), none], [pvJ n3, pvI (M.1 164 (Int32.toNatClampNeg n1)), pvR 124, pvI ((60 * n1) + n2), pvR 166], M)) rfl ⟨trivial, rfl, trivial, trivial, trivial, trivial, trivial, trivial, trivial, rfl, trivial, ⟨rfl, (zr_in (n := 6) b13_ (by decide) (by decide))⟩, trivial, trivial⟩ ?_
            refine pw_callJp hT (as := [pvR 124, pvI (M.1 164 (Int32.toNatClampNeg n1)), pvJ n3]) (lo1 := [some (pvR 124), some (pvI (M.1 164 (Int32.toNatClampNeg n1))), some (pvJ n3), none]) (d1 := d) (rest := [pvI ((60 * n1) + n2), pvR 166]) rfl rfl rfl rfl rfl (fun _ => rfl) (Nat.zero_le _) rfl rfl rfl (sf_X10_narrow_124_x_x M hok (M.1 164 (Int32.toNatClampNeg n1)) n3 d) (fun x41_ b43_ => ?_)
            refine pw_blkw hT 1 (pc := 64) (lo := [some (pvR 124), some (pvI n1), some (pvI n2), some (pvJ n3), none]) (st := []) (M := pvw M 166 (Int32.toNatClampNeg ((60 * n1) + n2)) x41_) rfl ⟨⟨rfl, (zr_in (n := 360) b39_ (by decide) (by decide))⟩, trivial⟩ (fun M46_ e47_ => ?_)
            have o48_ : pvOk M46_ := pvok_w e47_ hok
            have f49_ : pvFr fp_X10_item_124_x_x_x M M46_ := pvfr_w e47_ pvfr_0
            refine pw_blk hT 1 (S' := (65, [some (pvR 124), some (pvI n1), some (pvI n2), some (pvJ n3), none], [pvI 1], M46_)) rfl ⟨trivial, trivial⟩ ?_
            exact pw_ret hT rfl (r := some (pvI 1)) (M' := M46_) ⟨rfl, rfl⟩ ⟨⟨_, rfl, (zr_wide (show 1 ≤ Int32.toInt 1 ∧ Int32.toInt 1 ≤ 1 from (by decide)) (by decide) (by decide))⟩, o48_, f49_⟩
      · have b50_ : (-1) ≤ Int32.toInt (M.1 164 (Int32.toNatClampNeg n1)) ∧ Int32.toInt (M.1 164 (Int32.toNatClampNeg n1)) ≤ (-1) := zr_nle_r (-1) c16_ b15_ (show 0 ≤ Int32.toInt 0 ∧ Int32.toInt 0 ≤ 0 from (by decide)) (by decide)
        refine pw_blk hT 1 (S' := (21, [some (pvR 124), some (pvI n1), some (pvI n2), some (pvJ n3), none], [pvI (-11)], M)) rfl ⟨trivial, trivial⟩ ?_
        exact pw_ret hT rfl (r := some (pvI (-11))) (M' := M) ⟨rfl, rfl⟩ ⟨⟨_, rfl, (zr_wide (show (-11) ≤ Int32.toInt (-11) ∧ Int32.toInt (-11) ≤ (-11) from (by decide)) (by decide) (by decide))⟩, hok, pvfr_0⟩
set_option maxHeartbeats 4000000 in
set_option maxRecDepth 10000 in
theorem sf_X10_judge_124_x_x (M : pvM) (hok : pvOk M) (n1 : Int32) (n2 : Int32) (d : Nat) : PW 44 d (0, [some (pvR 124), some (pvI n1), some (pvI n2), none], [], M) (fun r X => (∃ x : Int32, r = some (pvI x) ∧ (-12) ≤ Int32.toInt x ∧ Int32.toInt x ≤ 106) ∧ X = M) := by
  have hT : pvdom 44 = pvD_44 := rfl
  refine pw_blk hT 2 (S' := (2, [some (pvR 124), some (pvI n1), some (pvI n2), none], [pvI n1, pvR 124], M)) rfl ⟨trivial, trivial, trivial⟩ ?_
  refine pw_callT hT (as := [pvR 124, pvI n1]) (lo1 := [some (pvR 124), some (pvI n1)]) (d1 := d) (rest := []) rfl rfl rfl rfl rfl (fun _ => rfl) (Nat.zero_le _) rfl rfl rfl (sf_X10_isTape_124_x M hok n1 d) ?_
  by_cases c6_ : n1 < 0
  · refine pw_eqI (if_pos c6_) ?_
    have b7_ : (-2147483648) ≤ Int32.toInt n1 ∧ Int32.toInt n1 ≤ (-1) := zr_lt_l (-1) c6_ (zbnd n1) (show 0 ≤ Int32.toInt 0 ∧ Int32.toInt 0 ≤ 0 from (by decide)) (by decide)
    show PW 44 d (5, [some (pvR 124), some (pvI n1), some (pvI n2), none], [pvI 0], M) _
    refine pw_ifn hT (c := 0 = 0) rfl rfl (fun c8_ => absurd (by decide) c8_) (fun c8_ => ?_)
    refine pw_blk hT 1 (S' := (9, [some (pvR 124), some (pvI n1), some (pvI n2), none], [pvI (-1)], M)) rfl ⟨trivial, trivial⟩ ?_
    exact pw_ret hT rfl (r := some (pvI (-1))) (M' := M) ⟨rfl, rfl⟩ ⟨⟨_, rfl, (zr_wide (show (-1) ≤ Int32.toInt (-1) ∧ Int32.toInt (-1) ≤ (-1) from (by decide)) (by decide) (by decide))⟩, rfl⟩
  · refine pw_eqI (if_neg c6_) ?_
    have b9_ : 0 ≤ Int32.toInt n1 ∧ Int32.toInt n1 ≤ 2147483647 := zr_nlt_l 0 c6_ (zbnd n1) (show 0 ≤ Int32.toInt 0 ∧ Int32.toInt 0 ≤ 0 from (by decide)) (by decide)
    by_cases c10_ : 5 < n1
    · refine pw_eqI (if_pos c10_) ?_
      have b11_ : 6 ≤ Int32.toInt n1 ∧ Int32.toInt n1 ≤ 2147483647 := zr_lt_r 6 c10_ b9_ (show 5 ≤ Int32.toInt 5 ∧ Int32.toInt 5 ≤ 5 from (by decide)) (by decide)
      show PW 44 d (5, [some (pvR 124), some (pvI n1), some (pvI n2), none], [pvI 0], M) _
      refine pw_ifn hT (c := 0 = 0) rfl rfl (fun c12_ => absurd (by decide) c12_) (fun c12_ => ?_)
      refine pw_blk hT 1 (S' := (9, [some (pvR 124), some (pvI n1), some (pvI n2), none], [pvI (-1)], M)) rfl ⟨trivial, trivial⟩ ?_
      exact pw_ret hT rfl (r := some (pvI (-1))) (M' := M) ⟨rfl, rfl⟩ ⟨⟨_, rfl, (zr_wide (show (-1) ≤ Int32.toInt (-1) ∧ Int32.toInt (-1) ≤ (-1) from (by decide)) (by decide) (by decide))⟩, rfl⟩
    · refine pw_eqI (if_neg c10_) ?_
      have b13_ : 0 ≤ Int32.toInt n1 ∧ Int32.toInt n1 ≤ 5 := zr_nlt_r 5 c10_ b9_ (show 5 ≤ Int32.toInt 5 ∧ Int32.toInt 5 ≤ 5 from (by decide)) (by decide)
      show PW 44 d (5, [some (pvR 124), some (pvI n1), some (pvI n2), none], [pvI 1], M) _
      refine pw_ifn hT (c := 1 = 0) rfl rfl (fun c14_ => ?_) (fun c14_ => absurd c14_ (by decide))
      have b15_ : (-1) ≤ Int32.toInt (M.1 164 (Int32.toNatClampNeg n1)) ∧ Int32.toInt (M.1 164 (Int32.toNatClampNeg n1)) ≤ 4 := pvok_r hok 164 (Int32.toNatClampNeg n1) rfl
      refine pw_blk hT 4 (S' := (16, [some (pvR 124), some (pvI n1), some (pvI n2), none], [pvI (M.1 164 (Int32.toNatClampNeg n1))], M)) rfl ⟨trivial, rfl, trivial, ⟨rfl, (zr_in (n := 6) b13_ (by decide) (by decide))⟩, trivial⟩ ?_
      refine pw_if hT (c := (M.1 164 (Int32.toNatClampNeg n1)) < 0) rfl rfl (fun c16_ => ?_) (fun c16_ => ?_)
      · have b17_ : (-1) ≤ Int32.toInt (M.1 164 (Int32.toNatClampNeg n1)) ∧ Int32.toInt (M.1 164 (Int32.toNatClampNeg n1)) ≤ (-1) := zr_lt_l (-1) c16_ b15_ (show 0 ≤ Int32.toInt 0 ∧ Int32.toInt 0 ≤ 0 from (by decide)) (by decide)
        refine pw_blk hT 2 (S' := (34, [some (pvR 124), some (pvI n1), some (pvI n2), some (pvI 0)], [], M)) rfl ⟨trivial, trivial, trivial⟩ ?_
        have hlz28_ : ∀ (nz28_ : Nat) (i3z28_ : Int32), (0 ≤ Int32.toInt i3z28_ ∧ Int32.toInt i3z28_ ≤ 0) → (zhide (0 < nz28_)) → PW 44 d (34, [some (pvR 124), some (pvI n1), some (pvI n2), some (pvI i3z28_)], [], M) (fun r X => (∃ x : Int32, r = some (pvI x) ∧ (-12) ≤ Int32.toInt x ∧ Int32.toInt x ≤ 106) ∧ X = M) := by
          intro nz28_
          induction nz28_ with
          | zero => intro i3z28_ h3z28_ hmz28_; exact absurd (zshow hmz28_) (Nat.not_lt_zero _)
          | succ nz28_ ihz28_ =>
            intro i3z28_ h3z28_ hmz28_
            have b29_ : 0 ≤ Int32.toInt (M.1 124 0) ∧ Int32.toInt (M.1 124 0) ≤ 7 := pvok_r hok 124 0 rfl
            refine pw_blk hT 3 (S' := (39, [some (pvR 124), some (pvI n1), some (pvI n2), some (pvI i3z28_)], [pvI (M.1 124 0), pvI i3z28_], M)) rfl ⟨trivial, trivial, rfl, trivial⟩ ?_
            refine pw_ic hT (c := (M.1 124 0) ≤ i3z28_) rfl rfl (fun c30_ => ?_) (fun c30_ => ?_)
            · have b31_ : 0 ≤ Int32.toInt (M.1 124 0) ∧ Int32.toInt (M.1 124 0) ≤ 0 := zr_le_l 0 c30_ b29_ h3z28_ (by decide)
              have d32_ : Int32.toInt (M.1 124 0) ≤ Int32.toInt i3z28_ := (zi_le _ _).mp c30_
              refine pw_blk hT 1 (S' := (115, [some (pvR 124), some (pvI n1), some (pvI n2), some (pvI i3z28_)], [pvI (-5)], M)) rfl ⟨trivial, trivial⟩ ?_
              exact pw_ret hT rfl (r := some (pvI (-5))) (M' := M) ⟨rfl, rfl⟩ ⟨⟨_, rfl, (zr_wide (show (-5) ≤ Int32.toInt (-5) ∧ Int32.toInt (-5) ≤ (-5) from (by decide)) (by decide) (by decide))⟩, rfl⟩
            · have b33_ : 1 ≤ Int32.toInt (M.1 124 0) ∧ Int32.toInt (M.1 124 0) ≤ 7 := zr_nle_l 1 c30_ b29_ h3z28_ (by decide)
              have d34_ : Int32.toInt (M.1 124 0) > Int32.toInt i3z28_ := Int.not_le.mp ((not_congr (zi_le _ _)).mp c30_)
              refine pw_blk hT 4 (S' := (48, [some (pvR 124), some (pvI n1), some (pvI n2), some (pvI i3z28_)], [pvI (M.1 164 (Int32.toNatClampNeg n1))], M)) rfl ⟨trivial, rfl, trivial, ⟨rfl, (zr_in (n := 6) b13_ (by decide) (by decide))⟩, trivial⟩ ?_
              refine pw_if hT (c := (M.1 164 (Int32.toNatClampNeg n1)) < 0) rfl rfl (fun c35_ => ?_) (fun c35_ => absurd c16_ c35_)
              obtain ⟨q37_, b36_⟩ : (Int32.toInt (100 + i3z28_) = 100 + Int32.toInt i3z28_) ∧ (100 ≤ Int32.toInt (100 + i3z28_) ∧ Int32.toInt (100 + i3z28_) ≤ 100) := zadd_q 100 i3z28_ 100 100 100 h3z28_ (by decide) (by decide) (by decide) (by decide) (by decide)
              refine pw_blk hT 3 (S' := (73, [some (pvR 124), some (pvI n1), some (pvI n2), some (pvI i3z28_)], [pvI (100 + i3z28_)], M)) rfl ⟨trivial, trivial, trivial, trivial⟩ ?_
              exact pw_ret hT rfl (r := some (pvI (100 + i3z28_))) (M' := M) ⟨rfl, rfl⟩ ⟨⟨_, rfl, (zr_wide b36_ (by decide) (by decide))⟩, rfl⟩
        exact hlz28_ _ 0 (show 0 ≤ Int32.toInt 0 ∧ Int32.toInt 0 ≤ 0 from (by decide)) (zhid (Nat.lt_succ_self _))
      · have b38_ : 0 ≤ Int32.toInt (M.1 164 (Int32.toNatClampNeg n1)) ∧ Int32.toInt (M.1 164 (Int32.toNatClampNeg n1)) ≤ 4 := zr_nlt_l 0 c16_ b15_ (show 0 ≤ Int32.toInt 0 ∧ Int32.toInt 0 ≤ 0 from (by decide)) (by decide)
        refine pw_blk hT 5 (S' := (26, [some (pvR 124), some (pvI n1), some (pvI n2), none], [pvI 4, pvI (M.1 164 (Int32.toNatClampNeg n1))], M)) rfl ⟨trivial, rfl, trivial, ⟨rfl, (zr_in (n := 6) b13_ (by decide) (by decide))⟩, trivial, trivial⟩ ?_
        refine pw_ic hT (c := (M.1 164 (Int32.toNatClampNeg n1)) = 4) rfl rfl (fun c39_ => ?_) (fun c39_ => ?_)
        · have b40_ : 4 ≤ Int32.toInt (M.1 164 (Int32.toNatClampNeg n1)) ∧ Int32.toInt (M.1 164 (Int32.toNatClampNeg n1)) ≤ 4 := (by have u0 := b38_; have u1 := (zi_eq _ _).mp c39_; have u2 := (show 4 ≤ Int32.toInt 4 ∧ Int32.toInt 4 ≤ 4 from (by decide)); omega)
          refine pw_blk hT 2 (S' := (34, [some (pvR 124), some (pvI n1), some (pvI n2), some (pvI 0)], [], M)) rfl ⟨trivial, trivial, trivial⟩ ?_
          have hlz170_ : ∀ (nz170_ : Nat) (i3z170_ : Int32), (0 ≤ Int32.toInt i3z170_ ∧ Int32.toInt i3z170_ ≤ 7) → (zhide ((8 - Int32.toInt i3z170_).toNat < nz170_)) → PW 44 d (34, [some (pvR 124), some (pvI n1), some (pvI n2), some (pvI i3z170_)], [], M) (fun r X => (∃ x : Int32, r = some (pvI x) ∧ (-12) ≤ Int32.toInt x ∧ Int32.toInt x ≤ 106) ∧ X = M) := by
            intro nz170_
            induction nz170_ with
            | zero => intro i3z170_ h3z170_ hmz170_; exact absurd (zshow hmz170_) (Nat.not_lt_zero _)
            | succ nz170_ ihz170_ =>
              intro i3z170_ h3z170_ hmz170_
              have b171_ : 0 ≤ Int32.toInt (M.1 124 0) ∧ Int32.toInt (M.1 124 0) ≤ 7 := pvok_r hok 124 0 rfl
              refine pw_blk hT 3 (S' := (39, [some (pvR 124), some (pvI n1), some (pvI n2), some (pvI i3z170_)], [pvI (M.1 124 0), pvI i3z170_], M)) rfl ⟨trivial, trivial, rfl, trivial⟩ ?_
              refine pw_ic hT (c := (M.1 124 0) ≤ i3z170_) rfl rfl (fun c172_ => ?_) (fun c172_ => ?_)
              · have d173_ : Int32.toInt (M.1 124 0) ≤ Int32.toInt i3z170_ := (zi_le _ _).mp c172_
                refine pw_blk hT 1 (S' := (115, [some (pvR 124), some (pvI n1), some (pvI n2), some (pvI i3z170_)], [pvI (-5)], M)) rfl ⟨trivial, trivial⟩ ?_
                exact pw_ret hT rfl (r := some (pvI (-5))) (M' := M) ⟨rfl, rfl⟩ ⟨⟨_, rfl, (zr_wide (show (-5) ≤ Int32.toInt (-5) ∧ Int32.toInt (-5) ≤ (-5) from (by decide)) (by decide) (by decide))⟩, rfl⟩
              · have b174_ : 1 ≤ Int32.toInt (M.1 124 0) ∧ Int32.toInt (M.1 124 0) ≤ 7 := zr_nle_l 1 c172_ b171_ h3z170_ (by decide)
                have b175_ : 0 ≤ Int32.toInt i3z170_ ∧ Int32.toInt i3z170_ ≤ 6 := zr_nle_r 6 c172_ h3z170_ b174_ (by decide)
                have d176_ : Int32.toInt (M.1 124 0) > Int32.toInt i3z170_ := Int.not_le.mp ((not_congr (zi_le _ _)).mp c172_)
                refine pw_blk hT 4 (S' := (48, [some (pvR 124), some (pvI n1), some (pvI n2), some (pvI i3z170_)], [pvI (M.1 164 (Int32.toNatClampNeg n1))], M)) rfl ⟨trivial, rfl, trivial, ⟨rfl, (zr_in (n := 6) b13_ (by decide) (by decide))⟩, trivial⟩ ?_
                refine pw_if hT (c := (M.1 164 (Int32.toNatClampNeg n1)) < 0) rfl rfl (fun c177_ => absurd c177_ c16_) (fun c177_ => ?_)
                refine pw_blk hT 1 (S' := (52, [some (pvR 124), some (pvI n1), some (pvI n2), some (pvI i3z170_)], [pvI n2], M)) rfl ⟨trivial, trivial⟩ ?_
                refine pw_if hT (c := n2 < 0) rfl rfl (fun c178_ => ?_) (fun c178_ => ?_)
                · have b179_ : (-2147483648) ≤ Int32.toInt n2 ∧ Int32.toInt n2 ≤ (-1) := zr_lt_l (-1) c178_ (zbnd n2) (show 0 ≤ Int32.toInt 0 ∧ Int32.toInt 0 ≤ 0 from (by decide)) (by decide)
                  obtain ⟨q181_, b180_⟩ : (Int32.toInt (100 + i3z170_) = 100 + Int32.toInt i3z170_) ∧ (100 ≤ Int32.toInt (100 + i3z170_) ∧ Int32.toInt (100 + i3z170_) ≤ 106) := zadd_q 100 i3z170_ 100 100 106 b175_ (by decide) (by decide) (by decide) (by decide) (by decide)
                  refine pw_blk hT 3 (S' := (73, [some (pvR 124), some (pvI n1), some (pvI n2), some (pvI i3z170_)], [pvI (100 + i3z170_)], M)) rfl ⟨trivial, trivial, trivial, trivial⟩ ?_
                  exact pw_ret hT rfl (r := some (pvI (100 + i3z170_))) (M' := M) ⟨rfl, rfl⟩ ⟨⟨_, rfl, (zr_wide b180_ (by decide) (by decide))⟩, rfl⟩
                · have b182_ : 0 ≤ Int32.toInt n2 ∧ Int32.toInt n2 ≤ 2147483647 := zr_nlt_l 0 c178_ (zbnd n2) (show 0 ≤ Int32.toInt 0 ∧ Int32.toInt 0 ≤ 0 from (by decide)) (by decide)
                  have b183_ : 0 ≤ Int32.toInt (M.1 165 (Int32.toNatClampNeg n1)) ∧ Int32.toInt (M.1 165 (Int32.toNatClampNeg n1)) ≤ 60 := pvok_r hok 165 (Int32.toNatClampNeg n1) rfl
                  obtain ⟨q185_, b184_⟩ : (Int32.toInt ((M.1 165 (Int32.toNatClampNeg n1)) - i3z170_) = Int32.toInt (M.1 165 (Int32.toNatClampNeg n1)) - Int32.toInt i3z170_) ∧ ((-6) ≤ Int32.toInt ((M.1 165 (Int32.toNatClampNeg n1)) - i3z170_) ∧ Int32.toInt ((M.1 165 (Int32.toNatClampNeg n1)) - i3z170_) ≤ 60) := zsub_r (M.1 165 (Int32.toNatClampNeg n1)) i3z170_ (-6) 60 b183_ b175_ (by decide) (by decide) (by decide) (by decide)
                  obtain ⟨q187_, b186_⟩ : (Int32.toInt (((M.1 165 (Int32.toNatClampNeg n1)) - i3z170_) - 1) = Int32.toInt ((M.1 165 (Int32.toNatClampNeg n1)) - i3z170_) - 1) ∧ ((-7) ≤ Int32.toInt (((M.1 165 (Int32.toNatClampNeg n1)) - i3z170_) - 1) ∧ Int32.toInt (((M.1 165 (Int32.toNatClampNeg n1)) - i3z170_) - 1) ≤ 59) := zsub_k ((M.1 165 (Int32.toNatClampNeg n1)) - i3z170_) 1 1 (-7) 59 b184_ (by decide) (by decide) (by decide) (by decide) (by decide)
                  refine pw_blk hT 9 (S' := (66, [some (pvR 124), some (pvI n1), some (pvI n2), some (pvI i3z170_)], [pvI (((M.1 165 (Int32.toNatClampNeg n1)) - i3z170_) - 1), pvI n2], M)) rfl ⟨trivial, trivial, rfl, trivial, ⟨rfl, (zr_in (n := 6) b13_ (by decide) (by decide))⟩, trivial, trivial, trivial, trivial, trivial⟩ ?_
                  refine pw_ic hT (c := n2 ≤ (((M.1 165 (Int32.toNatClampNeg n1)) - i3z170_) - 1)) rfl rfl (fun c188_ => ?_) (fun c188_ => ?_)
                  · have b189_ : 0 ≤ Int32.toInt n2 ∧ Int32.toInt n2 ≤ 59 := zr_le_l 59 c188_ b182_ b186_ (by decide)
                    have b190_ : 0 ≤ Int32.toInt (((M.1 165 (Int32.toNatClampNeg n1)) - i3z170_) - 1) ∧ Int32.toInt (((M.1 165 (Int32.toNatClampNeg n1)) - i3z170_) - 1) ≤ 59 := zr_le_r 0 c188_ b186_ b189_ (by decide)
                    have d191_ : Int32.toInt n2 ≤ Int32.toInt (((M.1 165 (Int32.toNatClampNeg n1)) - i3z170_) - 1) := (zi_le _ _).mp c188_
                    have q192_ : Int32.toInt (60 * n1) = 60 * Int32.toInt n1 := by have u0 : Int32.toInt 60 = 60 := (by decide); have u1 := b13_; have u2 := zmul 60 n1 (by rw [u0]; omega) (by rw [u0]; omega); rw [u0] at u2; omega
                    have b193_ : 0 ≤ Int32.toInt (60 * n1) ∧ Int32.toInt (60 * n1) ≤ 300 := (by have u1 := b13_; omega)
                    obtain ⟨q195_, b194_⟩ : (Int32.toInt ((60 * n1) + n2) = Int32.toInt (60 * n1) + Int32.toInt n2) ∧ (0 ≤ Int32.toInt ((60 * n1) + n2) ∧ Int32.toInt ((60 * n1) + n2) ≤ 359) := zadd_r (60 * n1) n2 0 359 b193_ b189_ (by decide) (by decide) (by decide) (by decide)
                    obtain ⟨q197_, b196_⟩ : (Int32.toInt (((60 * n1) + n2) + i3z170_) = Int32.toInt ((60 * n1) + n2) + Int32.toInt i3z170_) ∧ (0 ≤ Int32.toInt (((60 * n1) + n2) + i3z170_) ∧ Int32.toInt (((60 * n1) + n2) + i3z170_) ≤ 365) := zadd_r ((60 * n1) + n2) i3z170_ 0 365 b194_ b175_ (by decide) (by decide) (by decide) (by decide)
                    have b198_ : 0 ≤ Int32.toInt (M.1 131 (Int32.toNatClampNeg i3z170_)) ∧ Int32.toInt (M.1 131 (Int32.toNatClampNeg i3z170_)) ≤ 1 := pvok_r hok 131 (Int32.toNatClampNeg i3z170_) rfl
                    refine pw_blk hT 14 (S' := (93, [some (pvR 124), some (pvI n1), some (pvI n2), some (pvI i3z170_)], [pvI (M.1 131 (Int32.toNatClampNeg i3z170_)), pvJ (M.2 166 (Int32.toNatClampNeg (((60 * n1) + n2) + i3z170_)))], M)) rfl ⟨trivial, rfl, trivial, trivial, trivial, trivial, trivial, trivial, trivial, ⟨rfl, (vp_in_iff.mpr (show 0 ≤ Int32.toInt (((60 * n1) + n2) + i3z170_) ∧ Int32.toInt (((60 * n1) + n2) + i3z170_) < ((360 : Nat) : Int) from (by have u0 := b196_; omega)))⟩, trivial, rfl, trivial, ⟨rfl, (zr_in (n := 7) b175_ (by decide) (by decide))⟩, trivial⟩ ?_
                    refine pw_if hT (c := (M.1 131 (Int32.toNatClampNeg i3z170_)) = 0) rfl rfl (fun c199_ => ?_) (fun c199_ => ?_)
                    · have b200_ : 0 ≤ Int32.toInt (M.1 131 (Int32.toNatClampNeg i3z170_)) ∧ Int32.toInt (M.1 131 (Int32.toNatClampNeg i3z170_)) ≤ 0 := (by have u0 := b198_; have u1 := (zi_eq _ _).mp c199_; have u2 := (show 0 ≤ Int32.toInt 0 ∧ Int32.toInt 0 ≤ 0 from (by decide)); omega)
                      refine pw_blk hT 2 (S' := (102, [some (pvR 124), some (pvI n1), some (pvI n2), some (pvI i3z170_)], [pvI (lg_cmp (M.2 166 (Int32.toNatClampNeg (((60 * n1) + n2) + i3z170_))) 0)], M)) rfl ⟨trivial, trivial, trivial⟩ ?_
                      refine pw_if hT (c := (lg_cmp (M.2 166 (Int32.toNatClampNeg (((60 * n1) + n2) + i3z170_))) 0) = 0) rfl rfl (fun c201_ => ?_) (fun c201_ => ?_)
                      · have b202_ : 0 ≤ Int32.toInt (lg_cmp (M.2 166 (Int32.toNatClampNeg (((60 * n1) + n2) + i3z170_))) 0) ∧ Int32.toInt (lg_cmp (M.2 166 (Int32.toNatClampNeg (((60 * n1) + n2) + i3z170_))) 0) ≤ 0 := (by have u0 := (zbnd (lg_cmp (M.2 166 (Int32.toNatClampNeg (((60 * n1) + n2) + i3z170_))) 0)); have u1 := (zi_eq _ _).mp c201_; have u2 := (show 0 ≤ Int32.toInt 0 ∧ Int32.toInt 0 ≤ 0 from (by decide)); omega)
                        obtain ⟨q204_, b203_⟩ : (Int32.toInt (i3z170_ + 1) = Int32.toInt i3z170_ + 1) ∧ (1 ≤ Int32.toInt (i3z170_ + 1) ∧ Int32.toInt (i3z170_ + 1) ≤ 7) := zadd_k i3z170_ 1 1 1 7 b175_ (by decide) (by decide) (by decide) (by decide) (by decide)
                        refine pw_blk hT 2 (S' := (34, [some (pvR 124), some (pvI n1), some (pvI n2), some (pvI (i3z170_ + 1))], [], M)) rfl ⟨trivial, trivial, trivial⟩ ?_
                        exact ihz170_ (i3z170_ + 1) (zr_wide b203_ (by decide) (by decide)) (zhid (pvms_up (zshow hmz170_) h3z170_ q204_ (by decide) (by decide)))
                      · refine pw_blk hT 1 (S' := (106, [some (pvR 124), some (pvI n1), some (pvI n2), some (pvI i3z170_)], [pvI i3z170_], M)) rfl ⟨trivial, trivial⟩ ?_
                        exact pw_ret hT rfl (r := some (pvI i3z170_)) (M' := M) ⟨rfl, rfl⟩ ⟨⟨_, rfl, (zr_wide b175_ (by decide) (by decide))⟩, rfl⟩
                    · have b205_ : 1 ≤ Int32.toInt (M.1 131 (Int32.toNatClampNeg i3z170_)) ∧ Int32.toInt (M.1 131 (Int32.toNatClampNeg i3z170_)) ≤ 1 := (by have u0 := b198_; have u1 := (not_congr (zi_eq _ _)).mp c199_; have u2 := (show 0 ≤ Int32.toInt 0 ∧ Int32.toInt 0 ≤ 0 from (by decide)); omega)
                      refine pw_blk hT 3 (S' := (102, [some (pvR 124), some (pvI n1), some (pvI n2), some (pvI i3z170_)], [pvI (lg_cmp (M.2 166 (Int32.toNatClampNeg (((60 * n1) + n2) + i3z170_))) 1)], M)) rfl ⟨trivial, trivial, trivial, trivial⟩ ?_
                      refine pw_if hT (c := (lg_cmp (M.2 166 (Int32.toNatClampNeg (((60 * n1) + n2) + i3z170_))) 1) = 0) rfl rfl (fun c206_ => ?_) (fun c206_ => ?_)
                      · have b207_ : 0 ≤ Int32.toInt (lg_cmp (M.2 166 (Int32.toNatClampNeg (((60 * n1) + n2) + i3z170_))) 1) ∧ Int32.toInt (lg_cmp (M.2 166 (Int32.toNatClampNeg (((60 * n1) + n2) + i3z170_))) 1) ≤ 0 := (by have u0 := (zbnd (lg_cmp (M.2 166 (Int32.toNatClampNeg (((60 * n1) + n2) + i3z170_))) 1)); have u1 := (zi_eq _ _).mp c206_; have u2 := (show 0 ≤ Int32.toInt 0 ∧ Int32.toInt 0 ≤ 0 from (by decide)); omega)
                        obtain ⟨q209_, b208_⟩ : (Int32.toInt (i3z170_ + 1) = Int32.toInt i3z170_ + 1) ∧ (1 ≤ Int32.toInt (i3z170_ + 1) ∧ Int32.toInt (i3z170_ + 1) ≤ 7) := zadd_k i3z170_ 1 1 1 7 b175_ (by decide) (by decide) (by decide) (by decide) (by decide)
                        refine pw_blk hT 2 (S' := (34, [some (pvR 124), some (pvI n1), some (pvI n2), some (pvI (i3z170_ + 1))], [], M)) rfl ⟨trivial, trivial, trivial⟩ ?_
                        exact ihz170_ (i3z170_ + 1) (zr_wide b208_ (by decide) (by decide)) (zhid (pvms_up (zshow hmz170_) h3z170_ q209_ (by decide) (by decide)))
                      · refine pw_blk hT 1 (S' := (106, [some (pvR 124), some (pvI n1), some (pvI n2), some (pvI i3z170_)], [pvI i3z170_], M)) rfl ⟨trivial, trivial⟩ ?_
                        exact pw_ret hT rfl (r := some (pvI i3z170_)) (M' := M) ⟨rfl, rfl⟩ ⟨⟨_, rfl, (zr_wide b175_ (by decide) (by decide))⟩, rfl⟩
                  · have d210_ : Int32.toInt n2 > Int32.toInt (((M.1 165 (Int32.toNatClampNeg n1)) - i3z170_) - 1) := Int.not_le.mp ((not_congr (zi_le _ _)).mp c188_)
                    obtain ⟨q212_, b211_⟩ : (Int32.toInt (100 + i3z170_) = 100 + Int32.toInt i3z170_) ∧ (100 ≤ Int32.toInt (100 + i3z170_) ∧ Int32.toInt (100 + i3z170_) ≤ 106) := zadd_q 100 i3z170_ 100 100 106 b175_ (by decide) (by decide) (by decide) (by decide) (by decide)
                    refine pw_blk hT 3 (S' := (73, [some (pvR 124), some (pvI n1), some (pvI n2), some (pvI i3z170_)], [pvI (100 + i3z170_)], M)) rfl ⟨trivial, trivial, trivial, trivial⟩ ?_
                    exact pw_ret hT rfl (r := some (pvI (100 + i3z170_))) (M' := M) ⟨rfl, rfl⟩ ⟨⟨_, rfl, (zr_wide b211_ (by decide) (by decide))⟩, rfl⟩
          exact hlz170_ _ 0 (zr_wide (show 0 ≤ Int32.toInt 0 ∧ Int32.toInt 0 ≤ 0 from (by decide)) (by decide) (by decide)) (zhid (Nat.lt_succ_self _))
        · have b213_ : 0 ≤ Int32.toInt (M.1 164 (Int32.toNatClampNeg n1)) ∧ Int32.toInt (M.1 164 (Int32.toNatClampNeg n1)) ≤ 3 := (by have u0 := b38_; have u1 := (not_congr (zi_eq _ _)).mp c39_; have u2 := (show 4 ≤ Int32.toInt 4 ∧ Int32.toInt 4 ≤ 4 from (by decide)); omega)
          refine pw_blk hT 1 (S' := (31, [some (pvR 124), some (pvI n1), some (pvI n2), none], [pvI (-12)], M)) rfl ⟨trivial, trivial⟩ ?_
          exact pw_ret hT rfl (r := some (pvI (-12))) (M' := M) ⟨rfl, rfl⟩ ⟨⟨_, rfl, (zr_wide (show (-12) ≤ Int32.toInt (-12) ∧ Int32.toInt (-12) ≤ (-12) from (by decide)) (by decide) (by decide))⟩, rfl⟩
