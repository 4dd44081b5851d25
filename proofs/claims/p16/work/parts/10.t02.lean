set_option maxHeartbeats 4000000 in
set_option maxRecDepth 10000 in
theorem sf_X3_above_3 (M : pvM) (hok : pvOk M) (d : Nat) : PW 131 d (0, [some (pvI 3)], [], M) (fun r X => r = some (pvI (((pvstab 1040).getD (Int32.toNatClampNeg 3) 0))) ∧ X = M) := by
  have hT : pvdom 131 = pvD_131 := rfl
  refine pw_blk hT 1 (S' := (1, [some (pvI 3)], [pvI 3], M)) rfl ⟨trivial, trivial⟩ ?_
  refine pw_if hT (c := 3 < 0) rfl rfl (fun c1_ => absurd c1_ (by decide)) (fun c1_ => ?_)
  refine pw_blk hT 3 (S' := (9, [some (pvI 3)], [pvI (Int32.ofNat (pvstab 1040).length), pvI 3], M)) rfl ⟨trivial, trivial, (by decide), trivial⟩ ?_
  refine pw_ic hT (c := 3 < (Int32.ofNat (pvstab 1040).length)) rfl rfl (fun c2_ => ?_) (fun c2_ => absurd (by decide) c2_)
  refine pw_blk hT 3 (S' := (21, [some (pvI 3)], [pvI ((pvstab 1040).getD (Int32.toNatClampNeg 3) 0)], M)) rfl ⟨trivial, trivial, ⟨by decide, (zr_in (n := 7) (show 3 ≤ Int32.toInt 3 ∧ Int32.toInt 3 ≤ 3 from (by decide)) (by decide) (by decide))⟩, trivial⟩ ?_
  exact pw_ret hT rfl (r := some (pvI ((pvstab 1040).getD (Int32.toNatClampNeg 3) 0))) (M' := M) ⟨rfl, rfl⟩ ⟨rfl, rfl⟩
set_option maxHeartbeats 4000000 in
set_option maxRecDepth 10000 in
theorem sf_X0_bodyFrom_3_0 (M : pvM) (hok : pvOk M) (d : Nat) : PW 1 d (0, [some (pvI 3), some (pvI 0), none, none, none], [], M) (fun r X => r = some (pvI (((pvstab 1041).getD (Int32.toNatClampNeg ((0 * 3) + 0)) 0))) ∧ X = M) := by
  have hT : pvdom 1 = pvD_1 := rfl
  refine pw_blk hT 4 (S' := (4, [some (pvI 3), some (pvI 0), some (pvI 3), some (pvI 0), none], [], M)) rfl ⟨trivial, trivial, trivial, trivial, trivial⟩ ?_
  refine pw_blk hT 3 (S' := (9, [some (pvI 3), some (pvI 0), some (pvI 3), some (pvI 0), none], [pvI (Int32.ofNat (pvstab 1041).length), pvI 0], M)) rfl ⟨trivial, trivial, (by decide), trivial⟩ ?_
  refine pw_ic hT (c := (Int32.ofNat (pvstab 1041).length) ≤ 0) rfl rfl (fun c1_ => absurd c1_ (by decide)) (fun c1_ => ?_)
  refine pw_blk hT 1 (S' := (13, [some (pvI 3), some (pvI 0), some (pvI 3), some (pvI 0), none], [pvI 3], M)) rfl ⟨trivial, trivial⟩ ?_
  refine pw_if hT (c := 3 < 0) rfl rfl (fun c2_ => absurd c2_ (by decide)) (fun c2_ => ?_)
  refine pw_blk hT 7 (S' := (25, [some (pvI 3), some (pvI 0), some (pvI 3), some (pvI 0), some (pvI ((3 * 3) + 0))], [pvI ((3 * 3) + 0)], M)) rfl ⟨trivial, trivial, trivial, trivial, trivial, trivial, trivial, trivial⟩ ?_
  refine pw_if hT (c := ((3 * 3) + 0) < 0) rfl rfl (fun c3_ => absurd c3_ (by decide)) (fun c3_ => ?_)
  refine pw_blk hT 3 (S' := (34, [some (pvI 3), some (pvI 0), some (pvI 3), some (pvI 0), some (pvI ((3 * 3) + 0))], [pvI (Int32.ofNat (pvstab 1041).length), pvI ((3 * 3) + 0)], M)) rfl ⟨trivial, trivial, (by decide), trivial⟩ ?_
  refine pw_ic hT (c := (Int32.ofNat (pvstab 1041).length) ≤ ((3 * 3) + 0)) rfl rfl (fun c4_ => absurd c4_ (by decide)) (fun c4_ => ?_)
  refine pw_blk hT 3 (S' := (43, [some (pvI 3), some (pvI 0), some (pvI 3), some (pvI 0), some (pvI ((3 * 3) + 0))], [pvI ((pvstab 1041).getD (Int32.toNatClampNeg ((3 * 3) + 0)) 0)], M)) rfl ⟨trivial, trivial, ⟨by decide, (zr_in (n := 21) (show 9 ≤ Int32.toInt ((3 * 3) + 0) ∧ Int32.toInt ((3 * 3) + 0) ≤ 9 from (by decide)) (by decide) (by decide))⟩, trivial⟩ ?_
  refine pw_if hT (c := ((pvstab 1041).getD (Int32.toNatClampNeg ((3 * 3) + 0)) 0) = 0) rfl rfl (fun c5_ => ?_) (fun c5_ => absurd (by decide) c5_)
  refine pw_blk hT 1 (S' := (54, [some (pvI 3), some (pvI 0), some (pvI 3), some (pvI 0), some (pvI ((3 * 3) + 0))], [pvI 3], M)) rfl ⟨trivial, trivial⟩ ?_
  refine pw_callT hT (as := [pvI 3]) (lo1 := [some (pvI 3)]) (d1 := d) (rest := []) rfl rfl rfl rfl rfl (fun h => absurd h (by decide)) (Nat.zero_le _) rfl rfl rfl (sf_X3_above_3 M hok d) ?_
  refine pw_eqI (show ((pvstab 1040).getD (Int32.toNatClampNeg 3) 0) = 0 from by decide) ?_
  show PW 1 d (57, [some (pvI 3), some (pvI 0), some (pvI 3), some (pvI 0), some (pvI ((3 * 3) + 0))], [pvI 0], M) _
  refine pw_blk hT 3 (S' := (4, [some (pvI 3), some (pvI 0), some (pvI 0), some (pvI (0 + 1)), some (pvI ((3 * 3) + 0))], [], M)) rfl ⟨trivial, trivial, trivial, trivial⟩ ?_
  refine pw_blk hT 3 (S' := (9, [some (pvI 3), some (pvI 0), some (pvI 0), some (pvI (0 + 1)), some (pvI ((3 * 3) + 0))], [pvI (Int32.ofNat (pvstab 1041).length), pvI (0 + 1)], M)) rfl ⟨trivial, trivial, (by decide), trivial⟩ ?_
  refine pw_ic hT (c := (Int32.ofNat (pvstab 1041).length) ≤ (0 + 1)) rfl rfl (fun c11_ => absurd c11_ (by decide)) (fun c11_ => ?_)
  refine pw_blk hT 1 (S' := (13, [some (pvI 3), some (pvI 0), some (pvI 0), some (pvI (0 + 1)), some (pvI ((3 * 3) + 0))], [pvI 0], M)) rfl ⟨trivial, trivial⟩ ?_
  refine pw_if hT (c := 0 < 0) rfl rfl (fun c12_ => absurd c12_ (by decide)) (fun c12_ => ?_)
  refine pw_blk hT 7 (S' := (25, [some (pvI 3), some (pvI 0), some (pvI 0), some (pvI (0 + 1)), some (pvI ((0 * 3) + 0))], [pvI ((0 * 3) + 0)], M)) rfl ⟨trivial, trivial, trivial, trivial, trivial, trivial, trivial, trivial⟩ ?_
  refine pw_if hT (c := ((0 * 3) + 0) < 0) rfl rfl (fun c13_ => absurd c13_ (by decide)) (fun c13_ => ?_)
  refine pw_blk hT 3 (S' := (34, [some (pvI 3), some (pvI 0), some (pvI 0), some (pvI (0 + 1)), some (pvI ((0 * 3) + 0))], [pvI (Int32.ofNat (pvstab 1041).length), pvI ((0 * 3) + 0)], M)) rfl ⟨trivial, trivial, (by decide), trivial⟩ ?_
  refine pw_ic hT (c := (Int32.ofNat (pvstab 1041).length) ≤ ((0 * 3) + 0)) rfl rfl (fun c14_ => absurd c14_ (by decide)) (fun c14_ => ?_)
  refine pw_blk hT 3 (S' := (43, [some (pvI 3), some (pvI 0), some (pvI 0), some (pvI (0 + 1)), some (pvI ((0 * 3) + 0))], [pvI ((pvstab 1041).getD (Int32.toNatClampNeg ((0 * 3) + 0)) 0)], M)) rfl ⟨trivial, trivial, ⟨by decide, (zr_in (n := 21) (show 0 ≤ Int32.toInt ((0 * 3) + 0) ∧ Int32.toInt ((0 * 3) + 0) ≤ 0 from (by decide)) (by decide) (by decide))⟩, trivial⟩ ?_
  refine pw_if hT (c := ((pvstab 1041).getD (Int32.toNatClampNeg ((0 * 3) + 0)) 0) = 0) rfl rfl (fun c15_ => absurd c15_ (by decide)) (fun c15_ => ?_)
  refine pw_blk hT 3 (S' := (52, [some (pvI 3), some (pvI 0), some (pvI 0), some (pvI (0 + 1)), some (pvI ((0 * 3) + 0))], [pvI ((pvstab 1041).getD (Int32.toNatClampNeg ((0 * 3) + 0)) 0)], M)) rfl ⟨trivial, trivial, ⟨by decide, (zr_in (n := 21) (show 0 ≤ Int32.toInt ((0 * 3) + 0) ∧ Int32.toInt ((0 * 3) + 0) ≤ 0 from (by decide)) (by decide) (by decide))⟩, trivial⟩ ?_
  exact pw_ret hT rfl (r := some (pvI ((pvstab 1041).getD (Int32.toNatClampNeg ((0 * 3) + 0)) 0))) (M' := M) ⟨rfl, rfl⟩ ⟨rfl, rfl⟩
set_option maxHeartbeats 4000000 in
set_option maxRecDepth 10000 in
theorem sf_X0_bodyFrom_3_1 (M : pvM) (hok : pvOk M) (d : Nat) : PW 1 d (0, [some (pvI 3), some (pvI 1), none, none, none], [], M) (fun r X => r = some (pvI (((pvstab 1041).getD (Int32.toNatClampNeg ((0 * 3) + 1)) 0))) ∧ X = M) := by
  have hT : pvdom 1 = pvD_1 := rfl
  refine pw_blk hT 4 (S' := (4, [some (pvI 3), some (pvI 1), some (pvI 3), some (pvI 0), none], [], M)) rfl ⟨trivial, trivial, trivial, trivial, trivial⟩ ?_
  refine pw_blk hT 3 (S' := (9, [some (pvI 3), some (pvI 1), some (pvI 3), some (pvI 0), none], [pvI (Int32.ofNat (pvstab 1041).length), pvI 0], M)) rfl ⟨trivial, trivial, (by decide), trivial⟩ ?_
  refine pw_ic hT (c := (Int32.ofNat (pvstab 1041).length) ≤ 0) rfl rfl (fun c1_ => absurd c1_ (by decide)) (fun c1_ => ?_)
  refine pw_blk hT 1 (S' := (13, [some (pvI 3), some (pvI 1), some (pvI 3), some (pvI 0), none], [pvI 3], M)) rfl ⟨trivial, trivial⟩ ?_
  refine pw_if hT (c := 3 < 0) rfl rfl (fun c2_ => absurd c2_ (by decide)) (fun c2_ => ?_)
  refine pw_blk hT 7 (S' := (25, [some (pvI 3), some (pvI 1), some (pvI 3), some (pvI 0), some (pvI ((3 * 3) + 1))], [pvI ((3 * 3) + 1)], M)) rfl ⟨trivial, trivial, trivial, trivial, trivial, trivial, trivial, trivial⟩ ?_
  refine pw_if hT (c := ((3 * 3) + 1) < 0) rfl rfl (fun c3_ => absurd c3_ (by decide)) (fun c3_ => ?_)
  refine pw_blk hT 3 (S' := (34, [some (pvI 3), some (pvI 1), some (pvI 3), some (pvI 0), some (pvI ((3 * 3) + 1))], [pvI (Int32.ofNat (pvstab 1041).length), pvI ((3 * 3) + 1)], M)) rfl ⟨trivial, trivial, (by decide), trivial⟩ ?_
  refine pw_ic hT (c := (Int32.ofNat (pvstab 1041).length) ≤ ((3 * 3) + 1)) rfl rfl (fun c4_ => absurd c4_ (by decide)) (fun c4_ => ?_)
  refine pw_blk hT 3 (S' := (43, [some (pvI 3), some (pvI 1), some (pvI 3), some (pvI 0), some (pvI ((3 * 3) + 1))], [pvI ((pvstab 1041).getD (Int32.toNatClampNeg ((3 * 3) + 1)) 0)], M)) rfl ⟨trivial, trivial, ⟨by decide, (zr_in (n := 21) (show 10 ≤ Int32.toInt ((3 * 3) + 1) ∧ Int32.toInt ((3 * 3) + 1) ≤ 10 from (by decide)) (by decide) (by decide))⟩, trivial⟩ ?_
  refine pw_if hT (c := ((pvstab 1041).getD (Int32.toNatClampNeg ((3 * 3) + 1)) 0) = 0) rfl rfl (fun c5_ => ?_) (fun c5_ => absurd (by decide) c5_)
  refine pw_blk hT 1 (S' := (54, [some (pvI 3), some (pvI 1), some (pvI 3), some (pvI 0), some (pvI ((3 * 3) + 1))], [pvI 3], M)) rfl ⟨trivial, trivial⟩ ?_
  refine pw_callT hT (as := [pvI 3]) (lo1 := [some (pvI 3)]) (d1 := d) (rest := []) rfl rfl rfl rfl rfl (fun h => absurd h (by decide)) (Nat.zero_le _) rfl rfl rfl (sf_X3_above_3 M hok d) ?_
  refine pw_eqI (show ((pvstab 1040).getD (Int32.toNatClampNeg 3) 0) = 0 from by decide) ?_
  show PW 1 d (57, [some (pvI 3), some (pvI 1), some (pvI 3), some (pvI 0), some (pvI ((3 * 3) + 1))], [pvI 0], M) _
  refine pw_blk hT 3 (S' := (4, [some (pvI 3), some (pvI 1), some (pvI 0), some (pvI (0 + 1)), some (pvI ((3 * 3) + 1))], [], M)) rfl ⟨trivial, trivial, trivial, trivial⟩ ?_
  refine pw_blk hT 3 (S' := (9, [some (pvI 3), some (pvI 1), some (pvI 0), some (pvI (0 + 1)), some (pvI ((3 * 3) + 1))], [pvI (Int32.ofNat (pvstab 1041).length), pvI (0 + 1)], M)) rfl ⟨trivial, trivial, (by decide), trivial⟩ ?_
  refine pw_ic hT (c := (Int32.ofNat (pvstab 1041).length) ≤ (0 + 1)) rfl rfl (fun c11_ => absurd c11_ (by decide)) (fun c11_ => ?_)
  refine pw_blk hT 1 (S' := (13, [some (pvI 3), some (pvI 1), some (pvI 0), some (pvI (0 + 1)), some (pvI ((3 * 3) + 1))], [pvI 0], M)) rfl ⟨trivial, trivial⟩ ?_
  refine pw_if hT (c := 0 < 0) rfl rfl (fun c12_ => absurd c12_ (by decide)) (fun c12_ => ?_)
  refine pw_blk hT 7 (S' := (25, [some (pvI 3), some (pvI 1), some (pvI 0), some (pvI (0 + 1)), some (pvI ((0 * 3) + 1))], [pvI ((0 * 3) + 1)], M)) rfl ⟨trivial, trivial, trivial, trivial, trivial, trivial, trivial, trivial⟩ ?_
  refine pw_if hT (c := ((0 * 3) + 1) < 0) rfl rfl (fun c13_ => absurd c13_ (by decide)) (fun c13_ => ?_)
  refine pw_blk hT 3 (S' := (34, [some (pvI 3), some (pvI 1), some (pvI 0), some (pvI (0 + 1)), some (pvI ((0 * 3) + 1))], [pvI (Int32.ofNat (pvstab 1041).length), pvI ((0 * 3) + 1)], M)) rfl ⟨trivial, trivial, (by decide), trivial⟩ ?_
  refine pw_ic hT (c := (Int32.ofNat (pvstab 1041).length) ≤ ((0 * 3) + 1)) rfl rfl (fun c14_ => absurd c14_ (by decide)) (fun c14_ => ?_)
  refine pw_blk hT 3 (S' := (43, [some (pvI 3), some (pvI 1), some (pvI 0), some (pvI (0 + 1)), some (pvI ((0 * 3) + 1))], [pvI ((pvstab 1041).getD (Int32.toNatClampNeg ((0 * 3) + 1)) 0)], M)) rfl ⟨trivial, trivial, ⟨by decide, (zr_in (n := 21) (show 1 ≤ Int32.toInt ((0 * 3) + 1) ∧ Int32.toInt ((0 * 3) + 1) ≤ 1 from (by decide)) (by decide) (by decide))⟩, trivial⟩ ?_
  refine pw_if hT (c := ((pvstab 1041).getD (Int32.toNatClampNeg ((0 * 3) + 1)) 0) = 0) rfl rfl (fun c15_ => absurd c15_ (by decide)) (fun c15_ => ?_)
  refine pw_blk hT 3 (S' := (52, [some (pvI 3), some (pvI 1), some (pvI 0), some (pvI (0 + 1)), some (pvI ((0 * 3) + 1))], [pvI ((pvstab 1041).getD (Int32.toNatClampNeg ((0 * 3) + 1)) 0)], M)) rfl ⟨trivial, trivial, ⟨by decide, (zr_in (n := 21) (show 1 ≤ Int32.toInt ((0 * 3) + 1) ∧ Int32.toInt ((0 * 3) + 1) ≤ 1 from (by decide)) (by decide) (by decide))⟩, trivial⟩ ?_
  exact pw_ret hT rfl (r := some (pvI ((pvstab 1041).getD (Int32.toNatClampNeg ((0 * 3) + 1)) 0))) (M' := M) ⟨rfl, rfl⟩ ⟨rfl, rfl⟩
set_option maxHeartbeats 4000000 in
set_option maxRecDepth 10000 in
theorem sf_X0_bodyFrom_3_2 (M : pvM) (hok : pvOk M) (d : Nat) : PW 1 d (0, [some (pvI 3), some (pvI 2), none, none, none], [], M) (fun r X => r = some (pvI (((pvstab 1041).getD (Int32.toNatClampNeg ((3 * 3) + 2)) 0))) ∧ X = M) := by
  have hT : pvdom 1 = pvD_1 := rfl
  refine pw_blk hT 4 (S' := (4, [some (pvI 3), some (pvI 2), some (pvI 3), some (pvI 0), none], [], M)) rfl ⟨trivial, trivial, trivial, trivial, trivial⟩ ?_
  refine pw_blk hT 3 (S' := (9, [some (pvI 3), some (pvI 2), some (pvI 3), some (pvI 0), none], [pvI (Int32.ofNat (pvstab 1041).length), pvI 0], M)) rfl ⟨trivial, trivial, (by decide), trivial⟩ ?_
  refine pw_ic hT (c := (Int32.ofNat (pvstab 1041).length) ≤ 0) rfl rfl (fun c1_ => absurd c1_ (by decide)) (fun c1_ => ?_)
  refine pw_blk hT 1 (S' := (13, [some (pvI 3), some (pvI 2), some (pvI 3), some (pvI 0), none], [pvI 3], M)) rfl ⟨trivial, trivial⟩ ?_
  refine pw_if hT (c := 3 < 0) rfl rfl (fun c2_ => absurd c2_ (by decide)) (fun c2_ => ?_)
  refine pw_blk hT 7 (S' := (25, [some (pvI 3), some (pvI 2), some (pvI 3), some (pvI 0), some (pvI ((3 * 3) + 2))], [pvI ((3 * 3) + 2)], M)) rfl ⟨trivial, trivial, trivial, trivial, trivial, trivial, trivial, trivial⟩ ?_
  refine pw_if hT (c := ((3 * 3) + 2) < 0) rfl rfl (fun c3_ => absurd c3_ (by decide)) (fun c3_ => ?_)
  refine pw_blk hT 3 (S' := (34, [some (pvI 3), some (pvI 2), some (pvI 3), some (pvI 0), some (pvI ((3 * 3) + 2))], [pvI (Int32.ofNat (pvstab 1041).length), pvI ((3 * 3) + 2)], M)) rfl ⟨trivial, trivial, (by decide), trivial⟩ ?_
  refine pw_ic hT (c := (Int32.ofNat (pvstab 1041).length) ≤ ((3 * 3) + 2)) rfl rfl (fun c4_ => absurd c4_ (by decide)) (fun c4_ => ?_)
  refine pw_blk hT 3 (S' := (43, [some (pvI 3), some (pvI 2), some (pvI 3), some (pvI 0), some (pvI ((3 * 3) + 2))], [pvI ((pvstab 1041).getD (Int32.toNatClampNeg ((3 * 3) + 2)) 0)], M)) rfl ⟨trivial, trivial, ⟨by decide, (zr_in (n := 21) (show 11 ≤ Int32.toInt ((3 * 3) + 2) ∧ Int32.toInt ((3 * 3) + 2) ≤ 11 from (by decide)) (by decide) (by decide))⟩, trivial⟩ ?_
  refine pw_if hT (c := ((pvstab 1041).getD (Int32.toNatClampNeg ((3 * 3) + 2)) 0) = 0) rfl rfl (fun c5_ => absurd c5_ (by decide)) (fun c5_ => ?_)
  refine pw_blk hT 3 (S' := (52, [some (pvI 3), some (pvI 2), some (pvI 3), some (pvI 0), some (pvI ((3 * 3) + 2))], [pvI ((pvstab 1041).getD (Int32.toNatClampNeg ((3 * 3) + 2)) 0)], M)) rfl ⟨trivial, trivial, ⟨by decide, (zr_in (n := 21) (show 11 ≤ Int32.toInt ((3 * 3) + 2) ∧ Int32.toInt ((3 * 3) + 2) ≤ 11 from (by decide)) (by decide) (by decide))⟩, trivial⟩ ?_
  exact pw_ret hT rfl (r := some (pvI ((pvstab 1041).getD (Int32.toNatClampNeg ((3 * 3) + 2)) 0))) (M' := M) ⟨rfl, rfl⟩ ⟨rfl, rfl⟩
set_option maxHeartbeats 4000000 in
set_option maxRecDepth 10000 in
theorem sf_X0_bodyFrom_4_0 (M : pvM) (hok : pvOk M) (d : Nat) : PW 1 d (0, [some (pvI 4), some (pvI 0), none, none, none], [], M) (fun r X => r = some (pvI (((pvstab 1041).getD (Int32.toNatClampNeg ((4 * 3) + 0)) 0))) ∧ X = M) := by
  have hT : pvdom 1 = pvD_1 := rfl
  refine pw_blk hT 4 (S' := (4, [some (pvI 4), some (pvI 0), some (pvI 4), some (pvI 0), none], [], M)) rfl ⟨trivial, trivial, trivial, trivial, trivial⟩ ?_
  refine pw_blk hT 3 (S' := (9, [some (pvI 4), some (pvI 0), some (pvI 4), some (pvI 0), none], [pvI (Int32.ofNat (pvstab 1041).length), pvI 0], M)) rfl ⟨trivial, trivial, (by decide), trivial⟩ ?_
  refine pw_ic hT (c := (Int32.ofNat (pvstab 1041).length) ≤ 0) rfl rfl (fun c1_ => absurd c1_ (by decide)) (fun c1_ => ?_)
  refine pw_blk hT 1 (S' := (13, [some (pvI 4), some (pvI 0), some (pvI 4), some (pvI 0), none], [pvI 4], M)) rfl ⟨trivial, trivial⟩ ?_
  refine pw_if hT (c := 4 < 0) rfl rfl (fun c2_ => absurd c2_ (by decide)) (fun c2_ => ?_)
  refine pw_blk hT 7 (S' := (25, [some (pvI 4), some (pvI 0), some (pvI 4), some (pvI 0), some (pvI ((4 * 3) + 0))], [pvI ((4 * 3) + 0)], M)) rfl ⟨trivial, trivial, trivial, trivial, trivial, trivial, trivial, trivial⟩ ?_
  refine pw_if hT (c := ((4 * 3) + 0) < 0) rfl rfl (fun c3_ => absurd c3_ (by decide)) (fun c3_ => ?_)
  refine pw_blk hT 3 (S' := (34, [some (pvI 4), some (pvI 0), some (pvI 4), some (pvI 0), some (pvI ((4 * 3) + 0))], [pvI (Int32.ofNat (pvstab 1041).length), pvI ((4 * 3) + 0)], M)) rfl ⟨trivial, trivial, (by decide), trivial⟩ ?_
  refine pw_ic hT (c := (Int32.ofNat (pvstab 1041).length) ≤ ((4 * 3) + 0)) rfl rfl (fun c4_ => absurd c4_ (by decide)) (fun c4_ => ?_)
  refine pw_blk hT 3 (S' := (43, [some (pvI 4), some (pvI 0), some (pvI 4), some (pvI 0), some (pvI ((4 * 3) + 0))], [pvI ((pvstab 1041).getD (Int32.toNatClampNeg ((4 * 3) + 0)) 0)], M)) rfl ⟨trivial, trivial, ⟨by decide, (zr_in (n := 21) (show 12 ≤ Int32.toInt ((4 * 3) + 0) ∧ Int32.toInt ((4 * 3) + 0) ≤ 12 from (by decide)) (by decide) (by decide))⟩, trivial⟩ ?_
  refine pw_if hT (c := ((pvstab 1041).getD (Int32.toNatClampNeg ((4 * 3) + 0)) 0) = 0) rfl rfl (fun c5_ => absurd c5_ (by decide)) (fun c5_ => ?_)
  refine pw_blk hT 3 (S' := (52, [some (pvI 4), some (pvI 0), some (pvI 4), some (pvI 0), some (pvI ((4 * 3) + 0))], [pvI ((pvstab 1041).getD (Int32.toNatClampNeg ((4 * 3) + 0)) 0)], M)) rfl ⟨trivial, trivial, ⟨by decide, (zr_in (n := 21) (show 12 ≤ Int32.toInt ((4 * 3) + 0) ∧ Int32.toInt ((4 * 3) + 0) ≤ 12 from (by decide)) (by decide) (by decide))⟩, trivial⟩ ?_
  exact pw_ret hT rfl (r := some (pvI ((pvstab 1041).getD (Int32.toNatClampNeg ((4 * 3) + 0)) 0))) (M' := M) ⟨rfl, rfl⟩ ⟨rfl, rfl⟩
set_option maxHeartbeats 4000000 in
set_option maxRecDepth 10000 in
theorem sf_X0_bodyFrom_4_1 (M : pvM) (hok : pvOk M) (d : Nat) : PW 1 d (0, [some (pvI 4), some (pvI 1), none, none, none], [], M) (fun r X => r = some (pvI (((pvstab 1041).getD (Int32.toNatClampNeg ((4 * 3) + 1)) 0))) ∧ X = M) := by
  have hT : pvdom 1 = pvD_1 := rfl
  refine pw_blk hT 4 (S' := (4, [some (pvI 4), some (pvI 1), some (pvI 4), some (pvI 0), none], [], M)) rfl ⟨trivial, trivial, trivial, trivial, trivial⟩ ?_
  refine pw_blk hT 3 (S' := (9, [some (pvI 4), some (pvI 1), some (pvI 4), some (pvI 0), none], [pvI (Int32.ofNat (pvstab 1041).length), pvI 0], M)) rfl ⟨trivial, trivial, (by decide), trivial⟩ ?_
  refine pw_ic hT (c := (Int32.ofNat (pvstab 1041).length) ≤ 0) rfl rfl (fun c1_ => absurd c1_ (by decide)) (fun c1_ => ?_)
  refine pw_blk hT 1 (S' := (13, [some (pvI 4), some (pvI 1), some (pvI 4), some (pvI 0), none], [pvI 4], M)) rfl ⟨trivial, trivial⟩ ?_
  refine pw_if hT (c := 4 < 0) rfl rfl (fun c2_ => absurd c2_ (by decide)) (fun c2_ => ?_)
  refine pw_blk hT 7 (S' := (25, [some (pvI 4), some (pvI 1), some (pvI 4), some (pvI 0), some (pvI ((4 * 3) + 1))], [pvI ((4 * 3) + 1)], M)) rfl ⟨trivial, trivial, trivial, trivial, trivial, trivial, trivial, trivial⟩ ?_
  refine pw_if hT (c := ((4 * 3) + 1) < 0) rfl rfl (fun c3_ => absurd c3_ (by decide)) (fun c3_ => ?_)
  refine pw_blk hT 3 (S' := (34, [some (pvI 4), some (pvI 1), some (pvI 4), some (pvI 0), some (pvI ((4 * 3) + 1))], [pvI (Int32.ofNat (pvstab 1041).length), pvI ((4 * 3) + 1)], M)) rfl ⟨trivial, trivial, (by decide), trivial⟩ ?_
  refine pw_ic hT (c := (Int32.ofNat (pvstab 1041).length) ≤ ((4 * 3) + 1)) rfl rfl (fun c4_ => absurd c4_ (by decide)) (fun c4_ => ?_)
  refine pw_blk hT 3 (S' := (43, [some (pvI 4), some (pvI 1), some (pvI 4), some (pvI 0), some (pvI ((4 * 3) + 1))], [pvI ((pvstab 1041).getD (Int32.toNatClampNeg ((4 * 3) + 1)) 0)], M)) rfl ⟨trivial, trivial, ⟨by decide, (zr_in (n := 21) (show 13 ≤ Int32.toInt ((4 * 3) + 1) ∧ Int32.toInt ((4 * 3) + 1) ≤ 13 from (by decide)) (by decide) (by decide))⟩, trivial⟩ ?_
  refine pw_if hT (c := ((pvstab 1041).getD (Int32.toNatClampNeg ((4 * 3) + 1)) 0) = 0) rfl rfl (fun c5_ => absurd c5_ (by decide)) (fun c5_ => ?_)
  refine pw_blk hT 3 (S' := (52, [some (pvI 4), some (pvI 1), some (pvI 4), some (pvI 0), some (pvI ((4 * 3) + 1))], [pvI ((pvstab 1041).getD (Int32.toNatClampNeg ((4 * 3) + 1)) 0)], M)) rfl ⟨trivial, trivial, ⟨by decide, (zr_in (n := 21) (show 13 ≤ Int32.toInt ((4 * 3) + 1) ∧ Int32.toInt ((4 * 3) + 1) ≤ 13 from (by decide)) (by decide) (by decide))⟩, trivial⟩ ?_
  exact pw_ret hT rfl (r := some (pvI ((pvstab 1041).getD (Int32.toNatClampNeg ((4 * 3) + 1)) 0))) (M' := M) ⟨rfl, rfl⟩ ⟨rfl, rfl⟩
set_option maxHeartbeats 4000000 in
set_option maxRecDepth 10000 in
theorem sf_X3_above_4 (M : pvM) (hok : pvOk M) (d : Nat) : PW 131 d (0, [some (pvI 4)], [], M) (fun r X => r = some (pvI (((pvstab 1040).getD (Int32.toNatClampNeg 4) 0))) ∧ X = M) := by
  have hT : pvdom 131 = pvD_131 := rfl
  refine pw_blk hT 1 (S' := (1, [some (pvI 4)], [pvI 4], M)) rfl ⟨trivial, trivial⟩ ?_
  refine pw_if hT (c := 4 < 0) rfl rfl (fun c1_ => absurd c1_ (by decide)) (fun c1_ => ?_)
  refine pw_blk hT 3 (S' := (9, [some (pvI 4)], [pvI (Int32.ofNat (pvstab 1040).length), pvI 4], M)) rfl ⟨trivial, trivial, (by decide), trivial⟩ ?_
  refine pw_ic hT (c := 4 < (Int32.ofNat (pvstab 1040).length)) rfl rfl (fun c2_ => ?_) (fun c2_ => absurd (by decide) c2_)
  refine pw_blk hT 3 (S' := (21, [some (pvI 4)], [pvI ((pvstab 1040).getD (Int32.toNatClampNeg 4) 0)], M)) rfl ⟨trivial, trivial, ⟨by decide, (zr_in (n := 7) (show 4 ≤ Int32.toInt 4 ∧ Int32.toInt 4 ≤ 4 from (by decide)) (by decide) (by decide))⟩, trivial⟩ ?_
  exact pw_ret hT rfl (r := some (pvI ((pvstab 1040).getD (Int32.toNatClampNeg 4) 0))) (M' := M) ⟨rfl, rfl⟩ ⟨rfl, rfl⟩
set_option maxHeartbeats 4000000 in
set_option maxRecDepth 10000 in
theorem sf_X0_bodyFrom_4_2 (M : pvM) (hok : pvOk M) (d : Nat) : PW 1 d (0, [some (pvI 4), some (pvI 2), none, none, none], [], M) (fun r X => r = some (pvI (((pvstab 1041).getD (Int32.toNatClampNeg ((0 * 3) + 2)) 0))) ∧ X = M) := by
  have hT : pvdom 1 = pvD_1 := rfl
  refine pw_blk hT 4 (S' := (4, [some (pvI 4), some (pvI 2), some (pvI 4), some (pvI 0), none], [], M)) rfl ⟨trivial, trivial, trivial, trivial, trivial⟩ ?_
  refine pw_blk hT 3 (S' := (9, [some (pvI 4), some (pvI 2), some (pvI 4), some (pvI 0), none], [pvI (Int32.ofNat (pvstab 1041).length), pvI 0], M)) rfl ⟨trivial, trivial, (by decide), trivial⟩ ?_
  refine pw_ic hT (c := (Int32.ofNat (pvstab 1041).length) ≤ 0) rfl rfl (fun c1_ => absurd c1_ (by decide)) (fun c1_ => ?_)
  refine pw_blk hT 1 (S' := (13, [some (pvI 4), some (pvI 2), some (pvI 4), some (pvI 0), none], [pvI 4], M)) rfl ⟨trivial, trivial⟩ ?_
  refine pw_if hT (c := 4 < 0) rfl rfl (fun c2_ => absurd c2_ (by decide)) (fun c2_ => ?_)
  refine pw_blk hT 7 (S' := (25, [some (pvI 4), some (pvI 2), some (pvI 4), some (pvI 0), some (pvI ((4 * 3) + 2))], [pvI ((4 * 3) + 2)], M)) rfl ⟨trivial, trivial, trivial, trivial, trivial, trivial, trivial, trivial⟩ ?_
  refine pw_if hT (c := ((4 * 3) + 2) < 0) rfl rfl (fun c3_ => absurd c3_ (by decide)) (fun c3_ => ?_)
  refine pw_blk hT 3 (S' := (34, [some (pvI 4), some (pvI 2), some (pvI 4), some (pvI 0), some (pvI ((4 * 3) + 2))], [pvI (Int32.ofNat (pvstab 1041).length), pvI ((4 * 3) + 2)], M)) rfl ⟨trivial, trivial, (by decide), trivial⟩ ?_
  refine pw_ic hT (c := (Int32.ofNat (pvstab 1041).length) ≤ ((4 * 3) + 2)) rfl rfl (fun c4_ => absurd c4_ (by decide)) (fun c4_ => ?_)
  refine pw_blk hT 3 (S' := (43, [some (pvI 4), some (pvI 2), some (pvI 4), some (pvI 0), some (pvI ((4 * 3) + 2))], [pvI ((pvstab 1041).getD (Int32.toNatClampNeg ((4 * 3) + 2)) 0)], M)) rfl ⟨trivial, trivial, ⟨by decide, (zr_in (n := 21) (show 14 ≤ Int32.toInt ((4 * 3) + 2) ∧ Int32.toInt ((4 * 3) + 2) ≤ 14 from (by decide)) (by decide) (by decide))⟩, trivial⟩ ?_
  refine pw_if hT (c := ((pvstab 1041).getD (Int32.toNatClampNeg ((4 * 3) + 2)) 0) = 0) rfl rfl (fun c5_ => ?_) (fun c5_ => absurd (by decide) c5_)
  refine pw_blk hT 1 (S' := (54, [some (pvI 4), some (pvI 2), some (pvI 4), some (pvI 0), some (pvI ((4 * 3) + 2))], [pvI 4], M)) rfl ⟨trivial, trivial⟩ ?_
  refine pw_callT hT (as := [pvI 4]) (lo1 := [some (pvI 4)]) (d1 := d) (rest := []) rfl rfl rfl rfl rfl (fun h => absurd h (by decide)) (Nat.zero_le _) rfl rfl rfl (sf_X3_above_4 M hok d) ?_
  refine pw_eqI (show ((pvstab 1040).getD (Int32.toNatClampNeg 4) 0) = 1 from by decide) ?_
  show PW 1 d (57, [some (pvI 4), some (pvI 2), some (pvI 4), some (pvI 0), some (pvI ((4 * 3) + 2))], [pvI 1], M) _
  refine pw_blk hT 3 (S' := (4, [some (pvI 4), some (pvI 2), some (pvI 1), some (pvI (0 + 1)), some (pvI ((4 * 3) + 2))], [], M)) rfl ⟨trivial, trivial, trivial, trivial⟩ ?_
  refine pw_blk hT 3 (S' := (9, [some (pvI 4), some (pvI 2), some (pvI 1), some (pvI (0 + 1)), some (pvI ((4 * 3) + 2))], [pvI (Int32.ofNat (pvstab 1041).length), pvI (0 + 1)], M)) rfl ⟨trivial, trivial, (by decide), trivial⟩ ?_
  refine pw_ic hT (c := (Int32.ofNat (pvstab 1041).length) ≤ (0 + 1)) rfl rfl (fun c11_ => absurd c11_ (by decide)) (fun c11_ => ?_)
  refine pw_blk hT 1 (S' := (13, [some (pvI 4), some (pvI 2), some (pvI 1), some (pvI (0 + 1)), some (pvI ((4 * 3) + 2))], [pvI 1], M)) rfl ⟨trivial, trivial⟩ ?_
  refine pw_if hT (c := 1 < 0) rfl rfl (fun c12_ => absurd c12_ (by decide)) (fun c12_ => ?_)
  refine pw_blk hT 7 (S' := (25, [some (pvI 4), some (pvI 2), some (pvI 1), some (pvI (0 + 1)), some (pvI ((1 * 3) + 2))], [pvI ((1 * 3) + 2)], M)) rfl ⟨trivial, trivial, trivial, trivial, trivial, trivial, trivial, trivial⟩ ?_
  refine pw_if hT (c := ((1 * 3) + 2) < 0) rfl rfl (fun c13_ => absurd c13_ (by decide)) (fun c13_ => ?_)
  refine pw_blk hT 3 (S' := (34, [some (pvI 4), some (pvI 2), some (pvI 1), some (pvI (0 + 1)), some (pvI ((1 * 3) + 2))], [pvI (Int32.ofNat (pvstab 1041).length), pvI ((1 * 3) + 2)], M)) rfl ⟨trivial, trivial, (by decide), trivial⟩ ?_
  refine pw_ic hT (c := (Int32.ofNat (pvstab 1041).length) ≤ ((1 * 3) + 2)) rfl rfl (fun c14_ => absurd c14_ (by decide)) (fun c14_ => ?_)
  refine pw_blk hT 3 (S' := (43, [some (pvI 4), some (pvI 2), some (pvI 1), some (pvI (0 + 1)), some (pvI ((1 * 3) + 2))], [pvI ((pvstab 1041).getD (Int32.toNatClampNeg ((1 * 3) + 2)) 0)], M)) rfl ⟨trivial, trivial, ⟨by decide, (zr_in (n := 21) (show 5 ≤ Int32.toInt ((1 * 3) + 2) ∧ Int32.toInt ((1 * 3) + 2) ≤ 5 from (by decide)) (by decide) (by decide))⟩, trivial⟩ ?_
  refine pw_if hT (c := ((pvstab 1041).getD (Int32.toNatClampNeg ((1 * 3) + 2)) 0) = 0) rfl rfl (fun c15_ => ?_) (fun c15_ => absurd (by decide) c15_)
  refine pw_blk hT 1 (S' := (54, [some (pvI 4), some (pvI 2), some (pvI 1), some (pvI (0 + 1)), some (pvI ((1 * 3) + 2))], [pvI 1], M)) rfl ⟨trivial, trivial⟩ ?_
  refine pw_callT hT (as := [pvI 1]) (lo1 := [some (pvI 1)]) (d1 := d) (rest := []) rfl rfl rfl rfl rfl (fun h => absurd h (by decide)) (Nat.zero_le _) rfl rfl rfl (sf_X3_above_1 M hok d) ?_
  refine pw_eqI (show ((pvstab 1040).getD (Int32.toNatClampNeg 1) 0) = 0 from by decide) ?_
  show PW 1 d (57, [some (pvI 4), some (pvI 2), some (pvI 1), some (pvI (0 + 1)), some (pvI ((1 * 3) + 2))], [pvI 0], M) _
  refine pw_blk hT 3 (S' := (4, [some (pvI 4), some (pvI 2), some (pvI 0), some (pvI ((0 + 1) + 1)), some (pvI ((1 * 3) + 2))], [], M)) rfl ⟨trivial, trivial, trivial, trivial⟩ ?_
  refine pw_blk hT 3 (S' := (9, [some (pvI 4), some (pvI 2), some (pvI 0), some (pvI ((0 + 1) + 1)), some (pvI ((1 * 3) + 2))], [pvI (Int32.ofNat (pvstab 1041).length), pvI ((0 + 1) + 1)], M)) rfl ⟨trivial, trivial, (by decide), trivial⟩ ?_
  refine pw_ic hT (c := (Int32.ofNat (pvstab 1041).length) ≤ ((0 + 1) + 1)) rfl rfl (fun c21_ => absurd c21_ (by decide)) (fun c21_ => ?_)
  refine pw_blk hT 1 (S' := (13, [some (pvI 4), some (pvI 2), some (pvI 0), some (pvI ((0 + 1) + 1)), some (pvI ((1 * 3) + 2))], [pvI 0], M)) rfl ⟨trivial, trivial⟩ ?_
  refine pw_if hT (c := 0 < 0) rfl rfl (fun c22_ => absurd c22_ (by decide)) (fun c22_ => ?_)
  refine pw_blk hT 7 (S' := (25, [some (pvI 4), some (pvI 2), some (pvI 0), some (pvI ((0 + 1) + 1)), some (pvI ((0 * 3) + 2))], [pvI ((0 * 3) + 2)], M)) rfl ⟨trivial, trivial, trivial, trivial, trivial, trivial, trivial, trivial⟩ ?_
  refine pw_if hT (c := ((0 * 3) + 2) < 0) rfl rfl (fun c23_ => absurd c23_ (by decide)) (fun c23_ => ?_)
  refine pw_blk hT 3 (S' := (34, [some (pvI 4), some (pvI 2), some (pvI 0), some (pvI ((0 + 1) + 1)), some (pvI ((0 * 3) + 2))], [pvI (Int32.ofNat (pvstab 1041).length), pvI ((0 * 3) + 2)], M)) rfl ⟨trivial, trivial, (by decide), trivial⟩ ?_
  refine pw_ic hT (c := (Int32.ofNat (pvstab 1041).length) ≤ ((0 * 3) + 2)) rfl rfl (fun c24_ => absurd c24_ (by decide)) (fun c24_ => ?_)
  refine pw_blk hT 3 (S' := (43, [some (pvI 4), some (pvI 2), some (pvI 0), some (pvI ((0 + 1) + 1)), some (pvI ((0 * 3) + 2))], [pvI ((pvstab 1041).getD (Int32.toNatClampNeg ((0 * 3) + 2)) 0)], M)) rfl ⟨trivial, trivial, ⟨by decide, (zr_in (n := 21) (show 2 ≤ Int32.toInt ((0 * 3) + 2) ∧ Int32.toInt ((0 * 3) + 2) ≤ 2 from (by decide)) (by decide) (by decide))⟩, trivial⟩ ?_
  refine pw_if hT (c := ((pvstab 1041).getD (Int32.toNatClampNeg ((0 * 3) + 2)) 0) = 0) rfl rfl (fun c25_ => absurd c25_ (by decide)) (fun c25_ => ?_)
  refine pw_blk hT 3 (S' := (52, [some (pvI 4), some (pvI 2), some (pvI 0), some (pvI ((0 + 1) + 1)), some (pvI ((0 * 3) + 2))], [pvI ((pvstab 1041).getD (Int32.toNatClampNeg ((0 * 3) + 2)) 0)], M)) rfl ⟨trivial, trivial, ⟨by decide, (zr_in (n := 21) (show 2 ≤ Int32.toInt ((0 * 3) + 2) ∧ Int32.toInt ((0 * 3) + 2) ≤ 2 from (by decide)) (by decide) (by decide))⟩, trivial⟩ ?_
  exact pw_ret hT rfl (r := some (pvI ((pvstab 1041).getD (Int32.toNatClampNeg ((0 * 3) + 2)) 0))) (M' := M) ⟨rfl, rfl⟩ ⟨rfl, rfl⟩
set_option maxHeartbeats 4000000 in
set_option maxRecDepth 10000 in
theorem sf_X3_above_5 (M : pvM) (hok : pvOk M) (d : Nat) : PW 131 d (0, [some (pvI 5)], [], M) (fun r X => r = some (pvI (((pvstab 1040).getD (Int32.toNatClampNeg 5) 0))) ∧ X = M) := by
  have hT : pvdom 131 = pvD_131 := rfl
  refine pw_blk hT 1 (S' := (1, [some (pvI 5)], [pvI 5], M)) rfl ⟨trivial, trivial⟩ ?_
  refine pw_if hT (c := 5 < 0) rfl rfl (fun c1_ => absurd c1_ (by decide)) (fun c1_ => ?_)
  refine pw_blk hT 3 (S' := (9, [some (pvI 5)], [pvI (Int32.ofNat (pvstab 1040).length), pvI 5], M)) rfl ⟨trivial, trivial, (by decide), trivial⟩ ?_
  refine pw_ic hT (c := 5 < (Int32.ofNat (pvstab 1040).length)) rfl rfl (fun c2_ => ?_) (fun c2_ => absurd (by decide) c2_)
  refine pw_blk hT 3 (S' := (21, [some (pvI 5)], [pvI ((pvstab 1040).getD (Int32.toNatClampNeg 5) 0)], M)) rfl ⟨trivial, trivial, ⟨by decide, (zr_in (n := 7) (show 5 ≤ Int32.toInt 5 ∧ Int32.toInt 5 ≤ 5 from (by decide)) (by decide) (by decide))⟩, trivial⟩ ?_
  exact pw_ret hT rfl (r := some (pvI ((pvstab 1040).getD (Int32.toNatClampNeg 5) 0))) (M' := M) ⟨rfl, rfl⟩ ⟨rfl, rfl⟩
set_option maxHeartbeats 4000000 in
set_option maxRecDepth 10000 in
theorem sf_X0_bodyFrom_5_0 (M : pvM) (hok : pvOk M) (d : Nat) : PW 1 d (0, [some (pvI 5), some (pvI 0), none, none, none], [], M) (fun r X => r = some (pvI (((pvstab 1041).getD (Int32.toNatClampNeg ((2 * 3) + 0)) 0))) ∧ X = M) := by
  have hT : pvdom 1 = pvD_1 := rfl
  refine pw_blk hT 4 (S' := (4, [some (pvI 5), some (pvI 0), some (pvI 5), some (pvI 0), none], [], M)) rfl ⟨trivial, trivial, trivial, trivial, trivial⟩ ?_
  refine pw_blk hT 3 (S' := (9, [some (pvI 5), some (pvI 0), some (pvI 5), some (pvI 0), none], [pvI (Int32.ofNat (pvstab 1041).length), pvI 0], M)) rfl ⟨trivial, trivial, (by decide), trivial⟩ ?_
  refine pw_ic hT (c := (Int32.ofNat (pvstab 1041).length) ≤ 0) rfl rfl (fun c1_ => absurd c1_ (by decide)) (fun c1_ => ?_)
  refine pw_blk hT 1 (S' := (13, [some (pvI 5), some (pvI 0), some (pvI 5), some (pvI 0), none], [pvI 5], M)) rfl ⟨trivial, trivial⟩ ?_
  refine pw_if hT (c := 5 < 0) rfl rfl (fun c2_ => absurd c2_ (by decide)) (fun c2_ => ?_)
  refine pw_blk hT 7 (S' := (25, [some (pvI 5), some (pvI 0), some (pvI 5), some (pvI 0), some (pvI ((5 * 3) + 0))], [pvI ((5 * 3) + 0)], M)) rfl ⟨trivial, trivial, trivial, trivial, trivial, trivial, trivial, trivial⟩ ?_
  refine pw_if hT (c := ((5 * 3) + 0) < 0) rfl rfl (fun c3_ => absurd c3_ (by decide)) (fun c3_ => ?_)
  refine pw_blk hT 3 (S' := (34, [some (pvI 5), some (pvI 0), some (pvI 5), some (pvI 0), some (pvI ((5 * 3) + 0))], [pvI (Int32.ofNat (pvstab 1041).length), pvI ((5 * 3) + 0)], M)) rfl ⟨trivial, trivial, (by decide), trivial⟩ ?_
  refine pw_ic hT (c := (Int32.ofNat (pvstab 1041).length) ≤ ((5 * 3) + 0)) rfl rfl (fun c4_ => absurd c4_ (by decide)) (fun c4_ => ?_)
  refine pw_blk hT 3 (S' := (43, [some (pvI 5), some (pvI 0), some (pvI 5), some (pvI 0), some (pvI ((5 * 3) + 0))], [pvI ((pvstab 1041).getD (Int32.toNatClampNeg ((5 * 3) + 0)) 0)], M)) rfl ⟨trivial, trivial, ⟨by decide, (zr_in (n := 21) (show 15 ≤ Int32.toInt ((5 * 3) + 0) ∧ Int32.toInt ((5 * 3) + 0) ≤ 15 from (by decide)) (by decide) (by decide))⟩, trivial⟩ ?_
  refine pw_if hT (c := ((pvstab 1041).getD (Int32.toNatClampNeg ((5 * 3) + 0)) 0) = 0) rfl rfl (fun c5_ => ?_) (fun c5_ => absurd (by decide) c5_)
  refine pw_blk hT 1 (S' := (54, [some (pvI 5), some (pvI 0), some (pvI 5), some (pvI 0), some (pvI ((5 * 3) + 0))], [pvI 5], M)) rfl ⟨trivial, trivial⟩ ?_
  refine pw_callT hT (as := [pvI 5]) (lo1 := [some (pvI 5)]) (d1 := d) (rest := []) rfl rfl rfl rfl rfl (fun h => absurd h (by decide)) (Nat.zero_le _) rfl rfl rfl (sf_X3_above_5 M hok d) ?_
  refine pw_eqI (show ((pvstab 1040).getD (Int32.toNatClampNeg 5) 0) = 2 from by decide) ?_
  show PW 1 d (57, [some (pvI 5), some (pvI 0), some (pvI 5), some (pvI 0), some (pvI ((5 * 3) + 0))], [pvI 2], M) _
  refine pw_blk hT 3 (S' := (4, [some (pvI 5), some (pvI 0), some (pvI 2), some (pvI (0 + 1)), some (pvI ((5 * 3) + 0))], [], M)) rfl ⟨trivial, trivial, trivial, trivial⟩ ?_
  refine pw_blk hT 3 (S' := (9, [some (pvI 5), some (pvI 0), some (pvI 2), some (pvI (0 + 1)), some (pvI ((5 * 3) + 0))], [pvI (Int32.ofNat (pvstab 1041).length), pvI (0 + 1)], M)) rfl ⟨trivial, trivial, (by decide), trivial⟩ ?_
  refine pw_ic hT (c := (Int32.ofNat (pvstab 1041).length) ≤ (0 + 1)) rfl rfl (fun c11_ => absurd c11_ (by decide)) (fun c11_ => ?_)
  refine pw_blk hT 1 (S' := (13, [some (pvI 5), some (pvI 0), some (pvI 2), some (pvI (0 + 1)), some (pvI ((5 * 3) + 0))], [pvI 2], M)) rfl ⟨trivial, trivial⟩ ?_
  refine pw_if hT (c := 2 < 0) rfl rfl (fun c12_ => absurd c12_ (by decide)) (fun c12_ => ?_)
  refine pw_blk hT 7 (S' := (25, [some (pvI 5), some (pvI 0), some (pvI 2), some (pvI (0 + 1)), some (pvI ((2 * 3) + 0))], [pvI ((2 * 3) + 0)], M)) rfl ⟨trivial, trivial, trivial, trivial, trivial, trivial, trivial, trivial⟩ ?_
  refine pw_if hT (c := ((2 * 3) + 0) < 0) rfl rfl (fun c13_ => absurd c13_ (by decide)) (fun c13_ => ?_)
  refine pw_blk hT 3 (S' := (34, [some (pvI 5), some (pvI 0), some (pvI 2), some (pvI (0 + 1)), some (pvI ((2 * 3) + 0))], [pvI (Int32.ofNat (pvstab 1041).length), pvI ((2 * 3) + 0)], M)) rfl ⟨trivial, trivial, (by decide), trivial⟩ ?_
  refine pw_ic hT (c := (Int32.ofNat (pvstab 1041).length) ≤ ((2 * 3) + 0)) rfl rfl (fun c14_ => absurd c14_ (by decide)) (fun c14_ => ?_)
  refine pw_blk hT 3 (S' := (43, [some (pvI 5), some (pvI 0), some (pvI 2), some (pvI (0 + 1)), some (pvI ((2 * 3) + 0))], [pvI ((pvstab 1041).getD (Int32.toNatClampNeg ((2 * 3) + 0)) 0)], M)) rfl ⟨trivial, trivial, ⟨by decide, (zr_in (n := 21) (show 6 ≤ Int32.toInt ((2 * 3) + 0) ∧ Int32.toInt ((2 * 3) + 0) ≤ 6 from (by decide)) (by decide) (by decide))⟩, trivial⟩ ?_
  refine pw_if hT (c := ((pvstab 1041).getD (Int32.toNatClampNeg ((2 * 3) + 0)) 0) = 0) rfl rfl (fun c15_ => absurd c15_ (by decide)) (fun c15_ => ?_)
  refine pw_blk hT 3 (S' := (52, [some (pvI 5), some (pvI 0), some (pvI 2), some (pvI (0 + 1)), some (pvI ((2 * 3) + 0))], [pvI ((pvstab 1041).getD (Int32.toNatClampNeg ((2 * 3) + 0)) 0)], M)) rfl ⟨trivial, trivial, ⟨by decide, (zr_in (n := 21) (show 6 ≤ Int32.toInt ((2 * 3) + 0) ∧ Int32.toInt ((2 * 3) + 0) ≤ 6 from (by decide)) (by decide) (by decide))⟩, trivial⟩ ?_
  exact pw_ret hT rfl (r := some (pvI ((pvstab 1041).getD (Int32.toNatClampNeg ((2 * 3) + 0)) 0))) (M' := M) ⟨rfl, rfl⟩ ⟨rfl, rfl⟩
set_option maxHeartbeats 4000000 in
set_option maxRecDepth 10000 in
theorem sf_X0_bodyFrom_5_1 (M : pvM) (hok : pvOk M) (d : Nat) : PW 1 d (0, [some (pvI 5), some (pvI 1), none, none, none], [], M) (fun r X => r = some (pvI (((pvstab 1041).getD (Int32.toNatClampNeg ((0 * 3) + 1)) 0))) ∧ X = M) := by
  have hT : pvdom 1 = pvD_1 := rfl
  refine pw_blk hT 4 (S' := (4, [some (pvI 5), some (pvI 1), some (pvI 5), some (pvI 0), none], [], M)) rfl ⟨trivial, trivial, trivial, trivial, trivial⟩ ?_
  refine pw_blk hT 3 (S' := (9, [some (pvI 5), some (pvI 1), some (pvI 5), some (pvI 0), none], [pvI (Int32.ofNat (pvstab 1041).length), pvI 0], M)) rfl ⟨trivial, trivial, (by decide), trivial⟩ ?_
  refine pw_ic hT (c := (Int32.ofNat (pvstab 1041).length) ≤ 0) rfl rfl (fun c1_ => absurd c1_ (by decide)) (fun c1_ => ?_)
  refine pw_blk hT 1 (S' := (13, [some (pvI 5), some (pvI 1), some (pvI 5), some (pvI 0), none], [pvI 5], M)) rfl ⟨trivial, trivial⟩ ?_
  refine pw_if hT (c := 5 < 0) rfl rfl (fun c2_ => absurd c2_ (by decide)) (fun c2_ => ?_)
  refine pw_blk hT 7 (S' := (25, [some (pvI 5), some (pvI 1), some (pvI 5), some (pvI 0), some (pvI ((5 * 3) + 1))], [pvI ((5 * 3) + 1)], M)) rfl ⟨trivial, trivial, trivial, trivial, trivial, trivial, trivial, trivial⟩ ?_
  refine pw_if hT (c := ((5 * 3) + 1) < 0) rfl rfl (fun c3_ => absurd c3_ (by decide)) (fun c3_ => ?_)
  refine pw_blk hT 3 (S' := (34, [some (pvI 5), some (pvI 1), some (pvI 5), some (pvI 0), some (pvI ((5 * 3) + 1))], [pvI (Int32.ofNat (pvstab 1041).length), pvI ((5 * 3) + 1)], M)) rfl ⟨trivial, trivial, (by decide), trivial⟩ ?_
  refine pw_ic hT (c := (Int32.ofNat (pvstab 1041).length) ≤ ((5 * 3) + 1)) rfl rfl (fun c4_ => absurd c4_ (by decide)) (fun c4_ => ?_)
  refine pw_blk hT 3 (S' := (43, [some (pvI 5), some (pvI 1), some (pvI 5), some (pvI 0), some (pvI ((5 * 3) + 1))], [pvI ((pvstab 1041).getD (Int32.toNatClampNeg ((5 * 3) + 1)) 0)], M)) rfl ⟨trivial, trivial, ⟨by decide, (zr_in (n := 21) (show 16 ≤ Int32.toInt ((5 * 3) + 1) ∧ Int32.toInt ((5 * 3) + 1) ≤ 16 from (by decide)) (by decide) (by decide))⟩, trivial⟩ ?_
  refine pw_if hT (c := ((pvstab 1041).getD (Int32.toNatClampNeg ((5 * 3) + 1)) 0) = 0) rfl rfl (fun c5_ => ?_) (fun c5_ => absurd (by decide) c5_)
  refine pw_blk hT 1 (S' := (54, [some (pvI 5), some (pvI 1), some (pvI 5), some (pvI 0), some (pvI ((5 * 3) + 1))], [pvI 5], M)) rfl ⟨trivial, trivial⟩ ?_
  refine pw_callT hT (as := [pvI 5]) (lo1 := [some (pvI 5)]) (d1 := d) (rest := []) rfl rfl rfl rfl rfl (fun h => absurd h (by decide)) (Nat.zero_le _) rfl rfl rfl (sf_X3_above_5 M hok d) ?_
  refine pw_eqI (show ((pvstab 1040).getD (Int32.toNatClampNeg 5) 0) = 2 from by decide) ?_
  show PW 1 d (57, [some (pvI 5), some (pvI 1), some (pvI 5), some (pvI 0), some (pvI ((5 * 3) + 1))], [pvI 2], M) _
  refine pw_blk hT 3 (S' := (4, [some (pvI 5), some (pvI 1), some (pvI 2), some (pvI (0 + 1)), some (pvI ((5 * 3) + 1))], [], M)) rfl ⟨trivial, trivial, trivial, trivial⟩ ?_
  refine pw_blk hT 3 (S' := (9, [some (pvI 5), some (pvI 1), some (pvI 2), some (pvI (0 + 1)), some (pvI ((5 * 3) + 1))], [pvI (Int32.ofNat (pvstab 1041).length), pvI (0 + 1)], M)) rfl ⟨trivial, trivial, (by decide), trivial⟩ ?_
  refine pw_ic hT (c := (Int32.ofNat (pvstab 1041).length) ≤ (0 + 1)) rfl rfl (fun c11_ => absurd c11_ (by decide)) (fun c11_ => ?_)
  refine pw_blk hT 1 (S' := (13, [some (pvI 5), some (pvI 1), some (pvI 2), some (pvI (0 + 1)), some (pvI ((5 * 3) + 1))], [pvI 2], M)) rfl ⟨trivial, trivial⟩ ?_
  refine pw_if hT (c := 2 < 0) rfl rfl (fun c12_ => absurd c12_ (by decide)) (fun c12_ => ?_)
  refine pw_blk hT 7 (S' := (25, [some (pvI 5), some (pvI 1), some (pvI 2), some (pvI (0 + 1)), some (pvI ((2 * 3) + 1))], [pvI ((2 * 3) + 1)], M)) rfl ⟨trivial, trivial, trivial, trivial, trivial, trivial, trivial, trivial⟩ ?_
  refine pw_if hT (c := ((2 * 3) + 1) < 0) rfl rfl (fun c13_ => absurd c13_ (by decide)) (fun c13_ => ?_)
  refine pw_blk hT 3 (S' := (34, [some (pvI 5), some (pvI 1), some (pvI 2), some (pvI (0 + 1)), some (pvI ((2 * 3) + 1))], [pvI (Int32.ofNat (pvstab 1041).length), pvI ((2 * 3) + 1)], M)) rfl ⟨trivial, trivial, (by decide), trivial⟩ ?_
  refine pw_ic hT (c := (Int32.ofNat (pvstab 1041).length) ≤ ((2 * 3) + 1)) rfl rfl (fun c14_ => absurd c14_ (by decide)) (fun c14_ => ?_)
  refine pw_blk hT 3 (S' := (43, [some (pvI 5), some (pvI 1), some (pvI 2), some (pvI (0 + 1)), some (pvI ((2 * 3) + 1))], [pvI ((pvstab 1041).getD (Int32.toNatClampNeg ((2 * 3) + 1)) 0)], M)) rfl ⟨trivial, trivial, ⟨by decide, (zr_in (n := 21) (show 7 ≤ Int32.toInt ((2 * 3) + 1) ∧ Int32.toInt ((2 * 3) + 1) ≤ 7 from (by decide)) (by decide) (by decide))⟩, trivial⟩ ?_
  refine pw_if hT (c := ((pvstab 1041).getD (Int32.toNatClampNeg ((2 * 3) + 1)) 0) = 0) rfl rfl (fun c15_ => ?_) (fun c15_ => absurd (by decide) c15_)
  refine pw_blk hT 1 (S' := (54, [some (pvI 5), some (pvI 1), some (pvI 2), some (pvI (0 + 1)), some (pvI ((2 * 3) + 1))], [pvI 2], M)) rfl ⟨trivial, trivial⟩ ?_
  refine pw_callT hT (as := [pvI 2]) (lo1 := [some (pvI 2)]) (d1 := d) (rest := []) rfl rfl rfl rfl rfl (fun h => absurd h (by decide)) (Nat.zero_le _) rfl rfl rfl (sf_X3_above_2 M hok d) ?_
  refine pw_eqI (show ((pvstab 1040).getD (Int32.toNatClampNeg 2) 0) = 0 from by decide) ?_
  show PW 1 d (57, [some (pvI 5), some (pvI 1), some (pvI 2), some (pvI (0 + 1)), some (pvI ((2 * 3) + 1))], [pvI 0], M) _
  refine pw_blk hT 3 (S' := (4, [some (pvI 5), some (pvI 1), some (pvI 0), some (pvI ((0 + 1) + 1)), some (pvI ((2 * 3) + 1))], [], M)) rfl ⟨trivial, trivial, trivial, trivial⟩ ?_
  refine pw_blk hT 3 (S' := (9, [some (pvI 5), some (pvI 1), some (pvI 0), some (pvI ((0 + 1) + 1)), some (pvI ((2 * 3) + 1))], [pvI (Int32.ofNat (pvstab 1041).length), pvI ((0 + 1) + 1)], M)) rfl ⟨trivial, trivial, (by decide), trivial⟩ ?_
  refine pw_ic hT (c := (Int32.ofNat (pvstab 1041).length) ≤ ((0 + 1) + 1)) rfl rfl (fun c21_ => absurd c21_ (by decide)) (fun c21_ => ?_)
  refine pw_blk hT 1 (S' := (13, [some (pvI 5), some (pvI 1), some (pvI 0), some (pvI ((0 + 1) + 1)), some (pvI ((2 * 3) + 1))], [pvI 0], M)) rfl ⟨trivial, trivial⟩ ?_
  refine pw_if hT (c := 0 < 0) rfl rfl (fun c22_ => absurd c22_ (by decide)) (fun c22_ => ?_)
  refine pw_blk hT 7 (S' := (25, [some (pvI 5), some (pvI 1), some (pvI 0), some (pvI ((0 + 1) + 1)), some (pvI ((0 * 3) + 1))], [pvI ((0 * 3) + 1)], M)) rfl ⟨trivial, trivial, trivial, trivial, trivial, trivial, trivial, trivial⟩ ?_
  refine pw_if hT (c := ((0 * 3) + 1) < 0) rfl rfl (fun c23_ => absurd c23_ (by decide)) (fun c23_ => ?_)
  refine pw_blk hT 3 (S' := (34, [some (pvI 5), some (pvI 1), some (pvI 0), some (pvI ((0 + 1) + 1)), some (pvI ((0 * 3) + 1))], [pvI (Int32.ofNat (pvstab 1041).length), pvI ((0 * 3) + 1)], M)) rfl ⟨trivial, trivial, (by decide), trivial⟩ ?_
  refine pw_ic hT (c := (Int32.ofNat (pvstab 1041).length) ≤ ((0 * 3) + 1)) rfl rfl (fun c24_ => absurd c24_ (by decide)) (fun c24_ => ?_)
  refine pw_blk hT 3 (S' := (43, [some (pvI 5), some (pvI 1), some (pvI 0), some (pvI ((0 + 1) + 1)), some (pvI ((0 * 3) + 1))], [pvI ((pvstab 1041).getD (Int32.toNatClampNeg ((0 * 3) + 1)) 0)], M)) rfl ⟨trivial, trivial, ⟨by decide, (zr_in (n := 21) (show 1 ≤ Int32.toInt ((0 * 3) + 1) ∧ Int32.toInt ((0 * 3) + 1) ≤ 1 from (by decide)) (by decide) (by decide))⟩, trivial⟩ ?_
  refine pw_if hT (c := ((pvstab 1041).getD (Int32.toNatClampNeg ((0 * 3) + 1)) 0) = 0) rfl rfl (fun c25_ => absurd c25_ (by decide)) (fun c25_ => ?_)
  refine pw_blk hT 3 (S' := (52, [some (pvI 5), some (pvI 1), some (pvI 0), some (pvI ((0 + 1) + 1)), some (pvI ((0 * 3) + 1))], [pvI ((pvstab 1041).getD (Int32.toNatClampNeg ((0 * 3) + 1)) 0)], M)) rfl ⟨trivial, trivial, ⟨by decide, (zr_in (n := 21) (show 1 ≤ Int32.toInt ((0 * 3) + 1) ∧ Int32.toInt ((0 * 3) + 1) ≤ 1 from (by decide)) (by decide) (by decide))⟩, trivial⟩ ?_
  exact pw_ret hT rfl (r := some (pvI ((pvstab 1041).getD (Int32.toNatClampNeg ((0 * 3) + 1)) 0))) (M' := M) ⟨rfl, rfl⟩ ⟨rfl, rfl⟩
set_option maxHeartbeats 4000000 in
set_option maxRecDepth 10000 in
theorem sf_X0_bodyFrom_5_2 (M : pvM) (hok : pvOk M) (d : Nat) : PW 1 d (0, [some (pvI 5), some (pvI 2), none, none, none], [], M) (fun r X => r = some (pvI (((pvstab 1041).getD (Int32.toNatClampNeg ((5 * 3) + 2)) 0))) ∧ X = M) := by
  have hT : pvdom 1 = pvD_1 := rfl
  refine pw_blk hT 4 (S' := (4, [some (pvI 5), some (pvI 2), some (pvI 5), some (pvI 0), none], [], M)) rfl ⟨trivial, trivial, trivial, trivial, trivial⟩ ?_
  refine pw_blk hT 3 (S' := (9, [some (pvI 5), some (pvI 2), some (pvI 5), some (pvI 0), none], [pvI (Int32.ofNat (pvstab 1041).length), pvI 0], M)) rfl ⟨trivial, trivial, (by decide), trivial⟩ ?_
  refine pw_ic hT (c := (Int32.ofNat (pvstab 1041).length) ≤ 0) rfl rfl (fun c1_ => absurd c1_ (by decide)) (fun c1_ => ?_)
  refine pw_blk hT 1 (S' := (13, [some (pvI 5), some (pvI 2), some (pvI 5), some (pvI 0), none], [pvI 5], M)) rfl ⟨trivial, trivial⟩ ?_
  refine pw_if hT (c := 5 < 0) rfl rfl (fun c2_ => absurd c2_ (by decide)) (fun c2_ => ?_)
  refine pw_blk hT 7 (S' := (25, [some (pvI 5), some (pvI 2), some (pvI 5), some (pvI 0), some (pvI ((5 * 3) + 2))], [pvI ((5 * 3) + 2)], M)) rfl ⟨trivial, trivial, trivial, trivial, trivial, trivial, trivial, trivial⟩ ?_
  refine pw_if hT (c := ((5 * 3) + 2) < 0) rfl rfl (fun c3_ => absurd c3_ (by decide)) (fun c3_ => ?_)
  refine pw_blk hT 3 (S' := (34, [some (pvI 5), some (pvI 2), some (pvI 5), some (pvI 0), some (pvI ((5 * 3) + 2))], [pvI (Int32.ofNat (pvstab 1041).length), pvI ((5 * 3) + 2)], M)) rfl ⟨trivial, trivial, (by decide), trivial⟩ ?_
  refine pw_ic hT (c := (Int32.ofNat (pvstab 1041).length) ≤ ((5 * 3) + 2)) rfl rfl (fun c4_ => absurd c4_ (by decide)) (fun c4_ => ?_)
  refine pw_blk hT 3 (S' := (43, [some (pvI 5), some (pvI 2), some (pvI 5), some (pvI 0), some (pvI ((5 * 3) + 2))], [pvI ((pvstab 1041).getD (Int32.toNatClampNeg ((5 * 3) + 2)) 0)], M)) rfl ⟨trivial, trivial, ⟨by decide, (zr_in (n := 21) (show 17 ≤ Int32.toInt ((5 * 3) + 2) ∧ Int32.toInt ((5 * 3) + 2) ≤ 17 from (by decide)) (by decide) (by decide))⟩, trivial⟩ ?_
  refine pw_if hT (c := ((pvstab 1041).getD (Int32.toNatClampNeg ((5 * 3) + 2)) 0) = 0) rfl rfl (fun c5_ => absurd c5_ (by decide)) (fun c5_ => ?_)
  refine pw_blk hT 3 (S' := (52, [some (pvI 5), some (pvI 2), some (pvI 5), some (pvI 0), some (pvI ((5 * 3) + 2))], [pvI ((pvstab 1041).getD (Int32.toNatClampNeg ((5 * 3) + 2)) 0)], M)) rfl ⟨trivial, trivial, ⟨by decide, (zr_in (n := 21) (show 17 ≤ Int32.toInt ((5 * 3) + 2) ∧ Int32.toInt ((5 * 3) + 2) ≤ 17 from (by decide)) (by decide) (by decide))⟩, trivial⟩ ?_
  exact pw_ret hT rfl (r := some (pvI ((pvstab 1041).getD (Int32.toNatClampNeg ((5 * 3) + 2)) 0))) (M' := M) ⟨rfl, rfl⟩ ⟨rfl, rfl⟩
set_option maxHeartbeats 4000000 in
set_option maxRecDepth 10000 in
theorem sf_X0_bodyFrom_6_0 (M : pvM) (hok : pvOk M) (d : Nat) : PW 1 d (0, [some (pvI 6), some (pvI 0), none, none, none], [], M) (fun r X => r = some (pvI (((pvstab 1041).getD (Int32.toNatClampNeg ((6 * 3) + 0)) 0))) ∧ X = M) := by
  have hT : pvdom 1 = pvD_1 := rfl
  refine pw_blk hT 4 (S' := (4, [some (pvI 6), some (pvI 0), some (pvI 6), some (pvI 0), none], [], M)) rfl ⟨trivial, trivial, trivial, trivial, trivial⟩ ?_
  refine pw_blk hT 3 (S' := (9, [some (pvI 6), some (pvI 0), some (pvI 6), some (pvI 0), none], [pvI (Int32.ofNat (pvstab 1041).length), pvI 0], M)) rfl ⟨trivial, trivial, (by decide), trivial⟩ ?_
  refine pw_ic hT (c := (Int32.ofNat (pvstab 1041).length) ≤ 0) rfl rfl (fun c1_ => absurd c1_ (by decide)) (fun c1_ => ?_)
  refine pw_blk hT 1 (S' := (13, [some (pvI 6), some (pvI 0), some (pvI 6), some (pvI 0), none], [pvI 6], M)) rfl ⟨trivial, trivial⟩ ?_
  refine pw_if hT (c := 6 < 0) rfl rfl (fun c2_ => absurd c2_ (by decide)) (fun c2_ => ?_)
  refine pw_blk hT 7 (S' := (25, [some (pvI 6), some (pvI 0), some (pvI 6), some (pvI 0), some (pvI ((6 * 3) + 0))], [pvI ((6 * 3) + 0)], M)) rfl ⟨trivial, trivial, trivial, trivial, trivial, trivial, trivial, trivial⟩ ?_
  refine pw_if hT (c := ((6 * 3) + 0) < 0) rfl rfl (fun c3_ => absurd c3_ (by decide)) (fun c3_ => ?_)
  refine pw_blk hT 3 (S' := (34, [some (pvI 6), some (pvI 0), some (pvI 6), some (pvI 0), some (pvI ((6 * 3) + 0))], [pvI (Int32.ofNat (pvstab 1041).length), pvI ((6 * 3) + 0)], M)) rfl ⟨trivial, trivial, (by decide), trivial⟩ ?_
  refine pw_ic hT (c := (Int32.ofNat (pvstab 1041).length) ≤ ((6 * 3) + 0)) rfl rfl (fun c4_ => absurd c4_ (by decide)) (fun c4_ => ?_)
  refine pw_blk hT 3 (S' := (43, [some (pvI 6), some (pvI 0), some (pvI 6), some (pvI 0), some (pvI ((6 * 3) + 0))], [pvI ((pvstab 1041).getD (Int32.toNatClampNeg ((6 * 3) + 0)) 0)], M)) rfl ⟨trivial, trivial, ⟨by decide, (zr_in (n := 21) (show 18 ≤ Int32.toInt ((6 * 3) + 0) ∧ Int32.toInt ((6 * 3) + 0) ≤ 18 from (by decide)) (by decide) (by decide))⟩, trivial⟩ ?_
  refine pw_if hT (c := ((pvstab 1041).getD (Int32.toNatClampNeg ((6 * 3) + 0)) 0) = 0) rfl rfl (fun c5_ => absurd c5_ (by decide)) (fun c5_ => ?_)
  refine pw_blk hT 3 (S' := (52, [some (pvI 6), some (pvI 0), some (pvI 6), some (pvI 0), some (pvI ((6 * 3) + 0))], [pvI ((pvstab 1041).getD (Int32.toNatClampNeg ((6 * 3) + 0)) 0)], M)) rfl ⟨trivial, trivial, ⟨by decide, (zr_in (n := 21) (show 18 ≤ Int32.toInt ((6 * 3) + 0) ∧ Int32.toInt ((6 * 3) + 0) ≤ 18 from (by decide)) (by decide) (by decide))⟩, trivial⟩ ?_
  exact pw_ret hT rfl (r := some (pvI ((pvstab 1041).getD (Int32.toNatClampNeg ((6 * 3) + 0)) 0))) (M' := M) ⟨rfl, rfl⟩ ⟨rfl, rfl⟩
set_option maxHeartbeats 4000000 in
set_option maxRecDepth 10000 in
theorem sf_X0_bodyFrom_6_1 (M : pvM) (hok : pvOk M) (d : Nat) : PW 1 d (0, [some (pvI 6), some (pvI 1), none, none, none], [], M) (fun r X => r = some (pvI (((pvstab 1041).getD (Int32.toNatClampNeg ((6 * 3) + 1)) 0))) ∧ X = M) := by
  have hT : pvdom 1 = pvD_1 := rfl
  refine pw_blk hT 4 (S' := (4, [some (pvI 6), some (pvI 1), some (pvI 6), some (pvI 0), none], [], M)) rfl ⟨trivial, trivial, trivial, trivial, trivial⟩ ?_
  refine pw_blk hT 3 (S' := (9, [some (pvI 6), some (pvI 1), some (pvI 6), some (pvI 0), none], [pvI (Int32.ofNat (pvstab 1041).length), pvI 0], M)) rfl ⟨trivial, trivial, (by decide), trivial⟩ ?_
  refine pw_ic hT (c := (Int32.ofNat (pvstab 1041).length) ≤ 0) rfl rfl (fun c1_ => absurd c1_ (by decide)) (fun c1_ => ?_)
  refine pw_blk hT 1 (S' := (13, [some (pvI 6), some (pvI 1), some (pvI 6), some (pvI 0), none], [pvI 6], M)) rfl ⟨trivial, trivial⟩ ?_
  refine pw_if hT (c := 6 < 0) rfl rfl (fun c2_ => absurd c2_ (by decide)) (fun c2_ => ?_)
  refine pw_blk hT 7 (S' := (25, [some (pvI 6), some (pvI 1), some (pvI 6), some (pvI 0), some (pvI ((6 * 3) + 1))], [pvI ((6 * 3) + 1)], M)) rfl ⟨trivial, trivial, trivial, trivial, trivial, trivial, trivial, trivial⟩ ?_
  refine pw_if hT (c := ((6 * 3) + 1) < 0) rfl rfl (fun c3_ => absurd c3_ (by decide)) (fun c3_ => ?_)
  refine pw_blk hT 3 (S' := (34, [some (pvI 6), some (pvI 1), some (pvI 6), some (pvI 0), some (pvI ((6 * 3) + 1))], [pvI (Int32.ofNat (pvstab 1041).length), pvI ((6 * 3) + 1)], M)) rfl ⟨trivial, trivial, (by decide), trivial⟩ ?_
  refine pw_ic hT (c := (Int32.ofNat (pvstab 1041).length) ≤ ((6 * 3) + 1)) rfl rfl (fun c4_ => absurd c4_ (by decide)) (fun c4_ => ?_)
  refine pw_blk hT 3 (S' := (43, [some (pvI 6), some (pvI 1), some (pvI 6), some (pvI 0), some (pvI ((6 * 3) + 1))], [pvI ((pvstab 1041).getD (Int32.toNatClampNeg ((6 * 3) + 1)) 0)], M)) rfl ⟨trivial, trivial, ⟨by decide, (zr_in (n := 21) (show 19 ≤ Int32.toInt ((6 * 3) + 1) ∧ Int32.toInt ((6 * 3) + 1) ≤ 19 from (by decide)) (by decide) (by decide))⟩, trivial⟩ ?_
  refine pw_if hT (c := ((pvstab 1041).getD (Int32.toNatClampNeg ((6 * 3) + 1)) 0) = 0) rfl rfl (fun c5_ => absurd c5_ (by decide)) (fun c5_ => ?_)
  refine pw_blk hT 3 (S' := (52, [some (pvI 6), some (pvI 1), some (pvI 6), some (pvI 0), some (pvI ((6 * 3) + 1))], [pvI ((pvstab 1041).getD (Int32.toNatClampNeg ((6 * 3) + 1)) 0)], M)) rfl ⟨trivial, trivial, ⟨by decide, (zr_in (n := 21) (show 19 ≤ Int32.toInt ((6 * 3) + 1) ∧ Int32.toInt ((6 * 3) + 1) ≤ 19 from (by decide)) (by decide) (by decide))⟩, trivial⟩ ?_
  exact pw_ret hT rfl (r := some (pvI ((pvstab 1041).getD (Int32.toNatClampNeg ((6 * 3) + 1)) 0))) (M' := M) ⟨rfl, rfl⟩ ⟨rfl, rfl⟩
set_option maxHeartbeats 4000000 in
set_option maxRecDepth 10000 in
theorem sf_X3_above_6 (M : pvM) (hok : pvOk M) (d : Nat) : PW 131 d (0, [some (pvI 6)], [], M) (fun r X => r = some (pvI (((pvstab 1040).getD (Int32.toNatClampNeg 6) 0))) ∧ X = M) := by
  have hT : pvdom 131 = pvD_131 := rfl
  refine pw_blk hT 1 (S' := (1, [some (pvI 6)], [pvI 6], M)) rfl ⟨trivial, trivial⟩ ?_
  refine pw_if hT (c := 6 < 0) rfl rfl (fun c1_ => absurd c1_ (by decide)) (fun c1_ => ?_)
  refine pw_blk hT 3 (S' := (9, [some (pvI 6)], [pvI (Int32.ofNat (pvstab 1040).length), pvI 6], M)) rfl ⟨trivial, trivial, (by decide), trivial⟩ ?_
  refine pw_ic hT (c := 6 < (Int32.ofNat (pvstab 1040).length)) rfl rfl (fun c2_ => ?_) (fun c2_ => absurd (by decide) c2_)
  refine pw_blk hT 3 (S' := (21, [some (pvI 6)], [pvI ((pvstab 1040).getD (Int32.toNatClampNeg 6) 0)], M)) rfl ⟨trivial, trivial, ⟨by decide, (zr_in (n := 7) (show 6 ≤ Int32.toInt 6 ∧ Int32.toInt 6 ≤ 6 from (by decide)) (by decide) (by decide))⟩, trivial⟩ ?_
  exact pw_ret hT rfl (r := some (pvI ((pvstab 1040).getD (Int32.toNatClampNeg 6) 0))) (M' := M) ⟨rfl, rfl⟩ ⟨rfl, rfl⟩
set_option maxHeartbeats 4000000 in
set_option maxRecDepth 10000 in
theorem sf_X0_bodyFrom_6_2 (M : pvM) (hok : pvOk M) (d : Nat) : PW 1 d (0, [some (pvI 6), some (pvI 2), none, none, none], [], M) (fun r X => r = some (pvI (((pvstab 1041).getD (Int32.toNatClampNeg ((3 * 3) + 2)) 0))) ∧ X = M) := by
  have hT : pvdom 1 = pvD_1 := rfl
  refine pw_blk hT 4 (S' := (4, [some (pvI 6), some (pvI 2), some (pvI 6), some (pvI 0), none], [], M)) rfl ⟨trivial, trivial, trivial, trivial, trivial⟩ ?_
  refine pw_blk hT 3 (S' := (9, [some (pvI 6), some (pvI 2), some (pvI 6), some (pvI 0), none], [pvI (Int32.ofNat (pvstab 1041).length), pvI 0], M)) rfl ⟨trivial, trivial, (by decide), trivial⟩ ?_
  refine pw_ic hT (c := (Int32.ofNat (pvstab 1041).length) ≤ 0) rfl rfl (fun c1_ => absurd c1_ (by decide)) (fun c1_ => ?_)
  refine pw_blk hT 1 (S' := (13, [some (pvI 6), some (pvI 2), some (pvI 6), some (pvI 0), none], [pvI 6], M)) rfl ⟨trivial, trivial⟩ ?_
  refine pw_if hT (c := 6 < 0) rfl rfl (fun c2_ => absurd c2_ (by decide)) (fun c2_ => ?_)
  refine pw_blk hT 7 (S' := (25, [some (pvI 6), some (pvI 2), some (pvI 6), some (pvI 0), some (pvI ((6 * 3) + 2))], [pvI ((6 * 3) + 2)], M)) rfl ⟨trivial, trivial, trivial, trivial, trivial, trivial, trivial, trivial⟩ ?_
  refine pw_if hT (c := ((6 * 3) + 2) < 0) rfl rfl (fun c3_ => absurd c3_ (by decide)) (fun c3_ => ?_)
  refine pw_blk hT 3 (S' := (34, [some (pvI 6), some (pvI 2), some (pvI 6), some (pvI 0), some (pvI ((6 * 3) + 2))], [pvI (Int32.ofNat (pvstab 1041).length), pvI ((6 * 3) + 2)], M)) rfl ⟨trivial, trivial, (by decide), trivial⟩ ?_
  refine pw_ic hT (c := (Int32.ofNat (pvstab 1041).length) ≤ ((6 * 3) + 2)) rfl rfl (fun c4_ => absurd c4_ (by decide)) (fun c4_ => ?_)
  refine pw_blk hT 3 (S' := (43, [some (pvI 6), some (pvI 2), some (pvI 6), some (pvI 0), some (pvI ((6 * 3) + 2))], [pvI ((pvstab 1041).getD (Int32.toNatClampNeg ((6 * 3) + 2)) 0)], M)) rfl ⟨trivial, trivial, ⟨by decide, (zr_in (n := 21) (show 20 ≤ Int32.toInt ((6 * 3) + 2) ∧ Int32.toInt ((6 * 3) + 2) ≤ 20 from (by decide)) (by decide) (by decide))⟩, trivial⟩ ?_
  refine pw_if hT (c := ((pvstab 1041).getD (Int32.toNatClampNeg ((6 * 3) + 2)) 0) = 0) rfl rfl (fun c5_ => ?_) (fun c5_ => absurd (by decide) c5_)
  refine pw_blk hT 1 (S' := (54, [some (pvI 6), some (pvI 2), some (pvI 6), some (pvI 0), some (pvI ((6 * 3) + 2))], [pvI 6], M)) rfl ⟨trivial, trivial⟩ ?_
  refine pw_callT hT (as := [pvI 6]) (lo1 := [some (pvI 6)]) (d1 := d) (rest := []) rfl rfl rfl rfl rfl (fun h => absurd h (by decide)) (Nat.zero_le _) rfl rfl rfl (sf_X3_above_6 M hok d) ?_
  refine pw_eqI (show ((pvstab 1040).getD (Int32.toNatClampNeg 6) 0) = 3 from by decide) ?_
  show PW 1 d (57, [some (pvI 6), some (pvI 2), some (pvI 6), some (pvI 0), some (pvI ((6 * 3) + 2))], [pvI 3], M) _
  refine pw_blk hT 3 (S' := (4, [some (pvI 6), some (pvI 2), some (pvI 3), some (pvI (0 + 1)), some (pvI ((6 * 3) + 2))], [], M)) rfl ⟨trivial, trivial, trivial, trivial⟩ ?_
  refine pw_blk hT 3 (S' := (9, [some (pvI 6), some (pvI 2), some (pvI 3), some (pvI (0 + 1)), some (pvI ((6 * 3) + 2))], [pvI (Int32.ofNat (pvstab 1041).length), pvI (0 + 1)], M)) rfl ⟨trivial, trivial, (by decide), trivial⟩ ?_
  refine pw_ic hT (c := (Int32.ofNat (pvstab 1041).length) ≤ (0 + 1)) rfl rfl (fun c11_ => absurd c11_ (by decide)) (fun c11_ => ?_)
  refine pw_blk hT 1 (S' := (13, [some (pvI 6), some (pvI 2), some (pvI 3), some (pvI (0 + 1)), some (pvI ((6 * 3) + 2))], [pvI 3], M)) rfl ⟨trivial, trivial⟩ ?_
  refine pw_if hT (c := 3 < 0) rfl rfl (fun c12_ => absurd c12_ (by decide)) (fun c12_ => ?_)
  refine pw_blk hT 7 (S' := (25, [some (pvI 6), some (pvI 2), some (pvI 3), some (pvI (0 + 1)), some (pvI ((3 * 3) + 2))], [pvI ((3 * 3) + 2)], M)) rfl ⟨trivial, trivial, trivial, trivial, trivial, trivial, trivial, trivial⟩ ?_
  refine pw_if hT (c := ((3 * 3) + 2) < 0) rfl rfl (fun c13_ => absurd c13_ (by decide)) (fun c13_ => ?_)
  refine pw_blk hT 3 (S' := (34, [some (pvI 6), some (pvI 2), some (pvI 3), some (pvI (0 + 1)), some (pvI ((3 * 3) + 2))], [pvI (Int32.ofNat (pvstab 1041).length), pvI ((3 * 3) + 2)], M)) rfl ⟨trivial, trivial, (by decide), trivial⟩ ?_
  refine pw_ic hT (c := (Int32.ofNat (pvstab 1041).length) ≤ ((3 * 3) + 2)) rfl rfl (fun c14_ => absurd c14_ (by decide)) (fun c14_ => ?_)
  refine pw_blk hT 3 (S' := (43, [some (pvI 6), some (pvI 2), some (pvI 3), some (pvI (0 + 1)), some (pvI ((3 * 3) + 2))], [pvI ((pvstab 1041).getD (Int32.toNatClampNeg ((3 * 3) + 2)) 0)], M)) rfl ⟨trivial, trivial, ⟨by decide, (zr_in (n := 21) (show 11 ≤ Int32.toInt ((3 * 3) + 2) ∧ Int32.toInt ((3 * 3) + 2) ≤ 11 from (by decide)) (by decide) (by decide))⟩, trivial⟩ ?_
  refine pw_if hT (c := ((pvstab 1041).getD (Int32.toNatClampNeg ((3 * 3) + 2)) 0) = 0) rfl rfl (fun c15_ => absurd c15_ (by decide)) (fun c15_ => ?_)
  refine pw_blk hT 3 (S' := (52, [some (pvI 6), some (pvI 2), some (pvI 3), some (pvI (0 + 1)), some (pvI ((3 * 3) + 2))], [pvI ((pvstab 1041).getD (Int32.toNatClampNeg ((3 * 3) + 2)) 0)], M)) rfl ⟨trivial, trivial, ⟨by decide, (zr_in (n := 21) (show 11 ≤ Int32.toInt ((3 * 3) + 2) ∧ Int32.toInt ((3 * 3) + 2) ≤ 11 from (by decide)) (by decide) (by decide))⟩, trivial⟩ ?_
  exact pw_ret hT rfl (r := some (pvI ((pvstab 1041).getD (Int32.toNatClampNeg ((3 * 3) + 2)) 0))) (M' := M) ⟨rfl, rfl⟩ ⟨rfl, rfl⟩
set_option maxHeartbeats 4000000 in
set_option maxRecDepth 10000 in
theorem sf_X6_isFull_100 (M : pvM) (hok : pvOk M) (d : Nat) : PW 154 d (0, [some (pvR 100)], [], M) (fun r X => r = some (pvI ((if (M.1 100 0) < (Int32.ofNat 7) then 0 else 1))) ∧ X = M) := by
  have hT : pvdom 154 = pvD_154 := rfl
  have b1_ : 0 ≤ Int32.toInt (M.1 100 0) ∧ Int32.toInt (M.1 100 0) ≤ 7 := pvok_r hok 100 0 rfl
  refine pw_blk hT 5 (S' := (9, [some (pvR 100)], [pvI (Int32.ofNat 7), pvI (M.1 100 0)], M)) rfl ⟨trivial, rfl, trivial, rfl, rfl, trivial⟩ ?_
  refine pw_ic hT (c := (M.1 100 0) < (Int32.ofNat 7)) rfl rfl (fun c2_ => ?_) (fun c2_ => ?_)
  · have b3_ : 0 ≤ Int32.toInt (M.1 100 0) ∧ Int32.toInt (M.1 100 0) ≤ 6 := zr_lt_l 6 c2_ b1_ (show 7 ≤ Int32.toInt (Int32.ofNat 7) ∧ Int32.toInt (Int32.ofNat 7) ≤ 7 from (by decide)) (by decide)
    refine pw_blk hT 1 (S' := (17, [some (pvR 100)], [pvI 0], M)) rfl ⟨trivial, trivial⟩ ?_
    exact pw_ret hT rfl (r := some (pvI 0)) (M' := M) ⟨Or.inl rfl, rfl, rfl⟩ ⟨(by rw [if_pos c2_]), rfl⟩
  · have b4_ : 7 ≤ Int32.toInt (M.1 100 0) ∧ Int32.toInt (M.1 100 0) ≤ 7 := zr_nlt_l 7 c2_ b1_ (show 7 ≤ Int32.toInt (Int32.ofNat 7) ∧ Int32.toInt (Int32.ofNat 7) ≤ 7 from (by decide)) (by decide)
    refine pw_blk hT 2 (S' := (17, [some (pvR 100)], [pvI 1], M)) rfl ⟨trivial, trivial, trivial⟩ ?_
    exact pw_ret hT rfl (r := some (pvI 1)) (M' := M) ⟨Or.inr rfl, rfl, rfl⟩ ⟨(by rw [if_neg c2_]), rfl⟩
set_option maxHeartbeats 4000000 in
set_option maxRecDepth 10000 in
theorem sf_J6_bitCount_0f7a4_x (M : pvM) (hok : pvOk M) (n0 : Int32) (d : Nat) : PW 0 d (0, [some (pvI n0)], [], M) (fun r X => r = some (pvI (((((((((n0 - ((UInt32.toInt32 (Int32.toUInt32 n0 >>> (Int32.toUInt32 1 &&& Int32.toUInt32 31))) &&& 1431655765)) &&& 858993459) + ((UInt32.toInt32 (Int32.toUInt32 (n0 - ((UInt32.toInt32 (Int32.toUInt32 n0 >>> (Int32.toUInt32 1 &&& Int32.toUInt32 31))) &&& 1431655765)) >>> (Int32.toUInt32 2 &&& Int32.toUInt32 31))) &&& 858993459)) + (UInt32.toInt32 (Int32.toUInt32 (((n0 - ((UInt32.toInt32 (Int32.toUInt32 n0 >>> (Int32.toUInt32 1 &&& Int32.toUInt32 31))) &&& 1431655765)) &&& 858993459) + ((UInt32.toInt32 (Int32.toUInt32 (n0 - ((UInt32.toInt32 (Int32.toUInt32 n0 >>> (Int32.toUInt32 1 &&& Int32.toUInt32 31))) &&& 1431655765)) >>> (Int32.toUInt32 2 &&& Int32.toUInt32 31))) &&& 858993459)) >>> (Int32.toUInt32 4 &&& Int32.toUInt32 31)))) &&& 252645135) + (UInt32.toInt32 (Int32.toUInt32 (((((n0 - ((UInt32.toInt32 (Int32.toUInt32 n0 >>> (Int32.toUInt32 1 &&& Int32.toUInt32 31))) &&& 1431655765)) &&& 858993459) + ((UInt32.toInt32 (Int32.toUInt32 (n0 - ((UInt32.toInt32 (Int32.toUInt32 n0 >>> (Int32.toUInt32 1 &&& Int32.toUInt32 31))) &&& 1431655765)) >>> (Int32.toUInt32 2 &&& Int32.toUInt32 31))) &&& 858993459)) + (UInt32.toInt32 (Int32.toUInt32 (((n0 - ((UInt32.toInt32 (Int32.toUInt32 n0 >>> (Int32.toUInt32 1 &&& Int32.toUInt32 31))) &&& 1431655765)) &&& 858993459) + ((UInt32.toInt32 (Int32.toUInt32 (n0 - ((UInt32.toInt32 (Int32.toUInt32 n0 >>> (Int32.toUInt32 1 &&& Int32.toUInt32 31))) &&& 1431655765)) >>> (Int32.toUInt32 2 &&& Int32.toUInt32 31))) &&& 858993459)) >>> (Int32.toUInt32 4 &&& Int32.toUInt32 31)))) &&& 252645135) >>> (Int32.toUInt32 8 &&& Int32.toUInt32 31)))) + (UInt32.toInt32 (Int32.toUInt32 ((((((n0 - ((UInt32.toInt32 (Int32.toUInt32 n0 >>> (Int32.toUInt32 1 &&& Int32.toUInt32 31))) &&& 1431655765)) &&& 858993459) + ((UInt32.toInt32 (Int32.toUInt32 (n0 - ((UInt32.toInt32 (Int32.toUInt32 n0 >>> (Int32.toUInt32 1 &&& Int32.toUInt32 31))) &&& 1431655765)) >>> (Int32.toUInt32 2 &&& Int32.toUInt32 31))) &&& 858993459)) + (UInt32.toInt32 (Int32.toUInt32 (((n0 - ((UInt32.toInt32 (Int32.toUInt32 n0 >>> (Int32.toUInt32 1 &&& Int32.toUInt32 31))) &&& 1431655765)) &&& 858993459) + ((UInt32.toInt32 (Int32.toUInt32 (n0 - ((UInt32.toInt32 (Int32.toUInt32 n0 >>> (Int32.toUInt32 1 &&& Int32.toUInt32 31))) &&& 1431655765)) >>> (Int32.toUInt32 2 &&& Int32.toUInt32 31))) &&& 858993459)) >>> (Int32.toUInt32 4 &&& Int32.toUInt32 31)))) &&& 252645135) + (UInt32.toInt32 (Int32.toUInt32 (((((n0 - ((UInt32.toInt32 (Int32.toUInt32 n0 >>> (Int32.toUInt32 1 &&& Int32.toUInt32 31))) &&& 1431655765)) &&& 858993459) + ((UInt32.toInt32 (Int32.toUInt32 (n0 - ((UInt32.toInt32 (Int32.toUInt32 n0 >>> (Int32.toUInt32 1 &&& Int32.toUInt32 31))) &&& 1431655765)) >>> (Int32.toUInt32 2 &&& Int32.toUInt32 31))) &&& 858993459)) + (UInt32.toInt32 (Int32.toUInt32 (((n0 - ((UInt32.toInt32 (Int32.toUInt32 n0 >>> (Int32.toUInt32 1 &&& Int32.toUInt32 31))) &&& 1431655765)) &&& 858993459) + ((UInt32.toInt32 (Int32.toUInt32 (n0 - ((UInt32.toInt32 (Int32.toUInt32 n0 >>> (Int32.toUInt32 1 &&& Int32.toUInt32 31))) &&& 1431655765)) >>> (Int32.toUInt32 2 &&& Int32.toUInt32 31))) &&& 858993459)) >>> (Int32.toUInt32 4 &&& Int32.toUInt32 31)))) &&& 252645135) >>> (Int32.toUInt32 8 &&& Int32.toUInt32 31)))) >>> (Int32.toUInt32 16 &&& Int32.toUInt32 31)))) &&& 63))) ∧ X = M) := by
  have hT : pvdom 0 = pvD_0 := rfl
  refine pw_blk hT 41 (S' := (52, [some (pvI (((((((n0 - ((UInt32.toInt32 (Int32.toUInt32 n0 >>> (Int32.toUInt32 1 &&& Int32.toUInt32 31))) &&& 1431655765)) &&& 858993459) + ((UInt32.toInt32 (Int32.toUInt32 (n0 - ((UInt32.toInt32 (Int32.toUInt32 n0 >>> (Int32.toUInt32 1 &&& Int32.toUInt32 31))) &&& 1431655765)) >>> (Int32.toUInt32 2 &&& Int32.toUInt32 31))) &&& 858993459)) + (UInt32.toInt32 (Int32.toUInt32 (((n0 - ((UInt32.toInt32 (Int32.toUInt32 n0 >>> (Int32.toUInt32 1 &&& Int32.toUInt32 31))) &&& 1431655765)) &&& 858993459) + ((UInt32.toInt32 (Int32.toUInt32 (n0 - ((UInt32.toInt32 (Int32.toUInt32 n0 >>> (Int32.toUInt32 1 &&& Int32.toUInt32 31))) &&& 1431655765)) >>> (Int32.toUInt32 2 &&& Int32.toUInt32 31))) &&& 858993459)) >>> (Int32.toUInt32 4 &&& Int32.toUInt32 31)))) &&& 252645135) + (UInt32.toInt32 (Int32.toUInt32 (((((n0 - ((UInt32.toInt32 (Int32.toUInt32 n0 >>> (Int32.toUInt32 1 &&& Int32.toUInt32 31))) &&& 1431655765)) &&& 858993459) + ((UInt32.toInt32 (Int32.toUInt32 (n0 - ((UInt32.toInt32 (Int32.toUInt32 n0 >>> (Int32.toUInt32 1 &&& Int32.toUInt32 31))) &&& 1431655765)) >>> (Int32.toUInt32 2 &&& Int32.toUInt32 31))) &&& 858993459)) + (UInt32.toInt32 (Int32.toUInt32 (((n0 - ((UInt32.toInt32 (Int32.toUInt32 n0 >>> (Int32.toUInt32 1 &&& Int32.toUInt32 31))) &&& 1431655765)) &&& 858993459) + ((UInt32.toInt32 (Int32.toUInt32 (n0 - ((UInt32.toInt32 (Int32.toUInt32 n0 >>> (Int32.toUInt32 1 &&& Int32.toUInt32 31))) &&& 1431655765)) >>> (Int32.toUInt32 2 &&& Int32.toUInt32 31))) &&& 858993459)) >>> (Int32.toUInt32 4 &&& Int32.toUInt32 31)))) &&& 252645135) >>> (Int32.toUInt32 8 &&& Int32.toUInt32 31)))) + (UInt32.toInt32 (Int32.toUInt32 ((((((n0 - ((UInt32.toInt32 (Int32.toUInt32 n0 >>> (Int32.toUInt32 1 &&& Int32.toUInt32 31))) &&& 1431655765)) &&& 858993459) + ((UInt32.toInt32 (Int32.toUInt32 (n0 - ((UInt32.toInt32 (Int32.toUInt32 n0 >>> (Int32.toUInt32 1 &&& Int32.toUInt32 31))) &&& 1431655765)) >>> (Int32.toUInt32 2 &&& Int32.toUInt32 31))) &&& 858993459)) + (UInt32.toInt32 (Int32.toUInt32 (((n0 - ((UInt32.toInt32 (Int32.toUInt32 n0 >>> (Int32.toUInt32 1 &&& Int32.toUInt32 31))) &&& 1431655765)) &&& 858993459) + ((UInt32.toInt32 (Int32.toUInt32 (n0 - ((UInt32.toInt32 (Int32.toUInt32 n0 >>> (Int32.toUInt32 1 &&& Int32.toUInt32 31))) &&& 1431655765)) >>> (Int32.toUInt32 2 &&& Int32.toUInt32 31))) &&& 858993459)) >>> (Int32.toUInt32 4 &&& Int32.toUInt32 31)))) &&& 252645135) + (UInt32.toInt32 (Int32.toUInt32 (((((n0 - ((UInt32.toInt32 (Int32.toUInt32 n0 >>> (Int32.toUInt32 1 &&& Int32.toUInt32 31))) &&& 1431655765)) &&& 858993459) + ((UInt32.toInt32 (Int32.toUInt32 (n0 - ((UInt32.toInt32 (Int32.toUInt32 n0 >>> (Int32.toUInt32 1 &&& Int32.toUInt32 31))) &&& 1431655765)) >>> (Int32.toUInt32 2 &&& Int32.toUInt32 31))) &&& 858993459)) + (UInt32.toInt32 (Int32.toUInt32 (((n0 - ((UInt32.toInt32 (Int32.toUInt32 n0 >>> (Int32.toUInt32 1 &&& Int32.toUInt32 31))) &&& 1431655765)) &&& 858993459) + ((UInt32.toInt32 (Int32.toUInt32 (n0 - ((UInt32.toInt32 (Int32.toUInt32 n0 >>> (Int32.toUInt32 1 &&& Int32.toUInt32 31))) &&& 1431655765)) >>> (Int32.toUInt32 2 &&& Int32.toUInt32 31))) &&& 858993459)) >>> (Int32.toUInt32 4 &&& Int32.toUInt32 31)))) &&& 252645135) >>> (Int32.toUInt32 8 &&& Int32.toUInt32 31)))) >>> (Int32.toUInt32 16 &&& Int32.toUInt32 31)))))], [pvI ((((((((n0 - ((UInt32.toInt32 (Int32.toUInt32 n0 >>> (Int32.toUInt32 1 &&& Int32.toUInt32 31))) &&& 1431655765)) &&& 858993459) + ((UInt32.toInt32 (Int32.toUInt32 (n0 - ((UInt32.toInt32 (Int32.toUInt32 n0 >>> (Int32.toUInt32 1 &&& Int32.toUInt32 31))) &&& 1431655765)) >>> (Int32.toUInt32 2 &&& Int32.toUInt32 31))) &&& 858993459)) + (UInt32.toInt32 (Int32.toUInt32 (((n0 - ((UInt32.toInt32 (Int32.toUInt32 n0 >>> (Int32.toUInt32 1 &&& Int32.toUInt32 31))) &&& 1431655765)) &&& 858993459) + ((UInt32.toInt32 (Int32.toUInt32 (n0 - ((UInt32.toInt32 (Int32.toUInt32 n0 >>> (Int32.toUInt32 1 &&& Int32.toUInt32 31))) &&& 1431655765)) >>> (Int32.toUInt32 2 &&& Int32.toUInt32 31))) &&& 858993459)) >>> (Int32.toUInt32 4 &&& Int32.toUInt32 31)))) &&& 252645135) + (UInt32.toInt32 (Int32.toUInt32 (((((n0 - ((UInt32.toInt32 (Int32.toUInt32 n0 >>> (Int32.toUInt32 1 &&& Int32.toUInt32 31))) &&& 1431655765)) &&& 858993459) + ((UInt32.toInt32 (Int32.toUInt32 (n0 - ((UInt32.toInt32 (Int32.toUInt32 n0 >>> (Int32.toUInt32 1 &&& Int32.toUInt32 31))) &&& 1431655765)) >>> (Int32.toUInt32 2 &&& Int32.toUInt32 31))) &&& 858993459)) + (UInt32.toInt32 (Int32.toUInt32 (((n0 - ((UInt32.toInt32 (Int32.toUInt32 n0 >>> (Int32.toUInt32 1 &&& Int32.toUInt32 31))) &&& 1431655765)) &&& 858993459) + ((UInt32.toInt32 (Int32.toUInt32 (n0 - ((UInt32.toInt32 (Int32.toUInt32 n0 >>> (Int32.toUInt32 1 &&& Int32.toUInt32 31))) &&& 1431655765)) >>> (Int32.toUInt32 2 &&& Int32.toUInt32 31))) &&& 858993459)) >>> (Int32.toUInt32 4 &&& Int32.toUInt32 31)))) &&& 252645135) >>> (Int32.toUInt32 8 &&& Int32.toUInt32 31)))) + (UInt32.toInt32 (Int32.toUInt32 ((((((n0 - ((UInt32.toInt32 (Int32.toUInt32 n0 >>> (Int32.toUInt32 1 &&& Int32.toUInt32 31))) &&& 1431655765)) &&& 858993459) + ((UInt32.toInt32 (Int32.toUInt32 (n0 - ((UInt32.toInt32 (Int32.toUInt32 n0 >>> (Int32.toUInt32 1 &&& Int32.toUInt32 31))) &&& 1431655765)) >>> (Int32.toUInt32 2 &&& Int32.toUInt32 31))) &&& 858993459)) + (UInt32.toInt32 (Int32.toUInt32 (((n0 - ((UInt32.toInt32 (Int32.toUInt32 n0 >>> (Int32.toUInt32 1 &&& Int32.toUInt32 31))) &&& 1431655765)) &&& 858993459) + ((UInt32.toInt32 (Int32.toUInt32 (n0 - ((UInt32.toInt32 (Int32.toUInt32 n0 >>> (Int32.toUInt32 1 &&& Int32.toUInt32 31))) &&& 1431655765)) >>> (Int32.toUInt32 2 &&& Int32.toUInt32 31))) &&& 858993459)) >>> (Int32.toUInt32 4 &&& Int32.toUInt32 31)))) &&& 252645135) + (UInt32.toInt32 (Int32.toUInt32 (((((n0 - ((UInt32.toInt32 (Int32.toUInt32 n0 >>> (Int32.toUInt32 1 &&& Int32.toUInt32 31))) &&& 1431655765)) &&& 858993459) + ((UInt32.toInt32 (Int32.toUInt32 (n0 - ((UInt32.toInt32 (Int32.toUInt32 n0 >>> (Int32.toUInt32 1 &&& Int32.toUInt32 31))) &&& 1431655765)) >>> (Int32.toUInt32 2 &&& Int32.toUInt32 31))) &&& 858993459)) + (UInt32.toInt32 (Int32.toUInt32 (((n0 - ((UInt32.toInt32 (Int32.toUInt32 n0 >>> (Int32.toUInt32 1 &&& Int32.toUInt32 31))) &&& 1431655765)) &&& 858993459) + ((UInt32.toInt32 (Int32.toUInt32 (n0 - ((UInt32.toInt32 (Int32.toUInt32 n0 >>> (Int32.toUInt32 1 &&& Int32.toUInt32 31))) &&& 1431655765)) >>> (Int32.toUInt32 2 &&& Int32.toUInt32 31))) &&& 858993459)) >>> (Int32.toUInt32 4 &&& Int32.toUInt32 31)))) &&& 252645135) >>> (Int32.toUInt32 8 &&& Int32.toUInt32 31)))) >>> (Int32.toUInt32 16 &&& Int32.toUInt32 31)))) &&& 63)], M)) rfl ⟨trivial, trivial, trivial, trivial, trivial, trivial, trivial, trivial, trivial, trivial, trivial, trivial, trivial, trivial, trivial, trivial, trivial, trivial, trivial, trivial, trivial, trivial, trivial, trivial, trivial, trivial, trivial, trivial, trivial, trivial, trivial, trivial, trivial, trivial, trivial, trivial, trivial, trivial, trivial, trivial, trivial, trivial⟩ ?_
  exact pw_ret hT rfl (r := some (pvI ((((((((n0 - ((UInt32.toInt32 (Int32.toUInt32 n0 >>> (Int32.toUInt32 1 &&& Int32.toUInt32 31))) &&& 1431655765)) &&& 858993459) + ((UInt32.toInt32 (Int32.toUInt32 (n0 - ((UInt32.toInt32 (Int32.toUInt32 n0 >>> (Int32.toUInt32 1 &&& Int32.toUInt32 31))) &&& 1431655765)) >>> (Int32.toUInt32 2 &&& Int32.toUInt32 31))) &&& 858993459)) + (UInt32.toInt32 (Int32.toUInt32 (((n0 - ((UInt32.toInt32 (Int32.toUInt32 n0 >>> (Int32.toUInt32 1 &&& Int32.toUInt32 31))) &&& 1431655765)) &&& 858993459) + ((UInt32.toInt32 (Int32.toUInt32 (n0 - ((UInt32.toInt32 (Int32.toUInt32 n0 >>> (Int32.toUInt32 1 &&& Int32.toUInt32 31))) &&& 1431655765)) >>> (Int32.toUInt32 2 &&& Int32.toUInt32 31))) &&& 858993459)) >>> (Int32.toUInt32 4 &&& Int32.toUInt32 31)))) &&& 252645135) + (UInt32.toInt32 (Int32.toUInt32 (((((n0 - ((UInt32.toInt32 (Int32.toUInt32 n0 >>> (Int32.toUInt32 1 &&& Int32.toUInt32 31))) &&& 1431655765)) &&& 858993459) + ((UInt32.toInt32 (Int32.toUInt32 (n0 - ((UInt32.toInt32 (Int32.toUInt32 n0 >>> (Int32.toUInt32 1 &&& Int32.toUInt32 31))) &&& 1431655765)) >>> (Int32.toUInt32 2 &&& Int32.toUInt32 31))) &&& 858993459)) + (UInt32.toInt32 (Int32.toUInt32 (((n0 - ((UInt32.toInt32 (Int32.toUInt32 n0 >>> (Int32.toUInt32 1 &&& Int32.toUInt32 31))) &&& 1431655765)) &&& 858993459) + ((UInt32.toInt32 (Int32.toUInt32 (n0 - ((UInt32.toInt32 (Int32.toUInt32 n0 >>> (Int32.toUInt32 1 &&& Int32.toUInt32 31))) &&& 1431655765)) >>> (Int32.toUInt32 2 &&& Int32.toUInt32 31))) &&& 858993459)) >>> (Int32.toUInt32 4 &&& Int32.toUInt32 31)))) &&& 252645135) >>> (Int32.toUInt32 8 &&& Int32.toUInt32 31)))) + (UInt32.toInt32 (Int32.toUInt32 ((((((n0 - ((UInt32.toInt32 (Int32.toUInt32 n0 >>> (Int32.toUInt32 1 &&& Int32.toUInt32 31))) &&& 1431655765)) &&& 858993459) + ((UInt32.toInt32 (Int32.toUInt32 (n0 - ((UInt32.toInt32 (Int32.toUInt32 n0 >>> (Int32.toUInt32 1 &&& Int32.toUInt32 31))) &&& 1431655765)) >>> (Int32.toUInt32 2 &&& Int32.toUInt32 31))) &&& 858993459)) + (UInt32.toInt32 (Int32.toUInt32 (((n0 - ((UInt32.toInt32 (Int32.toUInt32 n0 >>> (Int32.toUInt32 1 &&& Int32.toUInt32 31))) &&& 1431655765)) &&& 858993459) + ((UInt32.toInt32 (Int32.toUInt32 (n0 - ((UInt32.toInt32 (Int32.toUInt32 n0 >>> (Int32.toUInt32 1 &&& Int32.toUInt32 31))) &&& 1431655765)) >>> (Int32.toUInt32 2 &&& Int32.toUInt32 31))) &&& 858993459)) >>> (Int32.toUInt32 4 &&& Int32.toUInt32 31)))) &&& 252645135) + (UInt32.toInt32 (Int32.toUInt32 (((((n0 - ((UInt32.toInt32 (Int32.toUInt32 n0 >>> (Int32.toUInt32 1 &&& Int32.toUInt32 31))) &&& 1431655765)) &&& 858993459) + ((UInt32.toInt32 (Int32.toUInt32 (n0 - ((UInt32.toInt32 (Int32.toUInt32 n0 >>> (Int32.toUInt32 1 &&& Int32.toUInt32 31))) &&& 1431655765)) >>> (Int32.toUInt32 2 &&& Int32.toUInt32 31))) &&& 858993459)) + (UInt32.toInt32 (Int32.toUInt32 (((n0 - ((UInt32.toInt32 (Int32.toUInt32 n0 >>> (Int32.toUInt32 1 &&& Int32.toUInt32 31))) &&& 1431655765)) &&& 858993459) + ((UInt32.toInt32 (Int32.toUInt32 (n0 - ((UInt32.toInt32 (Int32.toUInt32 n0 >>> (Int32.toUInt32 1 &&& Int32.toUInt32 31))) &&& 1431655765)) >>> (Int32.toUInt32 2 &&& Int32.toUInt32 31))) &&& 858993459)) >>> (Int32.toUInt32 4 &&& Int32.toUInt32 31)))) &&& 252645135) >>> (Int32.toUInt32 8 &&& Int32.toUInt32 31)))) >>> (Int32.toUInt32 16 &&& Int32.toUInt32 31)))) &&& 63))) (M' := M) ⟨rfl, rfl⟩ ⟨rfl, rfl⟩
set_option maxHeartbeats 4000000 in
set_option maxRecDepth 10000 in
theorem sf_X6_isFull_107 (M : pvM) (hok : pvOk M) (d : Nat) : PW 154 d (0, [some (pvR 107)], [], M) (fun r X => r = some (pvI ((if (M.1 107 0) < (Int32.ofNat 7) then 0 else 1))) ∧ X = M) := by
  have hT : pvdom 154 = pvD_154 := rfl
  have b1_ : 0 ≤ Int32.toInt (M.1 107 0) ∧ Int32.toInt (M.1 107 0) ≤ 7 := pvok_r hok 107 0 rfl
  refine pw_blk hT 5 (S' := (9, [some (pvR 107)], [pvI (Int32.ofNat 7), pvI (M.1 107 0)], M)) rfl ⟨trivial, rfl, trivial, rfl, rfl, trivial⟩ ?_
  refine pw_ic hT (c := (M.1 107 0) < (Int32.ofNat 7)) rfl rfl (fun c2_ => ?_) (fun c2_ => ?_)
  · have b3_ : 0 ≤ Int32.toInt (M.1 107 0) ∧ Int32.toInt (M.1 107 0) ≤ 6 := zr_lt_l 6 c2_ b1_ (show 7 ≤ Int32.toInt (Int32.ofNat 7) ∧ Int32.toInt (Int32.ofNat 7) ≤ 7 from (by decide)) (by decide)
    refine pw_blk hT 1 (S' := (17, [some (pvR 107)], [pvI 0], M)) rfl ⟨trivial, trivial⟩ ?_
    exact pw_ret hT rfl (r := some (pvI 0)) (M' := M) ⟨Or.inl rfl, rfl, rfl⟩ ⟨(by rw [if_pos c2_]), rfl⟩
  · have b4_ : 7 ≤ Int32.toInt (M.1 107 0) ∧ Int32.toInt (M.1 107 0) ≤ 7 := zr_nlt_l 7 c2_ b1_ (show 7 ≤ Int32.toInt (Int32.ofNat 7) ∧ Int32.toInt (Int32.ofNat 7) ≤ 7 from (by decide)) (by decide)
    refine pw_blk hT 2 (S' := (17, [some (pvR 107)], [pvI 1], M)) rfl ⟨trivial, trivial, trivial⟩ ?_
    exact pw_ret hT rfl (r := some (pvI 1)) (M' := M) ⟨Or.inr rfl, rfl, rfl⟩ ⟨(by rw [if_neg c2_]), rfl⟩
set_option maxHeartbeats 4000000 in
set_option maxRecDepth 10000 in
theorem sf_X6_isFull_106 (M : pvM) (hok : pvOk M) (d : Nat) : PW 154 d (0, [some (pvR 106)], [], M) (fun r X => r = some (pvI ((if (M.1 106 0) < (Int32.ofNat 7) then 0 else 1))) ∧ X = M) := by
  have hT : pvdom 154 = pvD_154 := rfl
  have b1_ : 0 ≤ Int32.toInt (M.1 106 0) ∧ Int32.toInt (M.1 106 0) ≤ 7 := pvok_r hok 106 0 rfl
  refine pw_blk hT 5 (S' := (9, [some (pvR 106)], [pvI (Int32.ofNat 7), pvI (M.1 106 0)], M)) rfl ⟨trivial, rfl, trivial, rfl, rfl, trivial⟩ ?_
  refine pw_ic hT (c := (M.1 106 0) < (Int32.ofNat 7)) rfl rfl (fun c2_ => ?_) (fun c2_ => ?_)
  · have b3_ : 0 ≤ Int32.toInt (M.1 106 0) ∧ Int32.toInt (M.1 106 0) ≤ 6 := zr_lt_l 6 c2_ b1_ (show 7 ≤ Int32.toInt (Int32.ofNat 7) ∧ Int32.toInt (Int32.ofNat 7) ≤ 7 from (by decide)) (by decide)
    refine pw_blk hT 1 (S' := (17, [some (pvR 106)], [pvI 0], M)) rfl ⟨trivial, trivial⟩ ?_
    exact pw_ret hT rfl (r := some (pvI 0)) (M' := M) ⟨Or.inl rfl, rfl, rfl⟩ ⟨(by rw [if_pos c2_]), rfl⟩
  · have b4_ : 7 ≤ Int32.toInt (M.1 106 0) ∧ Int32.toInt (M.1 106 0) ≤ 7 := zr_nlt_l 7 c2_ b1_ (show 7 ≤ Int32.toInt (Int32.ofNat 7) ∧ Int32.toInt (Int32.ofNat 7) ≤ 7 from (by decide)) (by decide)
    refine pw_blk hT 2 (S' := (17, [some (pvR 106)], [pvI 1], M)) rfl ⟨trivial, trivial, trivial⟩ ?_
    exact pw_ret hT rfl (r := some (pvI 1)) (M' := M) ⟨Or.inr rfl, rfl, rfl⟩ ⟨(by rw [if_neg c2_]), rfl⟩
set_option maxHeartbeats 4000000 in
set_option maxRecDepth 10000 in
theorem sf_X6_isFull_104 (M : pvM) (hok : pvOk M) (d : Nat) : PW 154 d (0, [some (pvR 104)], [], M) (fun r X => r = some (pvI ((if (M.1 104 0) < (Int32.ofNat 8) then 0 else 1))) ∧ X = M) := by
  have hT : pvdom 154 = pvD_154 := rfl
  have b1_ : 0 ≤ Int32.toInt (M.1 104 0) ∧ Int32.toInt (M.1 104 0) ≤ 8 := pvok_r hok 104 0 rfl
  refine pw_blk hT 5 (S' := (9, [some (pvR 104)], [pvI (Int32.ofNat 8), pvI (M.1 104 0)], M)) rfl ⟨trivial, rfl, trivial, rfl, rfl, trivial⟩ ?_
  refine pw_ic hT (c := (M.1 104 0) < (Int32.ofNat 8)) rfl rfl (fun c2_ => ?_) (fun c2_ => ?_)
  · have b3_ : 0 ≤ Int32.toInt (M.1 104 0) ∧ Int32.toInt (M.1 104 0) ≤ 7 := zr_lt_l 7 c2_ b1_ (show 8 ≤ Int32.toInt (Int32.ofNat 8) ∧ Int32.toInt (Int32.ofNat 8) ≤ 8 from (by decide)) (by decide)
    refine pw_blk hT 1 (S' := (17, [some (pvR 104)], [pvI 0], M)) rfl ⟨trivial, trivial⟩ ?_
    exact pw_ret hT rfl (r := some (pvI 0)) (M' := M) ⟨Or.inl rfl, rfl, rfl⟩ ⟨(by rw [if_pos c2_]), rfl⟩
  · have b4_ : 8 ≤ Int32.toInt (M.1 104 0) ∧ Int32.toInt (M.1 104 0) ≤ 8 := zr_nlt_l 8 c2_ b1_ (show 8 ≤ Int32.toInt (Int32.ofNat 8) ∧ Int32.toInt (Int32.ofNat 8) ≤ 8 from (by decide)) (by decide)
    refine pw_blk hT 2 (S' := (17, [some (pvR 104)], [pvI 1], M)) rfl ⟨trivial, trivial, trivial⟩ ?_
    exact pw_ret hT rfl (r := some (pvI 1)) (M' := M) ⟨Or.inr rfl, rfl, rfl⟩ ⟨(by rw [if_neg c2_]), rfl⟩
set_option maxHeartbeats 4000000 in
set_option maxRecDepth 10000 in
theorem sf_X6_isFull_101 (M : pvM) (hok : pvOk M) (d : Nat) : PW 154 d (0, [some (pvR 101)], [], M) (fun r X => r = some (pvI ((if (M.1 101 0) < (Int32.ofNat 7) then 0 else 1))) ∧ X = M) := by
  have hT : pvdom 154 = pvD_154 := rfl
  have b1_ : 0 ≤ Int32.toInt (M.1 101 0) ∧ Int32.toInt (M.1 101 0) ≤ 7 := pvok_r hok 101 0 rfl
  refine pw_blk hT 5 (S' := (9, [some (pvR 101)], [pvI (Int32.ofNat 7), pvI (M.1 101 0)], M)) rfl ⟨trivial, rfl, trivial, rfl, rfl, trivial⟩ ?_
  refine pw_ic hT (c := (M.1 101 0) < (Int32.ofNat 7)) rfl rfl (fun c2_ => ?_) (fun c2_ => ?_)
  · have b3_ : 0 ≤ Int32.toInt (M.1 101 0) ∧ Int32.toInt (M.1 101 0) ≤ 6 := zr_lt_l 6 c2_ b1_ (show 7 ≤ Int32.toInt (Int32.ofNat 7) ∧ Int32.toInt (Int32.ofNat 7) ≤ 7 from (by decide)) (by decide)
    refine pw_blk hT 1 (S' := (17, [some (pvR 101)], [pvI 0], M)) rfl ⟨trivial, trivial⟩ ?_
    exact pw_ret hT rfl (r := some (pvI 0)) (M' := M) ⟨Or.inl rfl, rfl, rfl⟩ ⟨(by rw [if_pos c2_]), rfl⟩
  · have b4_ : 7 ≤ Int32.toInt (M.1 101 0) ∧ Int32.toInt (M.1 101 0) ≤ 7 := zr_nlt_l 7 c2_ b1_ (show 7 ≤ Int32.toInt (Int32.ofNat 7) ∧ Int32.toInt (Int32.ofNat 7) ≤ 7 from (by decide)) (by decide)
    refine pw_blk hT 2 (S' := (17, [some (pvR 101)], [pvI 1], M)) rfl ⟨trivial, trivial, trivial⟩ ?_
    exact pw_ret hT rfl (r := some (pvI 1)) (M' := M) ⟨Or.inr rfl, rfl, rfl⟩ ⟨(by rw [if_neg c2_]), rfl⟩
set_option maxHeartbeats 4000000 in
set_option maxRecDepth 10000 in
theorem sf_X6_isFull_103 (M : pvM) (hok : pvOk M) (d : Nat) : PW 154 d (0, [some (pvR 103)], [], M) (fun r X => r = some (pvI ((if (M.1 103 0) < (Int32.ofNat 6) then 0 else 1))) ∧ X = M) := by
  have hT : pvdom 154 = pvD_154 := rfl
  have b1_ : 0 ≤ Int32.toInt (M.1 103 0) ∧ Int32.toInt (M.1 103 0) ≤ 6 := pvok_r hok 103 0 rfl
  refine pw_blk hT 5 (S' := (9, [some (pvR 103)], [pvI (Int32.ofNat 6), pvI (M.1 103 0)], M)) rfl ⟨trivial, rfl, trivial, rfl, rfl, trivial⟩ ?_
  refine pw_ic hT (c := (M.1 103 0) < (Int32.ofNat 6)) rfl rfl (fun c2_ => ?_) (fun c2_ => ?_)
  · have b3_ : 0 ≤ Int32.toInt (M.1 103 0) ∧ Int32.toInt (M.1 103 0) ≤ 5 := zr_lt_l 5 c2_ b1_ (show 6 ≤ Int32.toInt (Int32.ofNat 6) ∧ Int32.toInt (Int32.ofNat 6) ≤ 6 from (by decide)) (by decide)
    refine pw_blk hT 1 (S' := (17, [some (pvR 103)], [pvI 0], M)) rfl ⟨trivial, trivial⟩ ?_
    exact pw_ret hT rfl (r := some (pvI 0)) (M' := M) ⟨Or.inl rfl, rfl, rfl⟩ ⟨(by rw [if_pos c2_]), rfl⟩
  · have b4_ : 6 ≤ Int32.toInt (M.1 103 0) ∧ Int32.toInt (M.1 103 0) ≤ 6 := zr_nlt_l 6 c2_ b1_ (show 6 ≤ Int32.toInt (Int32.ofNat 6) ∧ Int32.toInt (Int32.ofNat 6) ≤ 6 from (by decide)) (by decide)
    refine pw_blk hT 2 (S' := (17, [some (pvR 103)], [pvI 1], M)) rfl ⟨trivial, trivial, trivial⟩ ?_
    exact pw_ret hT rfl (r := some (pvI 1)) (M' := M) ⟨Or.inr rfl, rfl, rfl⟩ ⟨(by rw [if_neg c2_]), rfl⟩
set_option maxHeartbeats 4000000 in
set_option maxRecDepth 10000 in
theorem sf_X6_isFull_105 (M : pvM) (hok : pvOk M) (d : Nat) : PW 154 d (0, [some (pvR 105)], [], M) (fun r X => r = some (pvI ((if (M.1 105 0) < (Int32.ofNat 8) then 0 else 1))) ∧ X = M) := by
  have hT : pvdom 154 = pvD_154 := rfl
  have b1_ : 0 ≤ Int32.toInt (M.1 105 0) ∧ Int32.toInt (M.1 105 0) ≤ 8 := pvok_r hok 105 0 rfl
  refine pw_blk hT 5 (S' := (9, [some (pvR 105)], [pvI (Int32.ofNat 8), pvI (M.1 105 0)], M)) rfl ⟨trivial, rfl, trivial, rfl, rfl, trivial⟩ ?_
  refine pw_ic hT (c := (M.1 105 0) < (Int32.ofNat 8)) rfl rfl (fun c2_ => ?_) (fun c2_ => ?_)
  · have b3_ : 0 ≤ Int32.toInt (M.1 105 0) ∧ Int32.toInt (M.1 105 0) ≤ 7 := zr_lt_l 7 c2_ b1_ (show 8 ≤ Int32.toInt (Int32.ofNat 8) ∧ Int32.toInt (Int32.ofNat 8) ≤ 8 from (by decide)) (by decide)
    refine pw_blk hT 1 (S' := (17, [some (pvR 105)], [pvI 0], M)) rfl ⟨trivial, trivial⟩ ?_
    exact pw_ret hT rfl (r := some (pvI 0)) (M' := M) ⟨Or.inl rfl, rfl, rfl⟩ ⟨(by rw [if_pos c2_]), rfl⟩
  · have b4_ : 8 ≤ Int32.toInt (M.1 105 0) ∧ Int32.toInt (M.1 105 0) ≤ 8 := zr_nlt_l 8 c2_ b1_ (show 8 ≤ Int32.toInt (Int32.ofNat 8) ∧ Int32.toInt (Int32.ofNat 8) ≤ 8 from (by decide)) (by decide)
    refine pw_blk hT 2 (S' := (17, [some (pvR 105)], [pvI 1], M)) rfl ⟨trivial, trivial, trivial⟩ ?_
    exact pw_ret hT rfl (r := some (pvI 1)) (M' := M) ⟨Or.inr rfl, rfl, rfl⟩ ⟨(by rw [if_neg c2_]), rfl⟩
set_option maxHeartbeats 4000000 in
set_option maxRecDepth 10000 in
theorem sf_X9_isPlace_x_x (M : pvM) (hok : pvOk M) (n0 : Int32) (n1 : Int32) (d : Nat) : PW 179 d (0, [some (pvI n0), some (pvI n1)], [], M) (fun r X => r = some (pvI ((if n0 < 0 then 0 else (if 3 < n0 then 0 else (if n1 < 0 then 0 else (if 4 < n1 then 0 else 1)))))) ∧ X = M) := by
  have hT : pvdom 179 = pvD_179 := rfl
  refine pw_blk hT 3 (S' := (3, [some (pvI n0), some (pvI n1)], [pvI 3, pvI 0, pvI n0], M)) rfl ⟨trivial, trivial, trivial, trivial⟩ ?_
  refine pw_callT hT (as := [pvI n0, pvI 0, pvI 3]) (lo1 := [some (pvI n0), some (pvI 0), some (pvI 3)]) (d1 := d) (rest := []) rfl rfl rfl rfl rfl (fun h => absurd h (by decide)) (Nat.zero_le _) rfl rfl rfl (sf_X9_within_x_x_x M hok n0 0 3 d) ?_
  by_cases c6_ : n0 < 0
  · refine pw_eqI (if_pos c6_) ?_
    have b7_ : (-2147483648) ≤ Int32.toInt n0 ∧ Int32.toInt n0 ≤ (-1) := zr_lt_l (-1) c6_ (zbnd n0) (show 0 ≤ Int32.toInt 0 ∧ Int32.toInt 0 ≤ 0 from (by decide)) (by decide)
    show PW 179 d (6, [some (pvI n0), some (pvI n1)], [pvI 0], M) _
    refine pw_if hT (c := 0 = 0) rfl rfl (fun c8_ => ?_) (fun c8_ => absurd (by decide) c8_)
    refine pw_blk hT 1 (S' := (23, [some (pvI n0), some (pvI n1)], [pvI 0], M)) rfl ⟨trivial, trivial⟩ ?_
    exact pw_ret hT rfl (r := some (pvI 0)) (M' := M) ⟨Or.inl rfl, rfl, rfl⟩ ⟨(by rw [if_pos c6_]), rfl⟩
  · refine pw_eqI (if_neg c6_) ?_
    have b9_ : 0 ≤ Int32.toInt n0 ∧ Int32.toInt n0 ≤ 2147483647 := zr_nlt_l 0 c6_ (zbnd n0) (show 0 ≤ Int32.toInt 0 ∧ Int32.toInt 0 ≤ 0 from (by decide)) (by decide)
    by_cases c10_ : 3 < n0
    · refine pw_eqI (if_pos c10_) ?_
      have b11_ : 4 ≤ Int32.toInt n0 ∧ Int32.toInt n0 ≤ 2147483647 := zr_lt_r 4 c10_ b9_ (show 3 ≤ Int32.toInt 3 ∧ Int32.toInt 3 ≤ 3 from (by decide)) (by decide)
      show PW 179 d (6, [some (pvI n0), some (pvI n1)], [pvI 0], M) _
      refine pw_if hT (c := 0 = 0) rfl rfl (fun c12_ => ?_) (fun c12_ => absurd (by decide) c12_)
      refine pw_blk hT 1 (S' := (23, [some (pvI n0), some (pvI n1)], [pvI 0], M)) rfl ⟨trivial, trivial⟩ ?_
      exact pw_ret hT rfl (r := some (pvI 0)) (M' := M) ⟨Or.inl rfl, rfl, rfl⟩ ⟨(by rw [if_neg c6_, if_pos c10_]), rfl⟩
    · refine pw_eqI (if_neg c10_) ?_
      have b13_ : 0 ≤ Int32.toInt n0 ∧ Int32.toInt n0 ≤ 3 := zr_nlt_r 3 c10_ b9_ (show 3 ≤ Int32.toInt 3 ∧ Int32.toInt 3 ≤ 3 from (by decide)) (by decide)
      show PW 179 d (6, [some (pvI n0), some (pvI n1)], [pvI 1], M) _
      refine pw_if hT (c := 1 = 0) rfl rfl (fun c14_ => absurd c14_ (by decide)) (fun c14_ => ?_)
      refine pw_blk hT 3 (S' := (12, [some (pvI n0), some (pvI n1)], [pvI 4, pvI 0, pvI n1], M)) rfl ⟨trivial, trivial, trivial, trivial⟩ ?_
      refine pw_callT hT (as := [pvI n1, pvI 0, pvI 4]) (lo1 := [some (pvI n1), some (pvI 0), some (pvI 4)]) (d1 := d) (rest := []) rfl rfl rfl rfl rfl (fun h => absurd h (by decide)) (Nat.zero_le _) rfl rfl rfl (sf_X9_within_x_x_x M hok n1 0 4 d) ?_
      by_cases c20_ : n1 < 0
      · refine pw_eqI (if_pos c20_) ?_
        have b21_ : (-2147483648) ≤ Int32.toInt n1 ∧ Int32.toInt n1 ≤ (-1) := zr_lt_l (-1) c20_ (zbnd n1) (show 0 ≤ Int32.toInt 0 ∧ Int32.toInt 0 ≤ 0 from (by decide)) (by decide)
        show PW 179 d (15, [some (pvI n0), some (pvI n1)], [pvI 0], M) _
        refine pw_if hT (c := 0 = 0) rfl rfl (fun c22_ => ?_) (fun c22_ => absurd (by decide) c22_)
        refine pw_blk hT 1 (S' := (23, [some (pvI n0), some (pvI n1)], [pvI 0], M)) rfl ⟨trivial, trivial⟩ ?_
        exact pw_ret hT rfl (r := some (pvI 0)) (M' := M) ⟨Or.inl rfl, rfl, rfl⟩ ⟨(by rw [if_neg c6_, if_neg c10_, if_pos c20_]), rfl⟩
      · refine pw_eqI (if_neg c20_) ?_
        have b23_ : 0 ≤ Int32.toInt n1 ∧ Int32.toInt n1 ≤ 2147483647 := zr_nlt_l 0 c20_ (zbnd n1) (show 0 ≤ Int32.toInt 0 ∧ Int32.toInt 0 ≤ 0 from (by decide)) (by decide)
        by_cases c24_ : 4 < n1
        · refine pw_eqI (if_pos c24_) ?_
          have b25_ : 5 ≤ Int32.toInt n1 ∧ Int32.toInt n1 ≤ 2147483647 := zr_lt_r 5 c24_ b23_ (show 4 ≤ Int32.toInt 4 ∧ Int32.toInt 4 ≤ 4 from (by decide)) (by decide)
          show PW 179 d (15, [some (pvI n0), some (pvI n1)], [pvI 0], M) _
          refine pw_if hT (c := 0 = 0) rfl rfl (fun c26_ => ?_) (fun c26_ => absurd (by decide) c26_)
          refine pw_blk hT 1 (S' := (23, [some (pvI n0), some (pvI n1)], [pvI 0], M)) rfl ⟨trivial, trivial⟩ ?_
          exact pw_ret hT rfl (r := some (pvI 0)) (M' := M) ⟨Or.inl rfl, rfl, rfl⟩ ⟨(by rw [if_neg c6_, if_neg c10_, if_neg c20_, if_pos c24_]), rfl⟩
        · refine pw_eqI (if_neg c24_) ?_
          have b27_ : 0 ≤ Int32.toInt n1 ∧ Int32.toInt n1 ≤ 4 := zr_nlt_r 4 c24_ b23_ (show 4 ≤ Int32.toInt 4 ∧ Int32.toInt 4 ≤ 4 from (by decide)) (by decide)
          show PW 179 d (15, [some (pvI n0), some (pvI n1)], [pvI 1], M) _
          refine pw_if hT (c := 1 = 0) rfl rfl (fun c28_ => absurd c28_ (by decide)) (fun c28_ => ?_)
          refine pw_blk hT 2 (S' := (23, [some (pvI n0), some (pvI n1)], [pvI 1], M)) rfl ⟨trivial, trivial, trivial⟩ ?_
          exact pw_ret hT rfl (r := some (pvI 1)) (M' := M) ⟨Or.inr rfl, rfl, rfl⟩ ⟨(by rw [if_neg c6_, if_neg c10_, if_neg c20_, if_neg c24_]), rfl⟩
set_option maxHeartbeats 4000000 in
set_option maxRecDepth 10000 in
theorem sf_X9_isTape_x (M : pvM) (hok : pvOk M) (n0 : Int32) (d : Nat) : PW 180 d (0, [some (pvI n0)], [], M) (fun r X => r = some (pvI ((if n0 < 0 then 0 else (if 5 < n0 then 0 else 1)))) ∧ X = M) := by
  have hT : pvdom 180 = pvD_180 := rfl
  refine pw_blk hT 3 (S' := (3, [some (pvI n0)], [pvI 5, pvI 0, pvI n0], M)) rfl ⟨trivial, trivial, trivial, trivial⟩ ?_
  refine pw_callT hT (as := [pvI n0, pvI 0, pvI 5]) (lo1 := [some (pvI n0), some (pvI 0), some (pvI 5)]) (d1 := d) (rest := []) rfl rfl rfl rfl rfl (fun h => absurd h (by decide)) (Nat.zero_le _) rfl rfl rfl (sf_X9_within_x_x_x M hok n0 0 5 d) ?_
  by_cases c6_ : n0 < 0
  · refine pw_eqI (if_pos c6_) ?_
    have b7_ : (-2147483648) ≤ Int32.toInt n0 ∧ Int32.toInt n0 ≤ (-1) := zr_lt_l (-1) c6_ (zbnd n0) (show 0 ≤ Int32.toInt 0 ∧ Int32.toInt 0 ≤ 0 from (by decide)) (by decide)
    show PW 180 d (6, [some (pvI n0)], [pvI 0], M) _
    exact pw_ret hT rfl (r := some (pvI 0)) (M' := M) ⟨Or.inl rfl, rfl, rfl⟩ ⟨(by rw [if_pos c6_]), rfl⟩
  · refine pw_eqI (if_neg c6_) ?_
    have b8_ : 0 ≤ Int32.toInt n0 ∧ Int32.toInt n0 ≤ 2147483647 := zr_nlt_l 0 c6_ (zbnd n0) (show 0 ≤ Int32.toInt 0 ∧ Int32.toInt 0 ≤ 0 from (by decide)) (by decide)
    by_cases c9_ : 5 < n0
    · refine pw_eqI (if_pos c9_) ?_
      have b10_ : 6 ≤ Int32.toInt n0 ∧ Int32.toInt n0 ≤ 2147483647 := zr_lt_r 6 c9_ b8_ (show 5 ≤ Int32.toInt 5 ∧ Int32.toInt 5 ≤ 5 from (by decide)) (by decide)
      show PW 180 d (6, [some (pvI n0)], [pvI 0], M) _
      exact pw_ret hT rfl (r := some (pvI 0)) (M' := M) ⟨Or.inl rfl, rfl, rfl⟩ ⟨(by rw [if_neg c6_, if_pos c9_]), rfl⟩
    · refine pw_eqI (if_neg c9_) ?_
      have b11_ : 0 ≤ Int32.toInt n0 ∧ Int32.toInt n0 ≤ 5 := zr_nlt_r 5 c9_ b8_ (show 5 ≤ Int32.toInt 5 ∧ Int32.toInt 5 ≤ 5 from (by decide)) (by decide)
      show PW 180 d (6, [some (pvI n0)], [pvI 1], M) _
      exact pw_ret hT rfl (r := some (pvI 1)) (M' := M) ⟨Or.inr rfl, rfl, rfl⟩ ⟨(by rw [if_neg c6_, if_neg c9_]), rfl⟩
set_option maxHeartbeats 4000000 in
set_option maxRecDepth 10000 in
theorem sf_X8_isNothing_x (M : pvM) (hok : pvOk M) (q0 : Nat) (hq0 : pvkl q0 = 7) (d : Nat) : PW 165 d (0, [some (pvR q0)], [], M) (fun r X => r = some (pvI ((if (M.1 q0 0) = (-1) then 1 else 0))) ∧ X = M) := by
  have hT : pvdom 165 = pvD_165 := rfl
  have b1_ : (-1) ≤ Int32.toInt (M.1 q0 0) ∧ Int32.toInt (M.1 q0 0) ≤ 4 := pvok_r hok q0 0 ((pvrg_o 0 hq0 (by decide) (by decide)).trans rfl)
  refine pw_blk hT 3 (S' := (5, [some (pvR q0)], [pvI (-1), pvI (M.1 q0 0)], M)) rfl ⟨trivial, hq0, trivial, trivial⟩ ?_
  refine pw_icn hT (c := (M.1 q0 0) = (-1)) rfl rfl (fun c2_ => ?_) (fun c2_ => ?_)
  · have b3_ : 0 ≤ Int32.toInt (M.1 q0 0) ∧ Int32.toInt (M.1 q0 0) ≤ 4 := (by have u0 := b1_; have u1 := (not_congr (zi_eq _ _)).mp c2_; have u2 := (show (-1) ≤ Int32.toInt (-1) ∧ Int32.toInt (-1) ≤ (-1) from (by decide)); omega)
    refine pw_blk hT 1 (S' := (13, [some (pvR q0)], [pvI 0], M)) rfl ⟨trivial, trivial⟩ ?_
    exact pw_ret hT rfl (r := some (pvI 0)) (M' := M) ⟨Or.inl rfl, rfl, rfl⟩ ⟨(by rw [if_neg c2_]), rfl⟩
  · have b4_ : (-1) ≤ Int32.toInt (M.1 q0 0) ∧ Int32.toInt (M.1 q0 0) ≤ (-1) := (by have u0 := b1_; have u1 := (zi_eq _ _).mp c2_; have u2 := (show (-1) ≤ Int32.toInt (-1) ∧ Int32.toInt (-1) ≤ (-1) from (by decide)); omega)
    refine pw_blk hT 2 (S' := (13, [some (pvR q0)], [pvI 1], M)) rfl ⟨trivial, trivial, trivial⟩ ?_
    exact pw_ret hT rfl (r := some (pvI 1)) (M' := M) ⟨Or.inr rfl, rfl, rfl⟩ ⟨(by rw [if_pos c2_]), rfl⟩
set_option maxHeartbeats 4000000 in
set_option maxRecDepth 10000 in
theorem sf_X8_hasPlace_x_x (M : pvM) (hok : pvOk M) (q0 : Nat) (n1 : Int32) (hq0 : pvkl q0 = 7) (d : Nat) : PW 163 d (0, [some (pvR q0), some (pvI n1)], [], M) (fun r X => r = some (pvI ((if n1 < 0 then 0 else (if (M.1 q0 1) ≤ n1 then 0 else 1)))) ∧ X = M) := by
  have hT : pvdom 163 = pvD_163 := rfl
  refine pw_blk hT 1 (S' := (1, [some (pvR q0), some (pvI n1)], [pvI n1], M)) rfl ⟨trivial, trivial⟩ ?_
  refine pw_if hT (c := n1 < 0) rfl rfl (fun c1_ => ?_) (fun c1_ => ?_)
  · have b2_ : (-2147483648) ≤ Int32.toInt n1 ∧ Int32.toInt n1 ≤ (-1) := zr_lt_l (-1) c1_ (zbnd n1) (show 0 ≤ Int32.toInt 0 ∧ Int32.toInt 0 ≤ 0 from (by decide)) (by decide)
    refine pw_blk hT 1 (S' := (17, [some (pvR q0), some (pvI n1)], [pvI 0], M)) rfl ⟨trivial, trivial⟩ ?_
    exact pw_ret hT rfl (r := some (pvI 0)) (M' := M) ⟨Or.inl rfl, rfl, rfl⟩ ⟨(by rw [if_pos c1_]), rfl⟩
  · have b3_ : 0 ≤ Int32.toInt n1 ∧ Int32.toInt n1 ≤ 2147483647 := zr_nlt_l 0 c1_ (zbnd n1) (show 0 ≤ Int32.toInt 0 ∧ Int32.toInt 0 ≤ 0 from (by decide)) (by decide)
    have b4_ : 0 ≤ Int32.toInt (M.1 q0 1) ∧ Int32.toInt (M.1 q0 1) ≤ 60 := pvok_r hok q0 1 ((pvrg_o 1 hq0 (by decide) (by decide)).trans rfl)
    refine pw_blk hT 3 (S' := (9, [some (pvR q0), some (pvI n1)], [pvI (M.1 q0 1), pvI n1], M)) rfl ⟨trivial, trivial, hq0, trivial⟩ ?_
    refine pw_ic hT (c := (M.1 q0 1) ≤ n1) rfl rfl (fun c5_ => ?_) (fun c5_ => ?_)
    · have d6_ : Int32.toInt (M.1 q0 1) ≤ Int32.toInt n1 := (zi_le _ _).mp c5_
      refine pw_blk hT 1 (S' := (17, [some (pvR q0), some (pvI n1)], [pvI 0], M)) rfl ⟨trivial, trivial⟩ ?_
      exact pw_ret hT rfl (r := some (pvI 0)) (M' := M) ⟨Or.inl rfl, rfl, rfl⟩ ⟨(by rw [if_neg c1_, if_pos c5_]), rfl⟩
    · have b7_ : 1 ≤ Int32.toInt (M.1 q0 1) ∧ Int32.toInt (M.1 q0 1) ≤ 60 := zr_nle_l 1 c5_ b4_ b3_ (by decide)
      have b8_ : 0 ≤ Int32.toInt n1 ∧ Int32.toInt n1 ≤ 59 := zr_nle_r 59 c5_ b3_ b7_ (by decide)
      have d9_ : Int32.toInt (M.1 q0 1) > Int32.toInt n1 := Int.not_le.mp ((not_congr (zi_le _ _)).mp c5_)
      refine pw_blk hT 2 (S' := (17, [some (pvR q0), some (pvI n1)], [pvI 1], M)) rfl ⟨trivial, trivial, trivial⟩ ?_
      exact pw_ret hT rfl (r := some (pvI 1)) (M' := M) ⟨Or.inr rfl, rfl, rfl⟩ ⟨(by rw [if_neg c1_, if_neg c5_]), rfl⟩
set_option maxHeartbeats 4000000 in
set_option maxRecDepth 10000 in
theorem sf_X8_asItem_x_x (M : pvM) (hok : pvOk M) (q0 : Nat) (n1 : Int64) (hq0 : pvkl q0 = 7) (d : Nat) : PW 161 d (0, [some (pvR q0), some (pvJ n1), none], [], M) (fun r X => (∃ x : Int64, r = some (pvJ x)) ∧ X = M) := by
  have hT : pvdom 161 = pvD_161 := rfl
  have b1_ : (-1) ≤ Int32.toInt (M.1 q0 0) ∧ Int32.toInt (M.1 q0 0) ≤ 4 := pvok_r hok q0 0 ((pvrg_o 0 hq0 (by decide) (by decide)).trans rfl)
  refine pw_blk hT 2 (S' := (4, [some (pvR q0), some (pvJ n1), none], [pvI (M.1 q0 0)], M)) rfl ⟨trivial, hq0, trivial⟩ ?_
  refine pw_sw hT rfl rfl ?_
  refine And.intro (fun c2_ => ?_) (fun c2_ => ?_)
  · show PW 161 d (40, [some (pvR q0), some (pvJ n1), none], [], M) _
    have b3_ : 0 ≤ Int32.toInt (M.1 q0 0) ∧ Int32.toInt (M.1 q0 0) ≤ 0 := (by have u0 := b1_; have u1 := (zi_eq _ _).mp c2_; have u2 := (show 0 ≤ Int32.toInt 0 ∧ Int32.toInt 0 ≤ 0 from (by decide)); omega)
    refine pw_blk hT 4 (S' := (44, [some (pvR q0), some (pvJ n1), none], [pvJ (Int32.toInt64 (Int8.toInt32 (Int32.toInt8 (Int64.toInt32 n1))))], M)) rfl ⟨trivial, trivial, trivial, trivial, trivial⟩ ?_
    exact pw_ret hT rfl (r := some (pvJ (Int32.toInt64 (Int8.toInt32 (Int32.toInt8 (Int64.toInt32 n1)))))) (M' := M) ⟨rfl, rfl⟩ ⟨⟨_, rfl⟩, rfl⟩
  · refine And.intro (fun c4_ => ?_) (fun c4_ => ?_)
    · show PW 161 d (45, [some (pvR q0), some (pvJ n1), none], [], M) _
      have b5_ : 1 ≤ Int32.toInt (M.1 q0 0) ∧ Int32.toInt (M.1 q0 0) ≤ 1 := (by have u0 := b1_; have u1 := (zi_eq _ _).mp c4_; have u2 := (show 1 ≤ Int32.toInt 1 ∧ Int32.toInt 1 ≤ 1 from (by decide)); omega)
      refine pw_blk hT 4 (S' := (49, [some (pvR q0), some (pvJ n1), none], [pvJ (Int32.toInt64 (Int16.toInt32 (Int32.toInt16 (Int64.toInt32 n1))))], M)) rfl ⟨trivial, trivial, trivial, trivial, trivial⟩ ?_
      exact pw_ret hT rfl (r := some (pvJ (Int32.toInt64 (Int16.toInt32 (Int32.toInt16 (Int64.toInt32 n1)))))) (M' := M) ⟨rfl, rfl⟩ ⟨⟨_, rfl⟩, rfl⟩
    · refine And.intro (fun c6_ => ?_) (fun c6_ => ?_)
      · show PW 161 d (50, [some (pvR q0), some (pvJ n1), none], [], M) _
        have b7_ : 2 ≤ Int32.toInt (M.1 q0 0) ∧ Int32.toInt (M.1 q0 0) ≤ 2 := (by have u0 := b1_; have u1 := (zi_eq _ _).mp c6_; have u2 := (show 2 ≤ Int32.toInt 2 ∧ Int32.toInt 2 ≤ 2 from (by decide)); omega)
        refine pw_blk hT 3 (S' := (53, [some (pvR q0), some (pvJ n1), none], [pvJ (Int32.toInt64 (Int64.toInt32 n1))], M)) rfl ⟨trivial, trivial, trivial, trivial⟩ ?_
        exact pw_ret hT rfl (r := some (pvJ (Int32.toInt64 (Int64.toInt32 n1)))) (M' := M) ⟨rfl, rfl⟩ ⟨⟨_, rfl⟩, rfl⟩
      · refine And.intro (fun c8_ => ?_) (fun c8_ => ?_)
        · show PW 161 d (66, [some (pvR q0), some (pvJ n1), none], [], M) _
          have b9_ : 3 ≤ Int32.toInt (M.1 q0 0) ∧ Int32.toInt (M.1 q0 0) ≤ 3 := (by have u0 := b1_; have u1 := (zi_eq _ _).mp c8_; have u2 := (show 3 ≤ Int32.toInt 3 ∧ Int32.toInt 3 ≤ 3 from (by decide)); omega)
          refine pw_blk hT 1 (S' := (67, [some (pvR q0), some (pvJ n1), none], [pvJ n1], M)) rfl ⟨trivial, trivial⟩ ?_
          exact pw_ret hT rfl (r := some (pvJ n1)) (M' := M) ⟨rfl, rfl⟩ ⟨⟨_, rfl⟩, rfl⟩
        · refine And.intro (fun c10_ => ?_) (fun c10_ => ?_)
          · show PW 161 d (54, [some (pvR q0), some (pvJ n1), none], [], M) _
            have b11_ : 4 ≤ Int32.toInt (M.1 q0 0) ∧ Int32.toInt (M.1 q0 0) ≤ 4 := (by have u0 := b1_; have u1 := (zi_eq _ _).mp c10_; have u2 := (show 4 ≤ Int32.toInt 4 ∧ Int32.toInt 4 ≤ 4 from (by decide)); omega)
            refine pw_blk hT 3 (S' := (57, [some (pvR q0), some (pvJ n1), none], [pvI (lg_cmp n1 0)], M)) rfl ⟨trivial, trivial, trivial, trivial⟩ ?_
            refine pw_if hT (c := (lg_cmp n1 0) = 0) rfl rfl (fun c12_ => ?_) (fun c12_ => ?_)
            · have b13_ : 0 ≤ Int32.toInt (lg_cmp n1 0) ∧ Int32.toInt (lg_cmp n1 0) ≤ 0 := (by have u0 := (zbnd (lg_cmp n1 0)); have u1 := (zi_eq _ _).mp c12_; have u2 := (show 0 ≤ Int32.toInt 0 ∧ Int32.toInt 0 ≤ 0 from (by decide)); omega)
              refine pw_blk hT 1 (S' := (65, [some (pvR q0), some (pvJ n1), none], [pvJ 0], M)) rfl ⟨trivial, trivial⟩ ?_
              exact pw_ret hT rfl (r := some (pvJ 0)) (M' := M) ⟨rfl, rfl⟩ ⟨⟨_, rfl⟩, rfl⟩
            · refine pw_blk hT 2 (S' := (65, [some (pvR q0), some (pvJ n1), none], [pvJ 1], M)) rfl ⟨trivial, trivial, trivial⟩ ?_
              exact pw_ret hT rfl (r := some (pvJ 1)) (M' := M) ⟨rfl, rfl⟩ ⟨⟨_, rfl⟩, rfl⟩
          · have b14_ : (-1) ≤ Int32.toInt (M.1 q0 0) ∧ Int32.toInt (M.1 q0 0) ≤ (-1) := (by have u0 := b1_; have u9 := (show _ ∧ _ from ⟨(not_congr (zi_eq _ _)).mp c10_, (show 4 ≤ Int32.toInt 4 ∧ Int32.toInt 4 ≤ 4 from (by decide))⟩); have v1 := (not_congr (zi_eq _ _)).mp c8_; have w1 : (3 : Int32).toInt = 3 := (by decide); have v2 := (not_congr (zi_eq _ _)).mp c6_; have w2 : (2 : Int32).toInt = 2 := (by decide); have v3 := (not_congr (zi_eq _ _)).mp c4_; have w3 : (1 : Int32).toInt = 1 := (by decide); have v4 := (not_congr (zi_eq _ _)).mp c2_; have w4 : (0 : Int32).toInt = 0 := (by decide); omega)
            show PW 161 d (66, [some (pvR q0), some (pvJ n1), none], [], M) _
            refine pw_blk hT 1 (S' := (67, [some (pvR q0), some (pvJ n1), none], [pvJ n1], M)) rfl ⟨trivial, trivial⟩ ?_
            exact pw_ret hT rfl (r := some (pvJ n1)) (M' := M) ⟨rfl, rfl⟩ ⟨⟨_, rfl⟩, rfl⟩
def fpL_X9_item_0_x_x_x : List (Nat × Nat × Nat) := []
def fp_X9_item_0_x_x_x (q k : Nat) : Bool := pvfp fpL_X9_item_0_x_x_x q k
set_option maxHeartbeats 4000000 in
set_option maxRecDepth 10000 in
theorem sf_X9_item_0_x_x_x (M : pvM) (hok : pvOk M) (n1 : Int32) (n2 : Int32) (n3 : Int64) (d : Nat) : PW 181 d (0, [some (pvR 0), some (pvI n1), some (pvI n2), some (pvJ n3), none, none], [], M) (fun r X => (∃ x : Int32, r = some (pvI x) ∧ (-13) ≤ Int32.toInt x ∧ Int32.toInt x ≤ 1) ∧ pvOk X ∧ pvFr fp_X9_item_0_x_x_x M X) := by
  have hT : pvdom 181 = pvD_181 := rfl
  refine pw_blk hT 1 (S' := (1, [some (pvR 0), some (pvI n1), some (pvI n2), some (pvJ n3), none, none], [pvI n1], M)) rfl ⟨trivial, trivial⟩ ?_
  refine pw_callT hT (as := [pvI n1]) (lo1 := [some (pvI n1)]) (d1 := d) (rest := []) rfl rfl rfl rfl rfl (fun h => absurd h (by decide)) (Nat.zero_le _) rfl rfl rfl (sf_X9_isTape_x M hok n1 d) ?_
  by_cases c6_ : n1 < 0
  · refine pw_eqI (if_pos c6_) ?_
    have b7_ : (-2147483648) ≤ Int32.toInt n1 ∧ Int32.toInt n1 ≤ (-1) := zr_lt_l (-1) c6_ (zbnd n1) (show 0 ≤ Int32.toInt 0 ∧ Int32.toInt 0 ≤ 0 from (by decide)) (by decide)
    show PW 181 d (4, [some (pvR 0), some (pvI n1), some (pvI n2), some (pvJ n3), none, none], [pvI 0], M) _
    refine pw_ifn hT (c := 0 = 0) rfl rfl (fun c8_ => absurd (by decide) c8_) (fun c8_ => ?_)
    refine pw_blk hT 1 (S' := (8, [some (pvR 0), some (pvI n1), some (pvI n2), some (pvJ n3), none, none], [pvI (-1)], M)) rfl ⟨trivial, trivial⟩ ?_
    exact pw_ret hT rfl (r := some (pvI (-1))) (M' := M) ⟨rfl, rfl⟩ ⟨⟨_, rfl, (zr_wide (show (-1) ≤ Int32.toInt (-1) ∧ Int32.toInt (-1) ≤ (-1) from (by decide)) (by decide) (by decide))⟩, hok, pvfr_0⟩
  · refine pw_eqI (if_neg c6_) ?_
    have b9_ : 0 ≤ Int32.toInt n1 ∧ Int32.toInt n1 ≤ 2147483647 := zr_nlt_l 0 c6_ (zbnd n1) (show 0 ≤ Int32.toInt 0 ∧ Int32.toInt 0 ≤ 0 from (by decide)) (by decide)
    by_cases c10_ : 5 < n1
    · refine pw_eqI (if_pos c10_) ?_
      have b11_ : 6 ≤ Int32.toInt n1 ∧ Int32.toInt n1 ≤ 2147483647 := zr_lt_r 6 c10_ b9_ (show 5 ≤ Int32.toInt 5 ∧ Int32.toInt 5 ≤ 5 from (by decide)) (by decide)
      show PW 181 d (4, [some (pvR 0), some (pvI n1), some (pvI n2), some (pvJ n3), none, none], [pvI 0], M) _
      refine pw_ifn hT (c := 0 = 0) rfl rfl (fun c12_ => absurd (by decide) c12_) (fun c12_ => ?_)
      refine pw_blk hT 1 (S' := (8, [some (pvR 0), some (pvI n1), some (pvI n2), some (pvJ n3), none, none], [pvI (-1)], M)) rfl ⟨trivial, trivial⟩ ?_
      exact pw_ret hT rfl (r := some (pvI (-1))) (M' := M) ⟨rfl, rfl⟩ ⟨⟨_, rfl, (zr_wide (show (-1) ≤ Int32.toInt (-1) ∧ Int32.toInt (-1) ≤ (-1) from (by decide)) (by decide) (by decide))⟩, hok, pvfr_0⟩
    · refine pw_eqI (if_neg c10_) ?_
      have b13_ : 0 ≤ Int32.toInt n1 ∧ Int32.toInt n1 ≤ 5 := zr_nlt_r 5 c10_ b9_ (show 5 ≤ Int32.toInt 5 ∧ Int32.toInt 5 ≤ 5 from (by decide)) (by decide)
      show PW 181 d (4, [some (pvR 0), some (pvI n1), some (pvI n2), some (pvJ n3), none, none], [pvI 1], M) _
      refine pw_ifn hT (c := 1 = 0) rfl rfl (fun c14_ => ?_) (fun c14_ => absurd c14_ (by decide))
      refine pw_blkr hT 4 (pc := 15) (lo := [some (pvR 0), some (pvI n1), some (pvI n2), some (pvJ n3), none, none]) (st := []) (M := M) (z := (pvbs 2 + Int32.toNatClampNeg n1)) rfl ⟨trivial, rfl, trivial, ⟨rfl, (zr_in (n := 6) b13_ (by decide) (by decide))⟩, trivial⟩ (fun q15_ e17_ => ?_)
      have k16_ : pvkl q15_ = 7 := pvel_2 (zr_in (n := 6) b13_ (by decide) (by decide)) e17_
      refine pw_blk hT 2 (S' := (19, [some (pvR 0), some (pvI n1), some (pvI n2), some (pvJ n3), none, some (pvR q15_)], [pvR q15_], M)) rfl ⟨trivial, trivial, trivial⟩ ?_
      refine pw_callT hT (as := [pvR q15_]) (lo1 := [some (pvR q15_)]) (d1 := d) (rest := []) rfl rfl rfl rfl rfl (fun _ => k16_) (Nat.zero_le _) rfl rfl rfl (sf_X8_isNothing_x M hok q15_ k16_ d) ?_
      have b23_ : (-1) ≤ Int32.toInt (M.1 q15_ 0) ∧ Int32.toInt (M.1 q15_ 0) ≤ 4 := pvok_r hok q15_ 0 ((pvrg_o 0 k16_ (by decide) (by decide)).trans rfl)
      by_cases c24_ : (M.1 q15_ 0) = (-1)
      · refine pw_eqI (if_pos c24_) ?_
        have b25_ : (-1) ≤ Int32.toInt (M.1 q15_ 0) ∧ Int32.toInt (M.1 q15_ 0) ≤ (-1) := (by have u0 := b23_; have u1 := (zi_eq _ _).mp c24_; have u2 := (show (-1) ≤ Int32.toInt (-1) ∧ Int32.toInt (-1) ≤ (-1) from (by decide)); omega)
        show PW 181 d (22, [some (pvR 0), some (pvI n1), some (pvI n2), some (pvJ n3), none, some (pvR q15_)], [pvI 1], M) _
        refine pw_if hT (c := 1 = 0) rfl rfl (fun c26_ => absurd c26_ (by decide)) (fun c26_ => ?_)
        refine pw_blk hT 1 (S' := (27, [some (pvR 0), some (pvI n1), some (pvI n2), some (pvJ n3), none, some (pvR q15_)], [pvI (-11)], M)) rfl ⟨trivial, trivial⟩ ?_
        exact pw_ret hT rfl (r := some (pvI (-11))) (M' := M) ⟨rfl, rfl⟩ ⟨⟨_, rfl, (zr_wide (show (-11) ≤ Int32.toInt (-11) ∧ Int32.toInt (-11) ≤ (-11) from (by decide)) (by decide) (by decide))⟩, hok, pvfr_0⟩
      · refine pw_eqI (if_neg c24_) ?_
        have b27_ : 0 ≤ Int32.toInt (M.1 q15_ 0) ∧ Int32.toInt (M.1 q15_ 0) ≤ 4 := (by have u0 := b23_; have u1 := (not_congr (zi_eq _ _)).mp c24_; have u2 := (show (-1) ≤ Int32.toInt (-1) ∧ Int32.toInt (-1) ≤ (-1) from (by decide)); omega)
        show PW 181 d (22, [some (pvR 0), some (pvI n1), some (pvI n2), some (pvJ n3), none, some (pvR q15_)], [pvI 0], M) _
        refine pw_if hT (c := 0 = 0) rfl rfl (fun c28_ => ?_) (fun c28_ => absurd (by decide) c28_)
        refine pw_blk hT 2 (S' := (31, [some (pvR 0), some (pvI n1), some (pvI n2), some (pvJ n3), none, some (pvR q15_)], [pvI n2, pvR q15_], M)) rfl ⟨trivial, trivial, trivial⟩ ?_
        refine pw_callT hT (as := [pvR q15_, pvI n2]) (lo1 := [some (pvR q15_), some (pvI n2)]) (d1 := d) (rest := []) rfl rfl rfl rfl rfl (fun _ => k16_) (Nat.zero_le _) rfl rfl rfl (sf_X8_hasPlace_x_x M hok q15_ n2 k16_ d) ?_
        by_cases c34_ : n2 < 0
        · refine pw_eqI (if_pos c34_) ?_
          have b35_ : (-2147483648) ≤ Int32.toInt n2 ∧ Int32.toInt n2 ≤ (-1) := zr_lt_l (-1) c34_ (zbnd n2) (show 0 ≤ Int32.toInt 0 ∧ Int32.toInt 0 ≤ 0 from (by decide)) (by decide)
          show PW 181 d (34, [some (pvR 0), some (pvI n1), some (pvI n2), some (pvJ n3), none, some (pvR q15_)], [pvI 0], M) _
          refine pw_ifn hT (c := 0 = 0) rfl rfl (fun c36_ => absurd (by decide) c36_) (fun c36_ => ?_)
          refine pw_blk hT 1 (S' := (39, [some (pvR 0), some (pvI n1), some (pvI n2), some (pvJ n3), none, some (pvR q15_)], [pvI (-13)], M)) rfl ⟨trivial, trivial⟩ ?_
          exact pw_ret hT rfl (r := some (pvI (-13))) (M' := M) ⟨rfl, rfl⟩ ⟨⟨_, rfl, (zr_wide (show (-13) ≤ Int32.toInt (-13) ∧ Int32.toInt (-13) ≤ (-13) from (by decide)) (by decide) (by decide))⟩, hok, pvfr_0⟩
        · refine pw_eqI (if_neg c34_) ?_
          have b37_ : 0 ≤ Int32.toInt n2 ∧ Int32.toInt n2 ≤ 2147483647 := zr_nlt_l 0 c34_ (zbnd n2) (show 0 ≤ Int32.toInt 0 ∧ Int32.toInt 0 ≤ 0 from (by decide)) (by decide)
          have b38_ : 0 ≤ Int32.toInt (M.1 q15_ 1) ∧ Int32.toInt (M.1 q15_ 1) ≤ 60 := pvok_r hok q15_ 1 ((pvrg_o 1 k16_ (by decide) (by decide)).trans rfl)
          by_cases c39_ : (M.1 q15_ 1) ≤ n2
          · refine pw_eqI (if_pos c39_) ?_
            have d40_ : Int32.toInt (M.1 q15_ 1) ≤ Int32.toInt n2 := (zi_le _ _).mp c39_
            show PW 181 d (34, [some (pvR 0), some (pvI n1), some (pvI n2), some (pvJ n3), none, some (pvR q15_)], [pvI 0], M) _
            refine pw_ifn hT (c := 0 = 0) rfl rfl (fun c41_ => absurd (by decide) c41_) (fun c41_ => ?_)
            refine pw_blk hT 1 (S' := (39, [some (pvR 0), some (pvI n1), some (pvI n2), some (pvJ n3), none, some (pvR q15_)], [pvI (-13)], M)) rfl ⟨trivial, trivial⟩ ?_
            exact pw_ret hT rfl (r := some (pvI (-13))) (M' := M) ⟨rfl, rfl⟩ ⟨⟨_, rfl, (zr_wide (show (-13) ≤ Int32.toInt (-13) ∧ Int32.toInt (-13) ≤ (-13) from (by decide)) (by decide) (by decide))⟩, hok, pvfr_0⟩
          · refine pw_eqI (if_neg c39_) ?_
            have b42_ : 1 ≤ Int32.toInt (M.1 q15_ 1) ∧ Int32.toInt (M.1 q15_ 1) ≤ 60 := zr_nle_l 1 c39_ b38_ b37_ (by decide)
            have b43_ : 0 ≤ Int32.toInt n2 ∧ Int32.toInt n2 ≤ 59 := zr_nle_r 59 c39_ b37_ b42_ (by decide)
            have d44_ : Int32.toInt (M.1 q15_ 1) > Int32.toInt n2 := Int.not_le.mp ((not_congr (zi_le _ _)).mp c39_)
            show PW 181 d (34, [some (pvR 0), some (pvI n1), some (pvI n2), some (pvJ n3), none, some (pvR q15_)], [pvI 1], M) _
            refine pw_ifn hT (c := 1 = 0) rfl rfl (fun c45_ => ?_) (fun c45_ => absurd c45_ (by decide))
            refine pw_blk hT 5 (S' := (49, [some (pvR 0), some (pvI n1), some (pvI n2), some (pvJ n3), none, some (pvR q15_)], [pvJ n3, pvR q15_, pvI n2, pvR (q15_ + 6)], M)) rfl ⟨trivial, k16_, trivial, trivial, trivial, trivial⟩ ?_
            refine pw_callJp hT (as := [pvR q15_, pvJ n3]) (lo1 := [some (pvR q15_), some (pvJ n3), none]) (d1 := d) (rest := [pvI n2, pvR (q15_ + 6)]) rfl rfl rfl rfl rfl (fun _ => k16_) (Nat.zero_le _) rfl rfl rfl (sf_X8_asItem_x_x M hok q15_ n3 k16_ d) (fun x46_ b48_ => ?_)
            refine pw_blkw hT 1 (pc := 53) (lo := [some (pvR 0), some (pvI n1), some (pvI n2), some (pvJ n3), none, some (pvR q15_)]) (st := []) (M := pvw M (q15_ + 6) (Int32.toNatClampNeg n2) x46_) rfl ⟨⟨(pvow_7_6 k16_).1, (by rw [(pvow_7_6 k16_).2.1]; exact (zr_in (n := 60) b43_ (by decide) (by decide)))⟩, trivial⟩ (fun M51_ e52_ => ?_)
            have o53_ : pvOk M51_ := pvok_w e52_ hok
            have f54_ : pvFr fp_X9_item_0_x_x_x M M51_ := pvfr_w e52_ pvfr_0
            refine pw_blk hT 1 (S' := (54, [some (pvR 0), some (pvI n1), some (pvI n2), some (pvJ n3), none, some (pvR q15_)], [pvI 1], M51_)) rfl ⟨trivial, trivial⟩ ?_
            exact pw_ret hT rfl (r := some (pvI 1)) (M' := M51_) ⟨rfl, rfl⟩ ⟨⟨_, rfl, (zr_wide (show 1 ≤ Int32.toInt 1 ∧ Int32.toInt 1 ≤ 1 from (by decide)) (by decide) (by decide))⟩, o53_, f54_⟩
set_option maxHeartbeats 4000000 in
set_option maxRecDepth 10000 in
theorem sf_X9_judge_0_x_x (M : pvM) (hok : pvOk M) (n1 : Int32) (n2 : Int32) (d : Nat) : PW 182 d (0, [some (pvR 0), some (pvI n1), some (pvI n2), none, none, none], [], M) (fun r X => (∃ x : Int32, r = some (pvI x) ∧ (-12) ≤ Int32.toInt x ∧ Int32.toInt x ≤ 106) ∧ X = M) := by
  have hT : pvdom 182 = pvD_182 := rfl
  refine pw_blk hT 1 (S' := (1, [some (pvR 0), some (pvI n1), some (pvI n2), none, none, none], [pvI n1], M)) rfl ⟨trivial, trivial⟩ ?_
  refine pw_callT hT (as := [pvI n1]) (lo1 := [some (pvI n1)]) (d1 := d) (rest := []) rfl rfl rfl rfl rfl (fun h => absurd h (by decide)) (Nat.zero_le _) rfl rfl rfl (sf_X9_isTape_x M hok n1 d) ?_
  by_cases c6_ : n1 < 0
  · refine pw_eqI (if_pos c6_) ?_
    have b7_ : (-2147483648) ≤ Int32.toInt n1 ∧ Int32.toInt n1 ≤ (-1) := zr_lt_l (-1) c6_ (zbnd n1) (show 0 ≤ Int32.toInt 0 ∧ Int32.toInt 0 ≤ 0 from (by decide)) (by decide)
    show PW 182 d (4, [some (pvR 0), some (pvI n1), some (pvI n2), none, none, none], [pvI 0], M) _
    refine pw_ifn hT (c := 0 = 0) rfl rfl (fun c8_ => absurd (by decide) c8_) (fun c8_ => ?_)
    refine pw_blk hT 1 (S' := (8, [some (pvR 0), some (pvI n1), some (pvI n2), none, none, none], [pvI (-1)], M)) rfl ⟨trivial, trivial⟩ ?_
    exact pw_ret hT rfl (r := some (pvI (-1))) (M' := M) ⟨rfl, rfl⟩ ⟨⟨_, rfl, (zr_wide (show (-1) ≤ Int32.toInt (-1) ∧ Int32.toInt (-1) ≤ (-1) from (by decide)) (by decide) (by decide))⟩, rfl⟩
  · refine pw_eqI (if_neg c6_) ?_
    have b9_ : 0 ≤ Int32.toInt n1 ∧ Int32.toInt n1 ≤ 2147483647 := zr_nlt_l 0 c6_ (zbnd n1) (show 0 ≤ Int32.toInt 0 ∧ Int32.toInt 0 ≤ 0 from (by decide)) (by decide)
    by_cases c10_ : 5 < n1
    · refine pw_eqI (if_pos c10_) ?_
      have b11_ : 6 ≤ Int32.toInt n1 ∧ Int32.toInt n1 ≤ 2147483647 := zr_lt_r 6 c10_ b9_ (show 5 ≤ Int32.toInt 5 ∧ Int32.toInt 5 ≤ 5 from (by decide)) (by decide)
      show PW 182 d (4, [some (pvR 0), some (pvI n1), some (pvI n2), none, none, none], [pvI 0], M) _
      refine pw_ifn hT (c := 0 = 0) rfl rfl (fun c12_ => absurd (by decide) c12_) (fun c12_ => ?_)
      refine pw_blk hT 1 (S' := (8, [some (pvR 0), some (pvI n1), some (pvI n2), none, none, none], [pvI (-1)], M)) rfl ⟨trivial, trivial⟩ ?_
      exact pw_ret hT rfl (r := some (pvI (-1))) (M' := M) ⟨rfl, rfl⟩ ⟨⟨_, rfl, (zr_wide (show (-1) ≤ Int32.toInt (-1) ∧ Int32.toInt (-1) ≤ (-1) from (by decide)) (by decide) (by decide))⟩, rfl⟩
    · refine pw_eqI (if_neg c10_) ?_
      have b13_ : 0 ≤ Int32.toInt n1 ∧ Int32.toInt n1 ≤ 5 := zr_nlt_r 5 c10_ b9_ (show 5 ≤ Int32.toInt 5 ∧ Int32.toInt 5 ≤ 5 from (by decide)) (by decide)
      show PW 182 d (4, [some (pvR 0), some (pvI n1), some (pvI n2), none, none, none], [pvI 1], M) _
      refine pw_ifn hT (c := 1 = 0) rfl rfl (fun c14_ => ?_) (fun c14_ => absurd c14_ (by decide))
      refine pw_blkr hT 4 (pc := 15) (lo := [some (pvR 0), some (pvI n1), some (pvI n2), none, none, none]) (st := []) (M := M) (z := (pvbs 2 + Int32.toNatClampNeg n1)) rfl ⟨trivial, rfl, trivial, ⟨rfl, (zr_in (n := 6) b13_ (by decide) (by decide))⟩, trivial⟩ (fun q15_ e17_ => ?_)
      have k16_ : pvkl q15_ = 7 := pvel_2 (zr_in (n := 6) b13_ (by decide) (by decide)) e17_
      refine pw_blk hT 2 (S' := (17, [some (pvR 0), some (pvI n1), some (pvI n2), some (pvR q15_), none, none], [pvR q15_], M)) rfl ⟨trivial, trivial, trivial⟩ ?_
      refine pw_callT hT (as := [pvR q15_]) (lo1 := [some (pvR q15_)]) (d1 := d) (rest := []) rfl rfl rfl rfl rfl (fun _ => k16_) (Nat.zero_le _) rfl rfl rfl (sf_X8_isNothing_x M hok q15_ k16_ d) ?_
      have b23_ : (-1) ≤ Int32.toInt (M.1 q15_ 0) ∧ Int32.toInt (M.1 q15_ 0) ≤ 4 := pvok_r hok q15_ 0 ((pvrg_o 0 k16_ (by decide) (by decide)).trans rfl)
      by_cases c24_ : (M.1 q15_ 0) = (-1)
      · refine pw_eqI (if_pos c24_) ?_
        have b25_ : (-1) ≤ Int32.toInt (M.1 q15_ 0) ∧ Int32.toInt (M.1 q15_ 0) ≤ (-1) := (by have u0 := b23_; have u1 := (zi_eq _ _).mp c24_; have u2 := (show (-1) ≤ Int32.toInt (-1) ∧ Int32.toInt (-1) ≤ (-1) from (by decide)); omega)
        show PW 182 d (20, [some (pvR 0), some (pvI n1), some (pvI n2), some (pvR q15_), none, none], [pvI 1], M) _
        refine pw_ifn hT (c := 1 = 0) rfl rfl (fun c26_ => ?_) (fun c26_ => absurd c26_ (by decide))
        refine pw_blk hT 2 (S' := (37, [some (pvR 0), some (pvI n1), some (pvI n2), some (pvR q15_), some (pvI 0), none], [], M)) rfl ⟨trivial, trivial, trivial⟩ ?_
        have hlz159_ : ∀ (nz159_ : Nat) (i4z159_ : Int32) (v5z159_ : Option pvV), (0 ≤ Int32.toInt i4z159_ ∧ Int32.toInt i4z159_ ≤ 7) → (zhide ((8 - Int32.toInt i4z159_).toNat < nz159_)) → PW 182 d (37, [some (pvR 0), some (pvI n1), some (pvI n2), some (pvR q15_), some (pvI i4z159_), v5z159_], [], M) (fun r X => (∃ x : Int32, r = some (pvI x) ∧ (-12) ≤ Int32.toInt x ∧ Int32.toInt x ≤ 106) ∧ X = M) := by
          intro nz159_
          induction nz159_ with
          | zero => intro i4z159_ v5z159_ h4z159_ hmz159_; exact absurd (zshow hmz159_) (Nat.not_lt_zero _)
          | succ nz159_ ihz159_ =>
            intro i4z159_ v5z159_ h4z159_ hmz159_
            have b160_ : 0 ≤ Int32.toInt (M.1 8 1) ∧ Int32.toInt (M.1 8 1) ≤ 7 := pvok_r hok 8 1 rfl
            refine pw_blk hT 4 (S' := (46, [some (pvR 0), some (pvI n1), some (pvI n2), some (pvR q15_), some (pvI i4z159_), v5z159_], [pvI (M.1 8 1), pvI i4z159_], M)) rfl ⟨trivial, trivial, rfl, rfl, trivial⟩ ?_
            refine pw_ic hT (c := (M.1 8 1) ≤ i4z159_) rfl rfl (fun c161_ => ?_) (fun c161_ => ?_)
            · have d162_ : Int32.toInt (M.1 8 1) ≤ Int32.toInt i4z159_ := (zi_le _ _).mp c161_
              refine pw_blk hT 1 (S' := (120, [some (pvR 0), some (pvI n1), some (pvI n2), some (pvR q15_), some (pvI i4z159_), v5z159_], [pvI (-5)], M)) rfl ⟨trivial, trivial⟩ ?_
              exact pw_ret hT rfl (r := some (pvI (-5))) (M' := M) ⟨rfl, rfl⟩ ⟨⟨_, rfl, (zr_wide (show (-5) ≤ Int32.toInt (-5) ∧ Int32.toInt (-5) ≤ (-5) from (by decide)) (by decide) (by decide))⟩, rfl⟩
            · have b163_ : 1 ≤ Int32.toInt (M.1 8 1) ∧ Int32.toInt (M.1 8 1) ≤ 7 := zr_nle_l 1 c161_ b160_ h4z159_ (by decide)
              have b164_ : 0 ≤ Int32.toInt i4z159_ ∧ Int32.toInt i4z159_ ≤ 6 := zr_nle_r 6 c161_ h4z159_ b163_ (by decide)
              have d165_ : Int32.toInt (M.1 8 1) > Int32.toInt i4z159_ := Int.not_le.mp ((not_congr (zi_le _ _)).mp c161_)
              refine pw_blk hT 1 (S' := (50, [some (pvR 0), some (pvI n1), some (pvI n2), some (pvR q15_), some (pvI i4z159_), v5z159_], [pvI n2], M)) rfl ⟨trivial, trivial⟩ ?_
              refine pw_if hT (c := n2 < 0) rfl rfl (fun c166_ => ?_) (fun c166_ => ?_)
              · have b167_ : (-2147483648) ≤ Int32.toInt n2 ∧ Int32.toInt n2 ≤ (-1) := zr_lt_l (-1) c166_ (zbnd n2) (show 0 ≤ Int32.toInt 0 ∧ Int32.toInt 0 ≤ 0 from (by decide)) (by decide)
                obtain ⟨q169_, b168_⟩ : (Int32.toInt (100 + i4z159_) = 100 + Int32.toInt i4z159_) ∧ (100 ≤ Int32.toInt (100 + i4z159_) ∧ Int32.toInt (100 + i4z159_) ≤ 106) := zadd_q 100 i4z159_ 100 100 106 b164_ (by decide) (by decide) (by decide) (by decide) (by decide)
                refine pw_blk hT 3 (S' := (69, [some (pvR 0), some (pvI n1), some (pvI n2), some (pvR q15_), some (pvI i4z159_), v5z159_], [pvI (100 + i4z159_)], M)) rfl ⟨trivial, trivial, trivial, trivial⟩ ?_
                exact pw_ret hT rfl (r := some (pvI (100 + i4z159_))) (M' := M) ⟨rfl, rfl⟩ ⟨⟨_, rfl, (zr_wide b168_ (by decide) (by decide))⟩, rfl⟩
              · have b170_ : 0 ≤ Int32.toInt n2 ∧ Int32.toInt n2 ≤ 2147483647 := zr_nlt_l 0 c166_ (zbnd n2) (show 0 ≤ Int32.toInt 0 ∧ Int32.toInt 0 ≤ 0 from (by decide)) (by decide)
                have b171_ : 0 ≤ Int32.toInt (M.1 q15_ 1) ∧ Int32.toInt (M.1 q15_ 1) ≤ 60 := pvok_r hok q15_ 1 ((pvrg_o 1 k16_ (by decide) (by decide)).trans rfl)
                obtain ⟨q173_, b172_⟩ : (Int32.toInt ((M.1 q15_ 1) - i4z159_) = Int32.toInt (M.1 q15_ 1) - Int32.toInt i4z159_) ∧ ((-6) ≤ Int32.toInt ((M.1 q15_ 1) - i4z159_) ∧ Int32.toInt ((M.1 q15_ 1) - i4z159_) ≤ 60) := zsub_r (M.1 q15_ 1) i4z159_ (-6) 60 b171_ b164_ (by decide) (by decide) (by decide) (by decide)
                refine pw_blk hT 5 (S' := (61, [some (pvR 0), some (pvI n1), some (pvI n2), some (pvR q15_), some (pvI i4z159_), v5z159_], [pvI ((M.1 q15_ 1) - i4z159_), pvI n2], M)) rfl ⟨trivial, trivial, k16_, trivial, trivial, trivial⟩ ?_
                refine pw_ic hT (c := n2 < ((M.1 q15_ 1) - i4z159_)) rfl rfl (fun c174_ => ?_) (fun c174_ => ?_)
                · have b175_ : 0 ≤ Int32.toInt n2 ∧ Int32.toInt n2 ≤ 59 := zr_lt_l 59 c174_ b170_ b172_ (by decide)
                  have b176_ : 1 ≤ Int32.toInt ((M.1 q15_ 1) - i4z159_) ∧ Int32.toInt ((M.1 q15_ 1) - i4z159_) ≤ 60 := zr_lt_r 1 c174_ b172_ b175_ (by decide)
                  have d177_ : Int32.toInt n2 < Int32.toInt ((M.1 q15_ 1) - i4z159_) := (zi_lt _ _).mp c174_
                  obtain ⟨q179_, b178_⟩ : (Int32.toInt (n2 + i4z159_) = Int32.toInt n2 + Int32.toInt i4z159_) ∧ (0 ≤ Int32.toInt (n2 + i4z159_) ∧ Int32.toInt (n2 + i4z159_) ≤ 65) := zadd_r n2 i4z159_ 0 65 b175_ b164_ (by decide) (by decide) (by decide) (by decide)
                  refine pw_blk hT 8 (S' := (81, [some (pvR 0), some (pvI n1), some (pvI n2), some (pvR q15_), some (pvI i4z159_), v5z159_], [pvI (lg_cmp (M.2 (q15_ + 6) (Int32.toNatClampNeg (n2 + i4z159_))) 0)], M)) rfl ⟨trivial, k16_, trivial, trivial, trivial, ⟨(pvow_7_6 k16_).1, (by rw [(pvow_7_6 k16_).2.1]; exact (vp_in_iff.mpr (show 0 ≤ Int32.toInt (n2 + i4z159_) ∧ Int32.toInt (n2 + i4z159_) < ((60 : Nat) : Int) from (by have u0 := b178_; omega))))⟩, trivial, trivial, trivial⟩ ?_
                  refine pw_if hT (c := (lg_cmp (M.2 (q15_ + 6) (Int32.toNatClampNeg (n2 + i4z159_))) 0) = 0) rfl rfl (fun c180_ => ?_) (fun c180_ => ?_)
                  · have b181_ : 0 ≤ Int32.toInt (lg_cmp (M.2 (q15_ + 6) (Int32.toNatClampNeg (n2 + i4z159_))) 0) ∧ Int32.toInt (lg_cmp (M.2 (q15_ + 6) (Int32.toNatClampNeg (n2 + i4z159_))) 0) ≤ 0 := (by have u0 := (zbnd (lg_cmp (M.2 (q15_ + 6) (Int32.toNatClampNeg (n2 + i4z159_))) 0)); have u1 := (zi_eq _ _).mp c180_; have u2 := (show 0 ≤ Int32.toInt 0 ∧ Int32.toInt 0 ≤ 0 from (by decide)); omega)
                    refine pw_blkr hT 8 (pc := 103) (lo := [some (pvR 0), some (pvI n1), some (pvI n2), some (pvR q15_), some (pvI i4z159_), some (pvI 0)]) (st := [pvI 0]) (M := M) (z := (pvbs 10 + Int32.toNatClampNeg i4z159_)) rfl ⟨trivial, trivial, trivial, trivial, rfl, rfl, trivial, ⟨rfl, (zr_in (n := 7) b164_ (by decide) (by decide))⟩, trivial⟩ (fun q182_ e184_ => ?_)
                    have k183_ : pvkl q182_ = 3 := pvel_10 (zr_in (n := 7) b164_ (by decide) (by decide)) e184_
                    have b185_ : 0 ≤ Int32.toInt (M.1 q182_ 5) ∧ Int32.toInt (M.1 q182_ 5) ≤ 1 := pvok_r hok q182_ 5 ((pvrg_o 5 k183_ (by decide) (by decide)).trans rfl)
                    refine pw_blk hT 1 (S' := (106, [some (pvR 0), some (pvI n1), some (pvI n2), some (pvR q15_), some (pvI i4z159_), some (pvI 0)], [pvI (M.1 q182_ 5), pvI 0], M)) rfl ⟨k183_, trivial⟩ ?_
                    refine pw_ic hT (c := 0 = (M.1 q182_ 5)) rfl rfl (fun c186_ => ?_) (fun c186_ => ?_)
                    · have b187_ : 0 ≤ Int32.toInt (M.1 q182_ 5) ∧ Int32.toInt (M.1 q182_ 5) ≤ 0 := (by have u0 := b185_; have u1 := (zi_eq _ _).mp c186_; have u2 := (show 0 ≤ Int32.toInt 0 ∧ Int32.toInt 0 ≤ 0 from (by decide)); omega)
                      obtain ⟨q189_, b188_⟩ : (Int32.toInt (i4z159_ + 1) = Int32.toInt i4z159_ + 1) ∧ (1 ≤ Int32.toInt (i4z159_ + 1) ∧ Int32.toInt (i4z159_ + 1) ≤ 7) := zadd_k i4z159_ 1 1 1 7 b164_ (by decide) (by decide) (by decide) (by decide) (by decide)
                      refine pw_blk hT 2 (S' := (37, [some (pvR 0), some (pvI n1), some (pvI n2), some (pvR q15_), some (pvI (i4z159_ + 1)), some (pvI 0)], [], M)) rfl ⟨trivial, trivial, trivial⟩ ?_
                      exact ihz159_ (i4z159_ + 1) (some (pvI 0)) (zr_wide b188_ (by decide) (by decide)) (zhid (pvms_up (zshow hmz159_) h4z159_ q189_ (by decide) (by decide)))
                    · have b190_ : 1 ≤ Int32.toInt (M.1 q182_ 5) ∧ Int32.toInt (M.1 q182_ 5) ≤ 1 := (by have u0 := b185_; have u1 := (not_congr (zi_eq _ _)).mp c186_; have u2 := (show 0 ≤ Int32.toInt 0 ∧ Int32.toInt 0 ≤ 0 from (by decide)); omega)
                      refine pw_blk hT 1 (S' := (111, [some (pvR 0), some (pvI n1), some (pvI n2), some (pvR q15_), some (pvI i4z159_), some (pvI 0)], [pvI i4z159_], M)) rfl ⟨trivial, trivial⟩ ?_
                      exact pw_ret hT rfl (r := some (pvI i4z159_)) (M' := M) ⟨rfl, rfl⟩ ⟨⟨_, rfl, (zr_wide b164_ (by decide) (by decide))⟩, rfl⟩
                  · refine pw_blkr hT 9 (pc := 103) (lo := [some (pvR 0), some (pvI n1), some (pvI n2), some (pvR q15_), some (pvI i4z159_), some (pvI 1)]) (st := [pvI 1]) (M := M) (z := (pvbs 10 + Int32.toNatClampNeg i4z159_)) rfl ⟨trivial, trivial, trivial, trivial, trivial, rfl, rfl, trivial, ⟨rfl, (zr_in (n := 7) b164_ (by decide) (by decide))⟩, trivial⟩ (fun q191_ e193_ => ?_)
                    have k192_ : pvkl q191_ = 3 := pvel_10 (zr_in (n := 7) b164_ (by decide) (by decide)) e193_
                    have b194_ : 0 ≤ Int32.toInt (M.1 q191_ 5) ∧ Int32.toInt (M.1 q191_ 5) ≤ 1 := pvok_r hok q191_ 5 ((pvrg_o 5 k192_ (by decide) (by decide)).trans rfl)
                    refine pw_blk hT 1 (S' := (106, [some (pvR 0), some (pvI n1), some (pvI n2), some (pvR q15_), some (pvI i4z159_), some (pvI 1)], [pvI (M.1 q191_ 5), pvI 1], M)) rfl ⟨k192_, trivial⟩ ?_
                    refine pw_ic hT (c := 1 = (M.1 q191_ 5)) rfl rfl (fun c195_ => ?_) (fun c195_ => ?_)
                    · have b196_ : 1 ≤ Int32.toInt (M.1 q191_ 5) ∧ Int32.toInt (M.1 q191_ 5) ≤ 1 := (by have u0 := b194_; have u1 := (zi_eq _ _).mp c195_; have u2 := (show 1 ≤ Int32.toInt 1 ∧ Int32.toInt 1 ≤ 1 from (by decide)); omega)
                      obtain ⟨q198_, b197_⟩ : (Int32.toInt (i4z159_ + 1) = Int32.toInt i4z159_ + 1) ∧ (1 ≤ Int32.toInt (i4z159_ + 1) ∧ Int32.toInt (i4z159_ + 1) ≤ 7) := zadd_k i4z159_ 1 1 1 7 b164_ (by decide) (by decide) (by decide) (by decide) (by decide)
                      refine pw_blk hT 2 (S' := (37, [some (pvR 0), some (pvI n1), some (pvI n2), some (pvR q15_), some (pvI (i4z159_ + 1)), some (pvI 1)], [], M)) rfl ⟨trivial, trivial, trivial⟩ ?_
                      exact ihz159_ (i4z159_ + 1) (some (pvI 1)) (zr_wide b197_ (by decide) (by decide)) (zhid (pvms_up (zshow hmz159_) h4z159_ q198_ (by decide) (by decide)))
                    · have b199_ : 0 ≤ Int32.toInt (M.1 q191_ 5) ∧ Int32.toInt (M.1 q191_ 5) ≤ 0 := (by have u0 := b194_; have u1 := (not_congr (zi_eq _ _)).mp c195_; have u2 := (show 1 ≤ Int32.toInt 1 ∧ Int32.toInt 1 ≤ 1 from (by decide)); omega)
                      refine pw_blk hT 1 (S' := (111, [some (pvR 0), some (pvI n1), some (pvI n2), some (pvR q15_), some (pvI i4z159_), some (pvI 1)], [pvI i4z159_], M)) rfl ⟨trivial, trivial⟩ ?_
                      exact pw_ret hT rfl (r := some (pvI i4z159_)) (M' := M) ⟨rfl, rfl⟩ ⟨⟨_, rfl, (zr_wide b164_ (by decide) (by decide))⟩, rfl⟩
                · have d200_ : Int32.toInt n2 ≥ Int32.toInt ((M.1 q15_ 1) - i4z159_) := Int.not_lt.mp ((not_congr (zi_lt _ _)).mp c174_)
                  obtain ⟨q202_, b201_⟩ : (Int32.toInt (100 + i4z159_) = 100 + Int32.toInt i4z159_) ∧ (100 ≤ Int32.toInt (100 + i4z159_) ∧ Int32.toInt (100 + i4z159_) ≤ 106) := zadd_q 100 i4z159_ 100 100 106 b164_ (by decide) (by decide) (by decide) (by decide) (by decide)
                  refine pw_blk hT 3 (S' := (69, [some (pvR 0), some (pvI n1), some (pvI n2), some (pvR q15_), some (pvI i4z159_), v5z159_], [pvI (100 + i4z159_)], M)) rfl ⟨trivial, trivial, trivial, trivial⟩ ?_
                  exact pw_ret hT rfl (r := some (pvI (100 + i4z159_))) (M' := M) ⟨rfl, rfl⟩ ⟨⟨_, rfl, (zr_wide b201_ (by decide) (by decide))⟩, rfl⟩
        exact hlz159_ _ 0 none (zr_wide (show 0 ≤ Int32.toInt 0 ∧ Int32.toInt 0 ≤ 0 from (by decide)) (by decide) (by decide)) (zhid (Nat.lt_succ_self _))
      · refine pw_eqI (if_neg c24_) ?_
        have b203_ : 0 ≤ Int32.toInt (M.1 q15_ 0) ∧ Int32.toInt (M.1 q15_ 0) ≤ 4 := (by have u0 := b23_; have u1 := (not_congr (zi_eq _ _)).mp c24_; have u2 := (show (-1) ≤ Int32.toInt (-1) ∧ Int32.toInt (-1) ≤ (-1) from (by decide)); omega)
        show PW 182 d (20, [some (pvR 0), some (pvI n1), some (pvI n2), some (pvR q15_), none, none], [pvI 0], M) _
        refine pw_ifn hT (c := 0 = 0) rfl rfl (fun c204_ => absurd (by decide) c204_) (fun c204_ => ?_)
        refine pw_blk hT 3 (S' := (28, [some (pvR 0), some (pvI n1), some (pvI n2), some (pvR q15_), none, none], [pvI 4, pvI (M.1 q15_ 0)], M)) rfl ⟨trivial, k16_, trivial, trivial⟩ ?_
        refine pw_ic hT (c := (M.1 q15_ 0) = 4) rfl rfl (fun c205_ => ?_) (fun c205_ => ?_)
        · have b206_ : 4 ≤ Int32.toInt (M.1 q15_ 0) ∧ Int32.toInt (M.1 q15_ 0) ≤ 4 := (by have u0 := b203_; have u1 := (zi_eq _ _).mp c205_; have u2 := (show 4 ≤ Int32.toInt 4 ∧ Int32.toInt 4 ≤ 4 from (by decide)); omega)
          refine pw_blk hT 2 (S' := (37, [some (pvR 0), some (pvI n1), some (pvI n2), some (pvR q15_), some (pvI 0), none], [], M)) rfl ⟨trivial, trivial, trivial⟩ ?_
          have hlz339_ : ∀ (nz339_ : Nat) (i4z339_ : Int32) (v5z339_ : Option pvV), (0 ≤ Int32.toInt i4z339_ ∧ Int32.toInt i4z339_ ≤ 7) → (zhide ((8 - Int32.toInt i4z339_).toNat < nz339_)) → PW 182 d (37, [some (pvR 0), some (pvI n1), some (pvI n2), some (pvR q15_), some (pvI i4z339_), v5z339_], [], M) (fun r X => (∃ x : Int32, r = some (pvI x) ∧ (-12) ≤ Int32.toInt x ∧ Int32.toInt x ≤ 106) ∧ X = M) := by
            intro nz339_
            induction nz339_ with
            | zero => intro i4z339_ v5z339_ h4z339_ hmz339_; exact absurd (zshow hmz339_) (Nat.not_lt_zero _)
            | succ nz339_ ihz339_ =>
              intro i4z339_ v5z339_ h4z339_ hmz339_
              have b340_ : 0 ≤ Int32.toInt (M.1 8 1) ∧ Int32.toInt (M.1 8 1) ≤ 7 := pvok_r hok 8 1 rfl
              refine pw_blk hT 4 (S' := (46, [some (pvR 0), some (pvI n1), some (pvI n2), some (pvR q15_), some (pvI i4z339_), v5z339_], [pvI (M.1 8 1), pvI i4z339_], M)) rfl ⟨trivial, trivial, rfl, rfl, trivial⟩ ?_
              refine pw_ic hT (c := (M.1 8 1) ≤ i4z339_) rfl rfl (fun c341_ => ?_) (fun c341_ => ?_)
              · have d342_ : Int32.toInt (M.1 8 1) ≤ Int32.toInt i4z339_ := (zi_le _ _).mp c341_
                refine pw_blk hT 1 (S' := (120, [some (pvR 0), some (pvI n1), some (pvI n2), some (pvR q15_), some (pvI i4z339_), v5z339_], [pvI (-5)], M)) rfl ⟨trivial, trivial⟩ ?_
                exact pw_ret hT rfl (r := some (pvI (-5))) (M' := M) ⟨rfl, rfl⟩ ⟨⟨_, rfl, (zr_wide (show (-5) ≤ Int32.toInt (-5) ∧ Int32.toInt (-5) ≤ (-5) from (by decide)) (by decide) (by decide))⟩, rfl⟩
              · have b343_ : 1 ≤ Int32.toInt (M.1 8 1) ∧ Int32.toInt (M.1 8 1) ≤ 7 := zr_nle_l 1 c341_ b340_ h4z339_ (by decide)
                have b344_ : 0 ≤ Int32.toInt i4z339_ ∧ Int32.toInt i4z339_ ≤ 6 := zr_nle_r 6 c341_ h4z339_ b343_ (by decide)
                have d345_ : Int32.toInt (M.1 8 1) > Int32.toInt i4z339_ := Int.not_le.mp ((not_congr (zi_le _ _)).mp c341_)
                refine pw_blk hT 1 (S' := (50, [some (pvR 0), some (pvI n1), some (pvI n2), some (pvR q15_), some (pvI i4z339_), v5z339_], [pvI n2], M)) rfl ⟨trivial, trivial⟩ ?_
                refine pw_if hT (c := n2 < 0) rfl rfl (fun c346_ => ?_) (fun c346_ => ?_)
                · have b347_ : (-2147483648) ≤ Int32.toInt n2 ∧ Int32.toInt n2 ≤ (-1) := zr_lt_l (-1) c346_ (zbnd n2) (show 0 ≤ Int32.toInt 0 ∧ Int32.toInt 0 ≤ 0 from (by decide)) (by decide)
                  obtain ⟨q349_, b348_⟩ : (Int32.toInt (100 + i4z339_) = 100 + Int32.toInt i4z339_) ∧ (100 ≤ Int32.toInt (100 + i4z339_) ∧ Int32.toInt (100 + i4z339_) ≤ 106) := zadd_q 100 i4z339_ 100 100 106 b344_ (by decide) (by decide) (by decide) (by decide) (by decide)
                  refine pw_blk hT 3 (S' := (69, [some (pvR 0), some (pvI n1), some (pvI n2), some (pvR q15_), some (pvI i4z339_), v5z339_], [pvI (100 + i4z339_)], M)) rfl ⟨trivial, trivial, trivial, trivial⟩ ?_
                  exact pw_ret hT rfl (r := some (pvI (100 + i4z339_))) (M' := M) ⟨rfl, rfl⟩ ⟨⟨_, rfl, (zr_wide b348_ (by decide) (by decide))⟩, rfl⟩
                · have b350_ : 0 ≤ Int32.toInt n2 ∧ Int32.toInt n2 ≤ 2147483647 := zr_nlt_l 0 c346_ (zbnd n2) (show 0 ≤ Int32.toInt 0 ∧ Int32.toInt 0 ≤ 0 from (by decide)) (by decide)
                  have b351_ : 0 ≤ Int32.toInt (M.1 q15_ 1) ∧ Int32.toInt (M.1 q15_ 1) ≤ 60 := pvok_r hok q15_ 1 ((pvrg_o 1 k16_ (by decide) (by decide)).trans rfl)
                  obtain ⟨q353_, b352_⟩ : (Int32.toInt ((M.1 q15_ 1) - i4z339_) = Int32.toInt (M.1 q15_ 1) - Int32.toInt i4z339_) ∧ ((-6) ≤ Int32.toInt ((M.1 q15_ 1) - i4z339_) ∧ Int32.toInt ((M.1 q15_ 1) - i4z339_) ≤ 60) := zsub_r (M.1 q15_ 1) i4z339_ (-6) 60 b351_ b344_ (by decide) (by decide) (by decide) (by decide)
                  refine pw_blk hT 5 (S' := (61, [some (pvR 0), some (pvI n1), some (pvI n2), some (pvR q15_), some (pvI i4z339_), v5z339_], [pvI ((M.1 q15_ 1) - i4z339_), pvI n2], M)) rfl ⟨trivial, trivial, k16_, trivial, trivial, trivial⟩ ?_
                  refine pw_ic hT (c := n2 < ((M.1 q15_ 1) - i4z339_)) rfl rfl (fun c354_ => ?_) (fun c354_ => ?_)
                  · have b355_ : 0 ≤ Int32.toInt n2 ∧ Int32.toInt n2 ≤ 59 := zr_lt_l 59 c354_ b350_ b352_ (by decide)
                    have b356_ : 1 ≤ Int32.toInt ((M.1 q15_ 1) - i4z339_) ∧ Int32.toInt ((M.1 q15_ 1) - i4z339_) ≤ 60 := zr_lt_r 1 c354_ b352_ b355_ (by decide)
                    have d357_ : Int32.toInt n2 < Int32.toInt ((M.1 q15_ 1) - i4z339_) := (zi_lt _ _).mp c354_
                    obtain ⟨q359_, b358_⟩ : (Int32.toInt (n2 + i4z339_) = Int32.toInt n2 + Int32.toInt i4z339_) ∧ (0 ≤ Int32.toInt (n2 + i4z339_) ∧ Int32.toInt (n2 + i4z339_) ≤ 65) := zadd_r n2 i4z339_ 0 65 b355_ b344_ (by decide) (by decide) (by decide) (by decide)
                    refine pw_blk hT 8 (S' := (81, [some (pvR 0), some (pvI n1), some (pvI n2), some (pvR q15_), some (pvI i4z339_), v5z339_], [pvI (lg_cmp (M.2 (q15_ + 6) (Int32.toNatClampNeg (n2 + i4z339_))) 0)], M)) rfl ⟨trivial, k16_, trivial, trivial, trivial, ⟨(pvow_7_6 k16_).1, (by rw [(pvow_7_6 k16_).2.1]; exact (vp_in_iff.mpr (show 0 ≤ Int32.toInt (n2 + i4z339_) ∧ Int32.toInt (n2 + i4z339_) < ((60 : Nat) : Int) from (by have u0 := b358_; omega))))⟩, trivial, trivial, trivial⟩ ?_
                    refine pw_if hT (c := (lg_cmp (M.2 (q15_ + 6) (Int32.toNatClampNeg (n2 + i4z339_))) 0) = 0) rfl rfl (fun c360_ => ?_) (fun c360_ => ?_)
                    · have b361_ : 0 ≤ Int32.toInt (lg_cmp (M.2 (q15_ + 6) (Int32.toNatClampNeg (n2 + i4z339_))) 0) ∧ Int32.toInt (lg_cmp (M.2 (q15_ + 6) (Int32.toNatClampNeg (n2 + i4z339_))) 0) ≤ 0 := (by have u0 := (zbnd (lg_cmp (M.2 (q15_ + 6) (Int32.toNatClampNeg (n2 + i4z339_))) 0)); have u1 := (zi_eq _ _).mp c360_; have u2 := (show 0 ≤ Int32.toInt 0 ∧ Int32.toInt 0 ≤ 0 from (by decide)); omega)
                      refine pw_blkr hT 8 (pc := 103) (lo := [some (pvR 0), some (pvI n1), some (pvI n2), some (pvR q15_), some (pvI i4z339_), some (pvI 0)]) (st := [pvI 0]) (M := M) (z := (pvbs 10 + Int32.toNatClampNeg i4z339_)) rfl ⟨trivial, trivial, trivial, trivial, rfl, rfl, trivial, ⟨rfl, (zr_in (n := 7) b344_ (by decide) (by decide))⟩, trivial⟩ (fun q362_ e364_ => ?_)
                      have k363_ : pvkl q362_ = 3 := pvel_10 (zr_in (n := 7) b344_ (by decide) (by decide)) e364_
                      have b365_ : 0 ≤ Int32.toInt (M.1 q362_ 5) ∧ Int32.toInt (M.1 q362_ 5) ≤ 1 := pvok_r hok q362_ 5 ((pvrg_o 5 k363_ (by decide) (by decide)).trans rfl)
                      refine pw_blk hT 1 (S' := (106, [some (pvR 0), some (pvI n1), some (pvI n2), some (pvR q15_), some (pvI i4z339_), some (pvI 0)], [pvI (M.1 q362_ 5), pvI 0], M)) rfl ⟨k363_, trivial⟩ ?_
                      refine pw_ic hT (c := 0 = (M.1 q362_ 5)) rfl rfl (fun c366_ => ?_) (fun c366_ => ?_)
                      · have b367_ : 0 ≤ Int32.toInt (M.1 q362_ 5) ∧ Int32.toInt (M.1 q362_ 5) ≤ 0 := (by have u0 := b365_; have u1 := (zi_eq _ _).mp c366_; have u2 := (show 0 ≤ Int32.toInt 0 ∧ Int32.toInt 0 ≤ 0 from (by decide)); omega)
                        obtain ⟨q369_, b368_⟩ : (Int32.toInt (i4z339_ + 1) = Int32.toInt i4z339_ + 1) ∧ (1 ≤ Int32.toInt (i4z339_ + 1) ∧ Int32.toInt (i4z339_ + 1) ≤ 7) := zadd_k i4z339_ 1 1 1 7 b344_ (by decide) (by decide) (by decide) (by decide) (by decide)
                        refine pw_blk hT 2 (S' := (37, [some (pvR 0), some (pvI n1), some (pvI n2), some (pvR q15_), some (pvI (i4z339_ + 1)), some (pvI 0)], [], M)) rfl ⟨trivial, trivial, trivial⟩ ?_
                        exact ihz339_ (i4z339_ + 1) (some (pvI 0)) (zr_wide b368_ (by decide) (by decide)) (zhid (pvms_up (zshow hmz339_) h4z339_ q369_ (by decide) (by decide)))
                      · have b370_ : 1 ≤ Int32.toInt (M.1 q362_ 5) ∧ Int32.toInt (M.1 q362_ 5) ≤ 1 := (by have u0 := b365_; have u1 := (not_congr (zi_eq _ _)).mp c366_; have u2 := (show 0 ≤ Int32.toInt 0 ∧ Int32.toInt 0 ≤ 0 from (by decide)); omega)
                        refine pw_blk hT 1 (S' := (111, [some (pvR 0), some (pvI n1), some (pvI n2), some (pvR q15_), some (pvI i4z339_), some (pvI 0)], [pvI i4z339_], M)) rfl ⟨trivial, trivial⟩ ?_
                        exact pw_ret hT rfl (r := some (pvI i4z339_)) (M' := M) ⟨rfl, rfl⟩ ⟨⟨_, rfl, (zr_wide b344_ (by decide) (by decide))⟩, rfl⟩
                    · refine pw_blkr hT 9 (pc := 103) (lo := [some (pvR 0), some (pvI n1), some (pvI n2), some (pvR q15_), some (pvI i4z339_), some (pvI 1)]) (st := [pvI 1]) (M := M) (z := (pvbs 10 + Int32.toNatClampNeg i4z339_)) rfl ⟨trivial, trivial, trivial, trivial, trivial, rfl, rfl, trivial, ⟨rfl, (zr_in (n := 7) b344_ (by decide) (by decide))⟩, trivial⟩ (fun q371_ e373_ => ?_)
                      have k372_ : pvkl q371_ = 3 := pvel_10 (zr_in (n := 7) b344_ (by decide) (by decide)) e373_
                      have b374_ : 0 ≤ Int32.toInt (M.1 q371_ 5) ∧ Int32.toInt (M.1 q371_ 5) ≤ 1 := pvok_r hok q371_ 5 ((pvrg_o 5 k372_ (by decide) (by decide)).trans rfl)
                      refine pw_blk hT 1 (S' := (106, [some (pvR 0), some (pvI n1), some (pvI n2), some (pvR q15_), some (pvI i4z339_), some (pvI 1)], [pvI (M.1 q371_ 5), pvI 1], M)) rfl ⟨k372_, trivial⟩ ?_
                      refine pw_ic hT (c := 1 = (M.1 q371_ 5)) rfl rfl (fun c375_ => ?_) (fun c375_ => ?_)
                      · have b376_ : 1 ≤ Int32.toInt (M.1 q371_ 5) ∧ Int32.toInt (M.1 q371_ 5) ≤ 1 := (by have u0 := b374_; have u1 := (zi_eq _ _).mp c375_; have u2 := (show 1 ≤ Int32.toInt 1 ∧ Int32.toInt 1 ≤ 1 from (by decide)); omega)
                        obtain ⟨q378_, b377_⟩ : (Int32.toInt (i4z339_ + 1) = Int32.toInt i4z339_ + 1) ∧ (1 ≤ Int32.toInt (i4z339_ + 1) ∧ Int32.toInt (i4z339_ + 1) ≤ 7) := zadd_k i4z339_ 1 1 1 7 b344_ (by decide) (by decide) (by decide) (by decide) (by decide)
                        refine pw_blk hT 2 (S' := (37, [some (pvR 0), some (pvI n1), some (pvI n2), some (pvR q15_), some (pvI (i4z339_ + 1)), some (pvI 1)], [], M)) rfl ⟨trivial, trivial, trivial⟩ ?_
                        exact ihz339_ (i4z339_ + 1) (some (pvI 1)) (zr_wide b377_ (by decide) (by decide)) (zhid (pvms_up (zshow hmz339_) h4z339_ q378_ (by decide) (by decide)))
                      · have b379_ : 0 ≤ Int32.toInt (M.1 q371_ 5) ∧ Int32.toInt (M.1 q371_ 5) ≤ 0 := (by have u0 := b374_; have u1 := (not_congr (zi_eq _ _)).mp c375_; have u2 := (show 1 ≤ Int32.toInt 1 ∧ Int32.toInt 1 ≤ 1 from (by decide)); omega)
                        refine pw_blk hT 1 (S' := (111, [some (pvR 0), some (pvI n1), some (pvI n2), some (pvR q15_), some (pvI i4z339_), some (pvI 1)], [pvI i4z339_], M)) rfl ⟨trivial, trivial⟩ ?_
                        exact pw_ret hT rfl (r := some (pvI i4z339_)) (M' := M) ⟨rfl, rfl⟩ ⟨⟨_, rfl, (zr_wide b344_ (by decide) (by decide))⟩, rfl⟩
                  · have d380_ : Int32.toInt n2 ≥ Int32.toInt ((M.1 q15_ 1) - i4z339_) := Int.not_lt.mp ((not_congr (zi_lt _ _)).mp c354_)
                    obtain ⟨q382_, b381_⟩ : (Int32.toInt (100 + i4z339_) = 100 + Int32.toInt i4z339_) ∧ (100 ≤ Int32.toInt (100 + i4z339_) ∧ Int32.toInt (100 + i4z339_) ≤ 106) := zadd_q 100 i4z339_ 100 100 106 b344_ (by decide) (by decide) (by decide) (by decide) (by decide)
                    refine pw_blk hT 3 (S' := (69, [some (pvR 0), some (pvI n1), some (pvI n2), some (pvR q15_), some (pvI i4z339_), v5z339_], [pvI (100 + i4z339_)], M)) rfl ⟨trivial, trivial, trivial, trivial⟩ ?_
                    exact pw_ret hT rfl (r := some (pvI (100 + i4z339_))) (M' := M) ⟨rfl, rfl⟩ ⟨⟨_, rfl, (zr_wide b381_ (by decide) (by decide))⟩, rfl⟩
          exact hlz339_ _ 0 none (zr_wide (show 0 ≤ Int32.toInt 0 ∧ Int32.toInt 0 ≤ 0 from (by decide)) (by decide) (by decide)) (zhid (Nat.lt_succ_self _))
        · have b383_ : 0 ≤ Int32.toInt (M.1 q15_ 0) ∧ Int32.toInt (M.1 q15_ 0) ≤ 3 := (by have u0 := b203_; have u1 := (not_congr (zi_eq _ _)).mp c205_; have u2 := (show 4 ≤ Int32.toInt 4 ∧ Int32.toInt 4 ≤ 4 from (by decide)); omega)
          refine pw_blk hT 1 (S' := (33, [some (pvR 0), some (pvI n1), some (pvI n2), some (pvR q15_), none, none], [pvI (-12)], M)) rfl ⟨trivial, trivial⟩ ?_
          exact pw_ret hT rfl (r := some (pvI (-12))) (M' := M) ⟨rfl, rfl⟩ ⟨⟨_, rfl, (zr_wide (show (-12) ≤ Int32.toInt (-12) ∧ Int32.toInt (-12) ≤ (-12) from (by decide)) (by decide) (by decide))⟩, rfl⟩
set_option maxHeartbeats 4000000 in
set_option maxRecDepth 10000 in
theorem sf_X9_read_0_x_x (M : pvM) (hok : pvOk M) (n1 : Int32) (n2 : Int32) (d : Nat) : PW 194 d (0, [some (pvR 0), some (pvI n1), some (pvI n2)], [], M) (fun r X => (∃ x : Int64, r = some (pvJ x)) ∧ X = M) := by
  have hT : pvdom 194 = pvD_194 := rfl
  refine pw_blk hT 1 (S' := (1, [some (pvR 0), some (pvI n1), some (pvI n2)], [pvI n1], M)) rfl ⟨trivial, trivial⟩ ?_
  refine pw_callT hT (as := [pvI n1]) (lo1 := [some (pvI n1)]) (d1 := d) (rest := []) rfl rfl rfl rfl rfl (fun h => absurd h (by decide)) (Nat.zero_le _) rfl rfl rfl (sf_X9_isTape_x M hok n1 d) ?_
  by_cases c6_ : n1 < 0
  · refine pw_eqI (if_pos c6_) ?_
    have b7_ : (-2147483648) ≤ Int32.toInt n1 ∧ Int32.toInt n1 ≤ (-1) := zr_lt_l (-1) c6_ (zbnd n1) (show 0 ≤ Int32.toInt 0 ∧ Int32.toInt 0 ≤ 0 from (by decide)) (by decide)
    show PW 194 d (4, [some (pvR 0), some (pvI n1), some (pvI n2)], [pvI 0], M) _
    refine pw_if hT (c := 0 = 0) rfl rfl (fun c8_ => ?_) (fun c8_ => absurd (by decide) c8_)
    refine pw_blk hT 1 (S' := (23, [some (pvR 0), some (pvI n1), some (pvI n2)], [pvJ (-9223372036854775808)], M)) rfl ⟨trivial, trivial⟩ ?_
    exact pw_ret hT rfl (r := some (pvJ (-9223372036854775808))) (M' := M) ⟨rfl, rfl⟩ ⟨⟨_, rfl⟩, rfl⟩
  · refine pw_eqI (if_neg c6_) ?_
    have b9_ : 0 ≤ Int32.toInt n1 ∧ Int32.toInt n1 ≤ 2147483647 := zr_nlt_l 0 c6_ (zbnd n1) (show 0 ≤ Int32.toInt 0 ∧ Int32.toInt 0 ≤ 0 from (by decide)) (by decide)
    by_cases c10_ : 5 < n1
    · refine pw_eqI (if_pos c10_) ?_
      have b11_ : 6 ≤ Int32.toInt n1 ∧ Int32.toInt n1 ≤ 2147483647 := zr_lt_r 6 c10_ b9_ (show 5 ≤ Int32.toInt 5 ∧ Int32.toInt 5 ≤ 5 from (by decide)) (by decide)
      show PW 194 d (4, [some (pvR 0), some (pvI n1), some (pvI n2)], [pvI 0], M) _
      refine pw_if hT (c := 0 = 0) rfl rfl (fun c12_ => ?_) (fun c12_ => absurd (by decide) c12_)
      refine pw_blk hT 1 (S' := (23, [some (pvR 0), some (pvI n1), some (pvI n2)], [pvJ (-9223372036854775808)], M)) rfl ⟨trivial, trivial⟩ ?_
      exact pw_ret hT rfl (r := some (pvJ (-9223372036854775808))) (M' := M) ⟨rfl, rfl⟩ ⟨⟨_, rfl⟩, rfl⟩
    · refine pw_eqI (if_neg c10_) ?_
      have b13_ : 0 ≤ Int32.toInt n1 ∧ Int32.toInt n1 ≤ 5 := zr_nlt_r 5 c10_ b9_ (show 5 ≤ Int32.toInt 5 ∧ Int32.toInt 5 ≤ 5 from (by decide)) (by decide)
      show PW 194 d (4, [some (pvR 0), some (pvI n1), some (pvI n2)], [pvI 1], M) _
      refine pw_if hT (c := 1 = 0) rfl rfl (fun c14_ => absurd c14_ (by decide)) (fun c14_ => ?_)
      refine pw_blkr hT 4 (pc := 13) (lo := [some (pvR 0), some (pvI n1), some (pvI n2)]) (st := []) (M := M) (z := (pvbs 2 + Int32.toNatClampNeg n1)) rfl ⟨trivial, rfl, trivial, ⟨rfl, (zr_in (n := 6) b13_ (by decide) (by decide))⟩, trivial⟩ (fun q15_ e17_ => ?_)
      have k16_ : pvkl q15_ = 7 := pvel_2 (zr_in (n := 6) b13_ (by decide) (by decide)) e17_
      refine pw_blk hT 1 (S' := (14, [some (pvR 0), some (pvI n1), some (pvI n2)], [pvI n2, pvR q15_], M)) rfl ⟨trivial, trivial⟩ ?_
      refine pw_callT hT (as := [pvR q15_, pvI n2]) (lo1 := [some (pvR q15_), some (pvI n2)]) (d1 := d) (rest := []) rfl rfl rfl rfl rfl (fun _ => k16_) (Nat.zero_le _) rfl rfl rfl (sf_X8_hasPlace_x_x M hok q15_ n2 k16_ d) ?_
      by_cases c23_ : n2 < 0
      · refine pw_eqI (if_pos c23_) ?_
        have b24_ : (-2147483648) ≤ Int32.toInt n2 ∧ Int32.toInt n2 ≤ (-1) := zr_lt_l (-1) c23_ (zbnd n2) (show 0 ≤ Int32.toInt 0 ∧ Int32.toInt 0 ≤ 0 from (by decide)) (by decide)
        show PW 194 d (17, [some (pvR 0), some (pvI n1), some (pvI n2)], [pvI 0], M) _
        refine pw_ifn hT (c := 0 = 0) rfl rfl (fun c25_ => absurd (by decide) c25_) (fun c25_ => ?_)
        refine pw_blk hT 1 (S' := (23, [some (pvR 0), some (pvI n1), some (pvI n2)], [pvJ (-9223372036854775808)], M)) rfl ⟨trivial, trivial⟩ ?_
        exact pw_ret hT rfl (r := some (pvJ (-9223372036854775808))) (M' := M) ⟨rfl, rfl⟩ ⟨⟨_, rfl⟩, rfl⟩
      · refine pw_eqI (if_neg c23_) ?_
        have b26_ : 0 ≤ Int32.toInt n2 ∧ Int32.toInt n2 ≤ 2147483647 := zr_nlt_l 0 c23_ (zbnd n2) (show 0 ≤ Int32.toInt 0 ∧ Int32.toInt 0 ≤ 0 from (by decide)) (by decide)
        have b27_ : 0 ≤ Int32.toInt (M.1 q15_ 1) ∧ Int32.toInt (M.1 q15_ 1) ≤ 60 := pvok_r hok q15_ 1 ((pvrg_o 1 k16_ (by decide) (by decide)).trans rfl)
        by_cases c28_ : (M.1 q15_ 1) ≤ n2
        · refine pw_eqI (if_pos c28_) ?_
          have d29_ : Int32.toInt (M.1 q15_ 1) ≤ Int32.toInt n2 := (zi_le _ _).mp c28_
          show PW 194 d (17, [some (pvR 0), some (pvI n1), some (pvI n2)], [pvI 0], M) _
          refine pw_ifn hT (c := 0 = 0) rfl rfl (fun c30_ => absurd (by decide) c30_) (fun c30_ => ?_)
          refine pw_blk hT 1 (S' := (23, [some (pvR 0), some (pvI n1), some (pvI n2)], [pvJ (-9223372036854775808)], M)) rfl ⟨trivial, trivial⟩ ?_
          exact pw_ret hT rfl (r := some (pvJ (-9223372036854775808))) (M' := M) ⟨rfl, rfl⟩ ⟨⟨_, rfl⟩, rfl⟩
        · refine pw_eqI (if_neg c28_) ?_
          have b31_ : 1 ≤ Int32.toInt (M.1 q15_ 1) ∧ Int32.toInt (M.1 q15_ 1) ≤ 60 := zr_nle_l 1 c28_ b27_ b26_ (by decide)
          have b32_ : 0 ≤ Int32.toInt n2 ∧ Int32.toInt n2 ≤ 59 := zr_nle_r 59 c28_ b26_ b31_ (by decide)
          have d33_ : Int32.toInt (M.1 q15_ 1) > Int32.toInt n2 := Int.not_le.mp ((not_congr (zi_le _ _)).mp c28_)
          show PW 194 d (17, [some (pvR 0), some (pvI n1), some (pvI n2)], [pvI 1], M) _
          refine pw_ifn hT (c := 1 = 0) rfl rfl (fun c34_ => ?_) (fun c34_ => absurd c34_ (by decide))
          refine pw_blkr hT 4 (pc := 30) (lo := [some (pvR 0), some (pvI n1), some (pvI n2)]) (st := []) (M := M) (z := (pvbs 2 + Int32.toNatClampNeg n1)) rfl ⟨trivial, rfl, trivial, ⟨rfl, (zr_in (n := 6) b13_ (by decide) (by decide))⟩, trivial⟩ (fun q35_ e37_ => ?_)
          have k36_ : pvkl q35_ = 7 := pvel_2 (zr_in (n := 6) b13_ (by decide) (by decide)) e37_
          refine pw_blk hT 3 (S' := (35, [some (pvR 0), some (pvI n1), some (pvI n2)], [pvJ (M.2 (q35_ + 6) (Int32.toNatClampNeg n2))], M)) rfl ⟨k36_, trivial, ⟨(pvow_7_6 k36_).1, (by rw [(pvow_7_6 k36_).2.1]; exact (zr_in (n := 60) b32_ (by decide) (by decide)))⟩, trivial⟩ ?_
          exact pw_ret hT rfl (r := some (pvJ (M.2 (q35_ + 6) (Int32.toNatClampNeg n2)))) (M' := M) ⟨rfl, rfl⟩ ⟨⟨_, rfl⟩, rfl⟩
set_option maxHeartbeats 4000000 in
set_option maxRecDepth 10000 in
theorem sf_X6_isFull_102 (M : pvM) (hok : pvOk M) (d : Nat) : PW 154 d (0, [some (pvR 102)], [], M) (fun r X => r = some (pvI ((if (M.1 102 0) < (Int32.ofNat 6) then 0 else 1))) ∧ X = M) := by
  have hT : pvdom 154 = pvD_154 := rfl
  have b1_ : 0 ≤ Int32.toInt (M.1 102 0) ∧ Int32.toInt (M.1 102 0) ≤ 6 := pvok_r hok 102 0 rfl
  refine pw_blk hT 5 (S' := (9, [some (pvR 102)], [pvI (Int32.ofNat 6), pvI (M.1 102 0)], M)) rfl ⟨trivial, rfl, trivial, rfl, rfl, trivial⟩ ?_
  refine pw_ic hT (c := (M.1 102 0) < (Int32.ofNat 6)) rfl rfl (fun c2_ => ?_) (fun c2_ => ?_)
  · have b3_ : 0 ≤ Int32.toInt (M.1 102 0) ∧ Int32.toInt (M.1 102 0) ≤ 5 := zr_lt_l 5 c2_ b1_ (show 6 ≤ Int32.toInt (Int32.ofNat 6) ∧ Int32.toInt (Int32.ofNat 6) ≤ 6 from (by decide)) (by decide)
    refine pw_blk hT 1 (S' := (17, [some (pvR 102)], [pvI 0], M)) rfl ⟨trivial, trivial⟩ ?_
    exact pw_ret hT rfl (r := some (pvI 0)) (M' := M) ⟨Or.inl rfl, rfl, rfl⟩ ⟨(by rw [if_pos c2_]), rfl⟩
  · have b4_ : 6 ≤ Int32.toInt (M.1 102 0) ∧ Int32.toInt (M.1 102 0) ≤ 6 := zr_nlt_l 6 c2_ b1_ (show 6 ≤ Int32.toInt (Int32.ofNat 6) ∧ Int32.toInt (Int32.ofNat 6) ≤ 6 from (by decide)) (by decide)
    refine pw_blk hT 2 (S' := (17, [some (pvR 102)], [pvI 1], M)) rfl ⟨trivial, trivial, trivial⟩ ?_
    exact pw_ret hT rfl (r := some (pvI 1)) (M' := M) ⟨Or.inr rfl, rfl, rfl⟩ ⟨(by rw [if_neg c2_]), rfl⟩
set_option maxHeartbeats 4000000 in
set_option maxRecDepth 10000 in
theorem sf_X8_hasSpan_x_x_x (M : pvM) (hok : pvOk M) (q0 : Nat) (n1 : Int32) (n2 : Int32) (hq0 : pvkl q0 = 7) (d : Nat) : PW 164 d (0, [some (pvR q0), some (pvI n1), some (pvI n2)], [], M) (fun r X => r = some (pvI ((if n2 < 0 then 0 else (if n1 < 0 then 0 else (if ((M.1 q0 1) - n2) < n1 then 0 else 1))))) ∧ X = M) := by
  have hT : pvdom 164 = pvD_164 := rfl
  refine pw_blk hT 1 (S' := (1, [some (pvR q0), some (pvI n1), some (pvI n2)], [pvI n2], M)) rfl ⟨trivial, trivial⟩ ?_
  refine pw_if hT (c := n2 < 0) rfl rfl (fun c1_ => ?_) (fun c1_ => ?_)
  · have b2_ : (-2147483648) ≤ Int32.toInt n2 ∧ Int32.toInt n2 ≤ (-1) := zr_lt_l (-1) c1_ (zbnd n2) (show 0 ≤ Int32.toInt 0 ∧ Int32.toInt 0 ≤ 0 from (by decide)) (by decide)
    refine pw_blk hT 1 (S' := (23, [some (pvR q0), some (pvI n1), some (pvI n2)], [pvI 0], M)) rfl ⟨trivial, trivial⟩ ?_
    exact pw_ret hT rfl (r := some (pvI 0)) (M' := M) ⟨Or.inl rfl, rfl, rfl⟩ ⟨(by rw [if_pos c1_]), rfl⟩
  · have b3_ : 0 ≤ Int32.toInt n2 ∧ Int32.toInt n2 ≤ 2147483647 := zr_nlt_l 0 c1_ (zbnd n2) (show 0 ≤ Int32.toInt 0 ∧ Int32.toInt 0 ≤ 0 from (by decide)) (by decide)
    refine pw_blk hT 1 (S' := (5, [some (pvR q0), some (pvI n1), some (pvI n2)], [pvI n1], M)) rfl ⟨trivial, trivial⟩ ?_
    refine pw_if hT (c := n1 < 0) rfl rfl (fun c4_ => ?_) (fun c4_ => ?_)
    · have b5_ : (-2147483648) ≤ Int32.toInt n1 ∧ Int32.toInt n1 ≤ (-1) := zr_lt_l (-1) c4_ (zbnd n1) (show 0 ≤ Int32.toInt 0 ∧ Int32.toInt 0 ≤ 0 from (by decide)) (by decide)
      refine pw_blk hT 1 (S' := (23, [some (pvR q0), some (pvI n1), some (pvI n2)], [pvI 0], M)) rfl ⟨trivial, trivial⟩ ?_
      exact pw_ret hT rfl (r := some (pvI 0)) (M' := M) ⟨Or.inl rfl, rfl, rfl⟩ ⟨(by rw [if_neg c1_, if_pos c4_]), rfl⟩
    · have b6_ : 0 ≤ Int32.toInt n1 ∧ Int32.toInt n1 ≤ 2147483647 := zr_nlt_l 0 c4_ (zbnd n1) (show 0 ≤ Int32.toInt 0 ∧ Int32.toInt 0 ≤ 0 from (by decide)) (by decide)
      have b7_ : 0 ≤ Int32.toInt (M.1 q0 1) ∧ Int32.toInt (M.1 q0 1) ≤ 60 := pvok_r hok q0 1 ((pvrg_o 1 hq0 (by decide) (by decide)).trans rfl)
      obtain ⟨q9_, b8_⟩ : (Int32.toInt ((M.1 q0 1) - n2) = Int32.toInt (M.1 q0 1) - Int32.toInt n2) ∧ ((-2147483647) ≤ Int32.toInt ((M.1 q0 1) - n2) ∧ Int32.toInt ((M.1 q0 1) - n2) ≤ 60) := zsub_r (M.1 q0 1) n2 (-2147483647) 60 b7_ b3_ (by decide) (by decide) (by decide) (by decide)
      refine pw_blk hT 5 (S' := (15, [some (pvR q0), some (pvI n1), some (pvI n2)], [pvI ((M.1 q0 1) - n2), pvI n1], M)) rfl ⟨trivial, trivial, hq0, trivial, trivial, trivial⟩ ?_
      refine pw_ic hT (c := ((M.1 q0 1) - n2) < n1) rfl rfl (fun c10_ => ?_) (fun c10_ => ?_)
      · have d11_ : Int32.toInt ((M.1 q0 1) - n2) < Int32.toInt n1 := (zi_lt _ _).mp c10_
        refine pw_blk hT 1 (S' := (23, [some (pvR q0), some (pvI n1), some (pvI n2)], [pvI 0], M)) rfl ⟨trivial, trivial⟩ ?_
        exact pw_ret hT rfl (r := some (pvI 0)) (M' := M) ⟨Or.inl rfl, rfl, rfl⟩ ⟨(by rw [if_neg c1_, if_neg c4_, if_pos c10_]), rfl⟩
      · have b12_ : 0 ≤ Int32.toInt ((M.1 q0 1) - n2) ∧ Int32.toInt ((M.1 q0 1) - n2) ≤ 60 := zr_nlt_l 0 c10_ b8_ b6_ (by decide)
        have b13_ : 0 ≤ Int32.toInt n1 ∧ Int32.toInt n1 ≤ 60 := zr_nlt_r 60 c10_ b6_ b12_ (by decide)
        have d14_ : Int32.toInt ((M.1 q0 1) - n2) ≥ Int32.toInt n1 := Int.not_lt.mp ((not_congr (zi_lt _ _)).mp c10_)
        refine pw_blk hT 2 (S' := (23, [some (pvR q0), some (pvI n1), some (pvI n2)], [pvI 1], M)) rfl ⟨trivial, trivial, trivial⟩ ?_
        exact pw_ret hT rfl (r := some (pvI 1)) (M' := M) ⟨Or.inr rfl, rfl, rfl⟩ ⟨(by rw [if_neg c1_, if_neg c4_, if_neg c10_]), rfl⟩
def fpL_X9_shift_0_x_x_x_x_x : List (Nat × Nat × Nat) := []
def fp_X9_shift_0_x_x_x_x_x (q k : Nat) : Bool := pvfp fpL_X9_shift_0_x_x_x_x_x q k
set_option maxHeartbeats 4000000 in
set_option maxRecDepth 10000 in
theorem sf_X9_shift_0_x_x_x_x_x (M : pvM) (hok : pvOk M) (n1 : Int32) (n2 : Int32) (n3 : Int32) (n4 : Int32) (n5 : Int32) (d : Nat) : PW 198 d (0, [some (pvR 0), some (pvI n1), some (pvI n2), some (pvI n3), some (pvI n4), some (pvI n5), none, none], [], M) (fun r X => (∃ x : Int32, r = some (pvI x) ∧ (-13) ≤ Int32.toInt x ∧ Int32.toInt x ≤ 2147483647) ∧ pvOk X ∧ pvFr fp_X9_shift_0_x_x_x_x_x M X) := by
  have hT : pvdom 198 = pvD_198 := rfl
  refine pw_blk hT 1 (S' := (1, [some (pvR 0), some (pvI n1), some (pvI n2), some (pvI n3), some (pvI n4), some (pvI n5), none, none], [pvI n1], M)) rfl ⟨trivial, trivial⟩ ?_
  refine pw_callT hT (as := [pvI n1]) (lo1 := [some (pvI n1)]) (d1 := d) (rest := []) rfl rfl rfl rfl rfl (fun h => absurd h (by decide)) (Nat.zero_le _) rfl rfl rfl (sf_X9_isTape_x M hok n1 d) ?_
  by_cases c6_ : n1 < 0
  · refine pw_eqI (if_pos c6_) ?_
    have b7_ : (-2147483648) ≤ Int32.toInt n1 ∧ Int32.toInt n1 ≤ (-1) := zr_lt_l (-1) c6_ (zbnd n1) (show 0 ≤ Int32.toInt 0 ∧ Int32.toInt 0 ≤ 0 from (by decide)) (by decide)
    show PW 198 d (4, [some (pvR 0), some (pvI n1), some (pvI n2), some (pvI n3), some (pvI n4), some (pvI n5), none, none], [pvI 0], M) _
    refine pw_if hT (c := 0 = 0) rfl rfl (fun c8_ => ?_) (fun c8_ => absurd (by decide) c8_)
    refine pw_blk hT 1 (S' := (15, [some (pvR 0), some (pvI n1), some (pvI n2), some (pvI n3), some (pvI n4), some (pvI n5), none, none], [pvI (-1)], M)) rfl ⟨trivial, trivial⟩ ?_
    exact pw_ret hT rfl (r := some (pvI (-1))) (M' := M) ⟨rfl, rfl⟩ ⟨⟨_, rfl, (zr_wide (show (-1) ≤ Int32.toInt (-1) ∧ Int32.toInt (-1) ≤ (-1) from (by decide)) (by decide) (by decide))⟩, hok, pvfr_0⟩
  · refine pw_eqI (if_neg c6_) ?_
    have b9_ : 0 ≤ Int32.toInt n1 ∧ Int32.toInt n1 ≤ 2147483647 := zr_nlt_l 0 c6_ (zbnd n1) (show 0 ≤ Int32.toInt 0 ∧ Int32.toInt 0 ≤ 0 from (by decide)) (by decide)
    by_cases c10_ : 5 < n1
    · refine pw_eqI (if_pos c10_) ?_
      have b11_ : 6 ≤ Int32.toInt n1 ∧ Int32.toInt n1 ≤ 2147483647 := zr_lt_r 6 c10_ b9_ (show 5 ≤ Int32.toInt 5 ∧ Int32.toInt 5 ≤ 5 from (by decide)) (by decide)
      show PW 198 d (4, [some (pvR 0), some (pvI n1), some (pvI n2), some (pvI n3), some (pvI n4), some (pvI n5), none, none], [pvI 0], M) _
      refine pw_if hT (c := 0 = 0) rfl rfl (fun c12_ => ?_) (fun c12_ => absurd (by decide) c12_)
      refine pw_blk hT 1 (S' := (15, [some (pvR 0), some (pvI n1), some (pvI n2), some (pvI n3), some (pvI n4), some (pvI n5), none, none], [pvI (-1)], M)) rfl ⟨trivial, trivial⟩ ?_
      exact pw_ret hT rfl (r := some (pvI (-1))) (M' := M) ⟨rfl, rfl⟩ ⟨⟨_, rfl, (zr_wide (show (-1) ≤ Int32.toInt (-1) ∧ Int32.toInt (-1) ≤ (-1) from (by decide)) (by decide) (by decide))⟩, hok, pvfr_0⟩
    · refine pw_eqI (if_neg c10_) ?_
      have b13_ : 0 ≤ Int32.toInt n1 ∧ Int32.toInt n1 ≤ 5 := zr_nlt_r 5 c10_ b9_ (show 5 ≤ Int32.toInt 5 ∧ Int32.toInt 5 ≤ 5 from (by decide)) (by decide)
      show PW 198 d (4, [some (pvR 0), some (pvI n1), some (pvI n2), some (pvI n3), some (pvI n4), some (pvI n5), none, none], [pvI 1], M) _
      refine pw_if hT (c := 1 = 0) rfl rfl (fun c14_ => absurd c14_ (by decide)) (fun c14_ => ?_)
      refine pw_blk hT 1 (S' := (8, [some (pvR 0), some (pvI n1), some (pvI n2), some (pvI n3), some (pvI n4), some (pvI n5), none, none], [pvI n3], M)) rfl ⟨trivial, trivial⟩ ?_
      refine pw_callT hT (as := [pvI n3]) (lo1 := [some (pvI n3)]) (d1 := d) (rest := []) rfl rfl rfl rfl rfl (fun h => absurd h (by decide)) (Nat.zero_le _) rfl rfl rfl (sf_X9_isTape_x M hok n3 d) ?_
      by_cases c20_ : n3 < 0
      · refine pw_eqI (if_pos c20_) ?_
        have b21_ : (-2147483648) ≤ Int32.toInt n3 ∧ Int32.toInt n3 ≤ (-1) := zr_lt_l (-1) c20_ (zbnd n3) (show 0 ≤ Int32.toInt 0 ∧ Int32.toInt 0 ≤ 0 from (by decide)) (by decide)
        show PW 198 d (11, [some (pvR 0), some (pvI n1), some (pvI n2), some (pvI n3), some (pvI n4), some (pvI n5), none, none], [pvI 0], M) _
        refine pw_ifn hT (c := 0 = 0) rfl rfl (fun c22_ => absurd (by decide) c22_) (fun c22_ => ?_)
        refine pw_blk hT 1 (S' := (15, [some (pvR 0), some (pvI n1), some (pvI n2), some (pvI n3), some (pvI n4), some (pvI n5), none, none], [pvI (-1)], M)) rfl ⟨trivial, trivial⟩ ?_
        exact pw_ret hT rfl (r := some (pvI (-1))) (M' := M) ⟨rfl, rfl⟩ ⟨⟨_, rfl, (zr_wide (show (-1) ≤ Int32.toInt (-1) ∧ Int32.toInt (-1) ≤ (-1) from (by decide)) (by decide) (by decide))⟩, hok, pvfr_0⟩
      · refine pw_eqI (if_neg c20_) ?_
        have b23_ : 0 ≤ Int32.toInt n3 ∧ Int32.toInt n3 ≤ 2147483647 := zr_nlt_l 0 c20_ (zbnd n3) (show 0 ≤ Int32.toInt 0 ∧ Int32.toInt 0 ≤ 0 from (by decide)) (by decide)
        by_cases c24_ : 5 < n3
        · refine pw_eqI (if_pos c24_) ?_
          have b25_ : 6 ≤ Int32.toInt n3 ∧ Int32.toInt n3 ≤ 2147483647 := zr_lt_r 6 c24_ b23_ (show 5 ≤ Int32.toInt 5 ∧ Int32.toInt 5 ≤ 5 from (by decide)) (by decide)
          show PW 198 d (11, [some (pvR 0), some (pvI n1), some (pvI n2), some (pvI n3), some (pvI n4), some (pvI n5), none, none], [pvI 0], M) _
          refine pw_ifn hT (c := 0 = 0) rfl rfl (fun c26_ => absurd (by decide) c26_) (fun c26_ => ?_)
          refine pw_blk hT 1 (S' := (15, [some (pvR 0), some (pvI n1), some (pvI n2), some (pvI n3), some (pvI n4), some (pvI n5), none, none], [pvI (-1)], M)) rfl ⟨trivial, trivial⟩ ?_
          exact pw_ret hT rfl (r := some (pvI (-1))) (M' := M) ⟨rfl, rfl⟩ ⟨⟨_, rfl, (zr_wide (show (-1) ≤ Int32.toInt (-1) ∧ Int32.toInt (-1) ≤ (-1) from (by decide)) (by decide) (by decide))⟩, hok, pvfr_0⟩
        · refine pw_eqI (if_neg c24_) ?_
          have b27_ : 0 ≤ Int32.toInt n3 ∧ Int32.toInt n3 ≤ 5 := zr_nlt_r 5 c24_ b23_ (show 5 ≤ Int32.toInt 5 ∧ Int32.toInt 5 ≤ 5 from (by decide)) (by decide)
          show PW 198 d (11, [some (pvR 0), some (pvI n1), some (pvI n2), some (pvI n3), some (pvI n4), some (pvI n5), none, none], [pvI 1], M) _
          refine pw_ifn hT (c := 1 = 0) rfl rfl (fun c28_ => ?_) (fun c28_ => absurd c28_ (by decide))
          refine pw_blkr hT 4 (pc := 22) (lo := [some (pvR 0), some (pvI n1), some (pvI n2), some (pvI n3), some (pvI n4), some (pvI n5), none, none]) (st := []) (M := M) (z := (pvbs 2 + Int32.toNatClampNeg n1)) rfl ⟨trivial, rfl, trivial, ⟨rfl, (zr_in (n := 6) b13_ (by decide) (by decide))⟩, trivial⟩ (fun q29_ e31_ => ?_)
          have k30_ : pvkl q29_ = 7 := pvel_2 (zr_in (n := 6) b13_ (by decide) (by decide)) e31_
          refine pw_blkr hT 5 (pc := 30) (lo := [some (pvR 0), some (pvI n1), some (pvI n2), some (pvI n3), some (pvI n4), some (pvI n5), some (pvR q29_), none]) (st := []) (M := M) (z := (pvbs 2 + Int32.toNatClampNeg n3)) rfl ⟨trivial, trivial, rfl, trivial, ⟨rfl, (zr_in (n := 6) b27_ (by decide) (by decide))⟩, trivial⟩ (fun q32_ e34_ => ?_)
          have k33_ : pvkl q32_ = 7 := pvel_2 (zr_in (n := 6) b27_ (by decide) (by decide)) e34_
          refine pw_blk hT 2 (S' := (34, [some (pvR 0), some (pvI n1), some (pvI n2), some (pvI n3), some (pvI n4), some (pvI n5), some (pvR q29_), some (pvR q32_)], [pvR q29_], M)) rfl ⟨trivial, trivial, trivial⟩ ?_
          refine pw_callT hT (as := [pvR q29_]) (lo1 := [some (pvR q29_)]) (d1 := d) (rest := []) rfl rfl rfl rfl rfl (fun _ => k30_) (Nat.zero_le _) rfl rfl rfl (sf_X8_isNothing_x M hok q29_ k30_ d) ?_
          have b40_ : (-1) ≤ Int32.toInt (M.1 q29_ 0) ∧ Int32.toInt (M.1 q29_ 0) ≤ 4 := pvok_r hok q29_ 0 ((pvrg_o 0 k30_ (by decide) (by decide)).trans rfl)
          by_cases c41_ : (M.1 q29_ 0) = (-1)
          · refine pw_eqI (if_pos c41_) ?_
            have b42_ : (-1) ≤ Int32.toInt (M.1 q29_ 0) ∧ Int32.toInt (M.1 q29_ 0) ≤ (-1) := (by have u0 := b40_; have u1 := (zi_eq _ _).mp c41_; have u2 := (show (-1) ≤ Int32.toInt (-1) ∧ Int32.toInt (-1) ≤ (-1) from (by decide)); omega)
            show PW 198 d (37, [some (pvR 0), some (pvI n1), some (pvI n2), some (pvI n3), some (pvI n4), some (pvI n5), some (pvR q29_), some (pvR q32_)], [pvI 1], M) _
            refine pw_ifn hT (c := 1 = 0) rfl rfl (fun c43_ => ?_) (fun c43_ => absurd c43_ (by decide))
            refine pw_blk hT 1 (S' := (50, [some (pvR 0), some (pvI n1), some (pvI n2), some (pvI n3), some (pvI n4), some (pvI n5), some (pvR q29_), some (pvR q32_)], [pvI (-11)], M)) rfl ⟨trivial, trivial⟩ ?_
            exact pw_ret hT rfl (r := some (pvI (-11))) (M' := M) ⟨rfl, rfl⟩ ⟨⟨_, rfl, (zr_wide (show (-11) ≤ Int32.toInt (-11) ∧ Int32.toInt (-11) ≤ (-11) from (by decide)) (by decide) (by decide))⟩, hok, pvfr_0⟩
          · refine pw_eqI (if_neg c41_) ?_
            have b44_ : 0 ≤ Int32.toInt (M.1 q29_ 0) ∧ Int32.toInt (M.1 q29_ 0) ≤ 4 := (by have u0 := b40_; have u1 := (not_congr (zi_eq _ _)).mp c41_; have u2 := (show (-1) ≤ Int32.toInt (-1) ∧ Int32.toInt (-1) ≤ (-1) from (by decide)); omega)
            show PW 198 d (37, [some (pvR 0), some (pvI n1), some (pvI n2), some (pvI n3), some (pvI n4), some (pvI n5), some (pvR q29_), some (pvR q32_)], [pvI 0], M) _
            refine pw_ifn hT (c := 0 = 0) rfl rfl (fun c45_ => absurd (by decide) c45_) (fun c45_ => ?_)
            refine pw_blk hT 1 (S' := (42, [some (pvR 0), some (pvI n1), some (pvI n2), some (pvI n3), some (pvI n4), some (pvI n5), some (pvR q29_), some (pvR q32_)], [pvR q32_], M)) rfl ⟨trivial, trivial⟩ ?_
            refine pw_callT hT (as := [pvR q32_]) (lo1 := [some (pvR q32_)]) (d1 := d) (rest := []) rfl rfl rfl rfl rfl (fun _ => k33_) (Nat.zero_le _) rfl rfl rfl (sf_X8_isNothing_x M hok q32_ k33_ d) ?_
            have b51_ : (-1) ≤ Int32.toInt (M.1 q32_ 0) ∧ Int32.toInt (M.1 q32_ 0) ≤ 4 := pvok_r hok q32_ 0 ((pvrg_o 0 k33_ (by decide) (by decide)).trans rfl)
            by_cases c52_ : (M.1 q32_ 0) = (-1)
            · refine pw_eqI (if_pos c52_) ?_
              have b53_ : (-1) ≤ Int32.toInt (M.1 q32_ 0) ∧ Int32.toInt (M.1 q32_ 0) ≤ (-1) := (by have u0 := b51_; have u1 := (zi_eq _ _).mp c52_; have u2 := (show (-1) ≤ Int32.toInt (-1) ∧ Int32.toInt (-1) ≤ (-1) from (by decide)); omega)
              show PW 198 d (45, [some (pvR 0), some (pvI n1), some (pvI n2), some (pvI n3), some (pvI n4), some (pvI n5), some (pvR q29_), some (pvR q32_)], [pvI 1], M) _
              refine pw_if hT (c := 1 = 0) rfl rfl (fun c54_ => absurd c54_ (by decide)) (fun c54_ => ?_)
              refine pw_blk hT 1 (S' := (50, [some (pvR 0), some (pvI n1), some (pvI n2), some (pvI n3), some (pvI n4), some (pvI n5), some (pvR q29_), some (pvR q32_)], [pvI (-11)], M)) rfl ⟨trivial, trivial⟩ ?_
              exact pw_ret hT rfl (r := some (pvI (-11))) (M' := M) ⟨rfl, rfl⟩ ⟨⟨_, rfl, (zr_wide (show (-11) ≤ Int32.toInt (-11) ∧ Int32.toInt (-11) ≤ (-11) from (by decide)) (by decide) (by decide))⟩, hok, pvfr_0⟩
            · refine pw_eqI (if_neg c52_) ?_
              have b55_ : 0 ≤ Int32.toInt (M.1 q32_ 0) ∧ Int32.toInt (M.1 q32_ 0) ≤ 4 := (by have u0 := b51_; have u1 := (not_congr (zi_eq _ _)).mp c52_; have u2 := (show (-1) ≤ Int32.toInt (-1) ∧ Int32.toInt (-1) ≤ (-1) from (by decide)); omega)
              show PW 198 d (45, [some (pvR 0), some (pvI n1), some (pvI n2), some (pvI n3), some (pvI n4), some (pvI n5), some (pvR q29_), some (pvR q32_)], [pvI 0], M) _
              refine pw_if hT (c := 0 = 0) rfl rfl (fun c56_ => ?_) (fun c56_ => absurd (by decide) c56_)
              refine pw_blk hT 4 (S' := (61, [some (pvR 0), some (pvI n1), some (pvI n2), some (pvI n3), some (pvI n4), some (pvI n5), some (pvR q29_), some (pvR q32_)], [pvI (M.1 q32_ 0), pvI (M.1 q29_ 0)], M)) rfl ⟨trivial, k30_, trivial, k33_, trivial⟩ ?_
              refine pw_ic hT (c := (M.1 q29_ 0) = (M.1 q32_ 0)) rfl rfl (fun c57_ => ?_) (fun c57_ => ?_)
              · have d58_ : Int32.toInt (M.1 q29_ 0) = Int32.toInt (M.1 q32_ 0) := (zi_eq _ _).mp c57_
                refine pw_blk hT 3 (S' := (72, [some (pvR 0), some (pvI n1), some (pvI n2), some (pvI n3), some (pvI n4), some (pvI n5), some (pvR q29_), some (pvR q32_)], [pvI n5, pvI n2, pvR q29_], M)) rfl ⟨trivial, trivial, trivial, trivial⟩ ?_
                refine pw_callT hT (as := [pvR q29_, pvI n2, pvI n5]) (lo1 := [some (pvR q29_), some (pvI n2), some (pvI n5)]) (d1 := d) (rest := []) rfl rfl rfl rfl rfl (fun _ => k30_) (Nat.zero_le _) rfl rfl rfl (sf_X8_hasSpan_x_x_x M hok q29_ n2 n5 k30_ d) ?_
                by_cases c64_ : n5 < 0
                · refine pw_eqI (if_pos c64_) ?_
                  have b65_ : (-2147483648) ≤ Int32.toInt n5 ∧ Int32.toInt n5 ≤ (-1) := zr_lt_l (-1) c64_ (zbnd n5) (show 0 ≤ Int32.toInt 0 ∧ Int32.toInt 0 ≤ 0 from (by decide)) (by decide)
                  show PW 198 d (75, [some (pvR 0), some (pvI n1), some (pvI n2), some (pvI n3), some (pvI n4), some (pvI n5), some (pvR q29_), some (pvR q32_)], [pvI 0], M) _
                  refine pw_if hT (c := 0 = 0) rfl rfl (fun c66_ => ?_) (fun c66_ => absurd (by decide) c66_)
                  refine pw_blk hT 1 (S' := (92, [some (pvR 0), some (pvI n1), some (pvI n2), some (pvI n3), some (pvI n4), some (pvI n5), some (pvR q29_), some (pvR q32_)], [pvI (-13)], M)) rfl ⟨trivial, trivial⟩ ?_
                  exact pw_ret hT rfl (r := some (pvI (-13))) (M' := M) ⟨rfl, rfl⟩ ⟨⟨_, rfl, (zr_wide (show (-13) ≤ Int32.toInt (-13) ∧ Int32.toInt (-13) ≤ (-13) from (by decide)) (by decide) (by decide))⟩, hok, pvfr_0⟩
                · refine pw_eqI (if_neg c64_) ?_
                  have b67_ : 0 ≤ Int32.toInt n5 ∧ Int32.toInt n5 ≤ 2147483647 := zr_nlt_l 0 c64_ (zbnd n5) (show 0 ≤ Int32.toInt 0 ∧ Int32.toInt 0 ≤ 0 from (by decide)) (by decide)
                  by_cases c68_ : n2 < 0
                  · refine pw_eqI (if_pos c68_) ?_
                    have b69_ : (-2147483648) ≤ Int32.toInt n2 ∧ Int32.toInt n2 ≤ (-1) := zr_lt_l (-1) c68_ (zbnd n2) (show 0 ≤ Int32.toInt 0 ∧ Int32.toInt 0 ≤ 0 from (by decide)) (by decide)
                    show PW 198 d (75, [some (pvR 0), some (pvI n1), some (pvI n2), some (pvI n3), some (pvI n4), some (pvI n5), some (pvR q29_), some (pvR q32_)], [pvI 0], M) _
                    refine pw_if hT (c := 0 = 0) rfl rfl (fun c70_ => ?_) (fun c70_ => absurd (by decide) c70_)
                    refine pw_blk hT 1 (S' := (92, [some (pvR 0), some (pvI n1), some (pvI n2), some (pvI n3), some (pvI n4), some (pvI n5), some (pvR q29_), some (pvR q32_)], [pvI (-13)], M)) rfl ⟨trivial, trivial⟩ ?_
                    exact pw_ret hT rfl (r := some (pvI (-13))) (M' := M) ⟨rfl, rfl⟩ ⟨⟨_, rfl, (zr_wide (show (-13) ≤ Int32.toInt (-13) ∧ Int32.toInt (-13) ≤ (-13) from (by decide)) (by decide) (by decide))⟩, hok, pvfr_0⟩
                  · refine pw_eqI (if_neg c68_) ?_
                    have b71_ : 0 ≤ Int32.toInt n2 ∧ Int32.toInt n2 ≤ 2147483647 := zr_nlt_l 0 c68_ (zbnd n2) (show 0 ≤ Int32.toInt 0 ∧ Int32.toInt 0 ≤ 0 from (by decide)) (by decide)
                    have b72_ : 0 ≤ Int32.toInt (M.1 q29_ 1) ∧ Int32.toInt (M.1 q29_ 1) ≤ 60 := pvok_r hok q29_ 1 ((pvrg_o 1 k30_ (by decide) (by decide)).trans rfl)
                    obtain ⟨q74_, b73_⟩ : (Int32.toInt ((M.1 q29_ 1) - n5) = Int32.toInt (M.1 q29_ 1) - Int32.toInt n5) ∧ ((-2147483647) ≤ Int32.toInt ((M.1 q29_ 1) - n5) ∧ Int32.toInt ((M.1 q29_ 1) - n5) ≤ 60) := zsub_r (M.1 q29_ 1) n5 (-2147483647) 60 b72_ b67_ (by decide) (by decide) (by decide) (by decide)
                    by_cases c75_ : ((M.1 q29_ 1) - n5) < n2
                    · refine pw_eqI (if_pos c75_) ?_
                      have d76_ : Int32.toInt ((M.1 q29_ 1) - n5) < Int32.toInt n2 := (zi_lt _ _).mp c75_
                      show PW 198 d (75, [some (pvR 0), some (pvI n1), some (pvI n2), some (pvI n3), some (pvI n4), some (pvI n5), some (pvR q29_), some (pvR q32_)], [pvI 0], M) _
                      refine pw_if hT (c := 0 = 0) rfl rfl (fun c77_ => ?_) (fun c77_ => absurd (by decide) c77_)
                      refine pw_blk hT 1 (S' := (92, [some (pvR 0), some (pvI n1), some (pvI n2), some (pvI n3), some (pvI n4), some (pvI n5), some (pvR q29_), some (pvR q32_)], [pvI (-13)], M)) rfl ⟨trivial, trivial⟩ ?_
                      exact pw_ret hT rfl (r := some (pvI (-13))) (M' := M) ⟨rfl, rfl⟩ ⟨⟨_, rfl, (zr_wide (show (-13) ≤ Int32.toInt (-13) ∧ Int32.toInt (-13) ≤ (-13) from (by decide)) (by decide) (by decide))⟩, hok, pvfr_0⟩
                    · refine pw_eqI (if_neg c75_) ?_
                      have b78_ : 0 ≤ Int32.toInt ((M.1 q29_ 1) - n5) ∧ Int32.toInt ((M.1 q29_ 1) - n5) ≤ 60 := zr_nlt_l 0 c75_ b73_ b71_ (by decide)
                      have b79_ : 0 ≤ Int32.toInt n2 ∧ Int32.toInt n2 ≤ 60 := zr_nlt_r 60 c75_ b71_ b78_ (by decide)
                      have d80_ : Int32.toInt ((M.1 q29_ 1) - n5) ≥ Int32.toInt n2 := Int.not_lt.mp ((not_congr (zi_lt _ _)).mp c75_)
                      show PW 198 d (75, [some (pvR 0), some (pvI n1), some (pvI n2), some (pvI n3), some (pvI n4), some (pvI n5), some (pvR q29_), some (pvR q32_)], [pvI 1], M) _
                      refine pw_if hT (c := 1 = 0) rfl rfl (fun c81_ => absurd c81_ (by decide)) (fun c81_ => ?_)
                      refine pw_blk hT 3 (S' := (84, [some (pvR 0), some (pvI n1), some (pvI n2), some (pvI n3), some (pvI n4), some (pvI n5), some (pvR q29_), some (pvR q32_)], [pvI n5, pvI n4, pvR q32_], M)) rfl ⟨trivial, trivial, trivial, trivial⟩ ?_
                      refine pw_callT hT (as := [pvR q32_, pvI n4, pvI n5]) (lo1 := [some (pvR q32_), some (pvI n4), some (pvI n5)]) (d1 := d) (rest := []) rfl rfl rfl rfl rfl (fun _ => k33_) (Nat.zero_le _) rfl rfl rfl (sf_X8_hasSpan_x_x_x M hok q32_ n4 n5 k33_ d) ?_
                      refine pw_eqI (if_neg c64_) ?_
                      by_cases c87_ : n4 < 0
                      · refine pw_eqI (if_pos c87_) ?_
                        have b88_ : (-2147483648) ≤ Int32.toInt n4 ∧ Int32.toInt n4 ≤ (-1) := zr_lt_l (-1) c87_ (zbnd n4) (show 0 ≤ Int32.toInt 0 ∧ Int32.toInt 0 ≤ 0 from (by decide)) (by decide)
                        show PW 198 d (87, [some (pvR 0), some (pvI n1), some (pvI n2), some (pvI n3), some (pvI n4), some (pvI n5), some (pvR q29_), some (pvR q32_)], [pvI 0], M) _
                        refine pw_ifn hT (c := 0 = 0) rfl rfl (fun c89_ => absurd (by decide) c89_) (fun c89_ => ?_)
                        refine pw_blk hT 1 (S' := (92, [some (pvR 0), some (pvI n1), some (pvI n2), some (pvI n3), some (pvI n4), some (pvI n5), some (pvR q29_), some (pvR q32_)], [pvI (-13)], M)) rfl ⟨trivial, trivial⟩ ?_
                        exact pw_ret hT rfl (r := some (pvI (-13))) (M' := M) ⟨rfl, rfl⟩ ⟨⟨_, rfl, (zr_wide (show (-13) ≤ Int32.toInt (-13) ∧ Int32.toInt (-13) ≤ (-13) from (by decide)) (by decide) (by decide))⟩, hok, pvfr_0⟩
                      · refine pw_eqI (if_neg c87_) ?_
                        have b90_ : 0 ≤ Int32.toInt n4 ∧ Int32.toInt n4 ≤ 2147483647 := zr_nlt_l 0 c87_ (zbnd n4) (show 0 ≤ Int32.toInt 0 ∧ Int32.toInt 0 ≤ 0 from (by decide)) (by decide)
                        have b91_ : 0 ≤ Int32.toInt (M.1 q32_ 1) ∧ Int32.toInt (M.1 q32_ 1) ≤ 60 := pvok_r hok q32_ 1 ((pvrg_o 1 k33_ (by decide) (by decide)).trans rfl)
                        obtain ⟨q93_, b92_⟩ : (Int32.toInt ((M.1 q32_ 1) - n5) = Int32.toInt (M.1 q32_ 1) - Int32.toInt n5) ∧ ((-2147483647) ≤ Int32.toInt ((M.1 q32_ 1) - n5) ∧ Int32.toInt ((M.1 q32_ 1) - n5) ≤ 60) := zsub_r (M.1 q32_ 1) n5 (-2147483647) 60 b91_ b67_ (by decide) (by decide) (by decide) (by decide)
                        by_cases c94_ : ((M.1 q32_ 1) - n5) < n4
                        · refine pw_eqI (if_pos c94_) ?_
                          have d95_ : Int32.toInt ((M.1 q32_ 1) - n5) < Int32.toInt n4 := (zi_lt _ _).mp c94_
                          show PW 198 d (87, [some (pvR 0), some (pvI n1), some (pvI n2), some (pvI n3), some (pvI n4), some (pvI n5), some (pvR q29_), some (pvR q32_)], [pvI 0], M) _
                          refine pw_ifn hT (c := 0 = 0) rfl rfl (fun c96_ => absurd (by decide) c96_) (fun c96_ => ?_)
                          refine pw_blk hT 1 (S' := (92, [some (pvR 0), some (pvI n1), some (pvI n2), some (pvI n3), some (pvI n4), some (pvI n5), some (pvR q29_), some (pvR q32_)], [pvI (-13)], M)) rfl ⟨trivial, trivial⟩ ?_
                          exact pw_ret hT rfl (r := some (pvI (-13))) (M' := M) ⟨rfl, rfl⟩ ⟨⟨_, rfl, (zr_wide (show (-13) ≤ Int32.toInt (-13) ∧ Int32.toInt (-13) ≤ (-13) from (by decide)) (by decide) (by decide))⟩, hok, pvfr_0⟩
                        · refine pw_eqI (if_neg c94_) ?_
                          have b97_ : 0 ≤ Int32.toInt ((M.1 q32_ 1) - n5) ∧ Int32.toInt ((M.1 q32_ 1) - n5) ≤ 60 := zr_nlt_l 0 c94_ b92_ b90_ (by decide)
                          have b98_ : 0 ≤ Int32.toInt n4 ∧ Int32.toInt n4 ≤ 60 := zr_nlt_r 60 c94_ b90_ b97_ (by decide)
                          have d99_ : Int32.toInt ((M.1 q32_ 1) - n5) ≥ Int32.toInt n4 := Int.not_lt.mp ((not_congr (zi_lt _ _)).mp c94_)
                          show PW 198 d (87, [some (pvR 0), some (pvI n1), some (pvI n2), some (pvI n3), some (pvI n4), some (pvI n5), some (pvR q29_), some (pvR q32_)], [pvI 1], M) _
                          refine pw_ifn hT (c := 1 = 0) rfl rfl (fun c100_ => ?_) (fun c100_ => absurd c100_ (by decide))
                          refine pw_blkw hT 8 (pc := 111) (lo := [some (pvR 0), some (pvI n1), some (pvI n2), some (pvI n3), some (pvI n4), some (pvI n5), some (pvR q29_), some (pvR q32_)]) (st := []) (M := pvrL M (q32_ + 6) (va_cpy (M.2 (q29_ + 6)) (M.2 (q32_ + 6)) (Int32.toNatClampNeg n2) (Int32.toNatClampNeg n4) (Int32.toNatClampNeg n5))) rfl ⟨trivial, k30_, trivial, trivial, k33_, trivial, trivial, ⟨(pvow_7_6 k30_).1, (pvow_7_6 k33_).1, (pvnneg (b := 60) b79_), (pvnneg (b := 60) b98_), (pvnneg (b := 2147483647) b67_), (by have u0 := b79_; have u1 := b67_; have u2 := ztn n2 (by omega); have u3 := ztn n5 (by omega); rw [(pvow_7_6 k30_).2.1]; omega), (by have u0 := b98_; have u1 := b67_; have u2 := ztn n4 (by omega); have u3 := ztn n5 (by omega); rw [(pvow_7_6 k33_).2.1]; omega), Nat.le_of_ble_eq_true rfl⟩, trivial⟩ (fun M101_ e102_ => ?_)
                          have o103_ : pvOk M101_ := pvok_rL e102_ hok
                          have f104_ : pvFr fp_X9_shift_0_x_x_x_x_x M M101_ := pvfr_rL e102_ pvfr_0
                          refine pw_blk hT 1 (S' := (113, [some (pvR 0), some (pvI n1), some (pvI n2), some (pvI n3), some (pvI n4), some (pvI n5), some (pvR q29_), some (pvR q32_)], [pvI n5], M101_)) rfl ⟨trivial, trivial⟩ ?_
                          exact pw_ret hT rfl (r := some (pvI n5)) (M' := M101_) ⟨rfl, rfl⟩ ⟨⟨_, rfl, (zr_wide b67_ (by decide) (by decide))⟩, o103_, f104_⟩
              · refine pw_blk hT 1 (S' := (66, [some (pvR 0), some (pvI n1), some (pvI n2), some (pvI n3), some (pvI n4), some (pvI n5), some (pvR q29_), some (pvR q32_)], [pvI (-12)], M)) rfl ⟨trivial, trivial⟩ ?_
                exact pw_ret hT rfl (r := some (pvI (-12))) (M' := M) ⟨rfl, rfl⟩ ⟨⟨_, rfl, (zr_wide (show (-12) ≤ Int32.toInt (-12) ∧ Int32.toInt (-12) ≤ (-12) from (by decide)) (by decide) (by decide))⟩, hok, pvfr_0⟩
